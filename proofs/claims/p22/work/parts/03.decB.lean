theorem dX2_closeAuction_0 : decode cX2_closeAuction 0 = .ok (.aload_n 0, 1) := by decide +kernel
theorem dX2_closeAuction_1 : decode cX2_closeAuction 1 = .ok (.aload_n 1, 1) := by decide +kernel
theorem dX2_closeAuction_2 : decode cX2_closeAuction 2 = .ok (.iconst (-1), 1) := by decide +kernel
theorem dX2_closeAuction_3 : decode cX2_closeAuction 3 = .ok (.invokevirtual 169, 3) := by decide +kernel
theorem dX2_closeAuction_6 : decode cX2_closeAuction 6 = .ok (.istore_n 2, 1) := by decide +kernel
theorem dX2_closeAuction_7 : decode cX2_closeAuction 7 = .ok (.iload_n 2, 1) := by decide +kernel
theorem dX2_closeAuction_8 : decode cX2_closeAuction 8 = .ok (.iconst (-1), 1) := by decide +kernel
theorem dX2_closeAuction_9 : decode cX2_closeAuction 9 = .ok (.if_icmp .ne 9, 3) := by decide +kernel
theorem dX2_closeAuction_12 : decode cX2_closeAuction 12 = .ok (.aload_n 1, 1) := by decide +kernel
theorem dX2_closeAuction_13 : decode cX2_closeAuction 13 = .ok (.invokevirtual 173, 3) := by decide +kernel
theorem dX2_closeAuction_16 : decode cX2_closeAuction 16 = .ok (.iconst 0, 1) := by decide +kernel
theorem dX2_closeAuction_17 : decode cX2_closeAuction 17 = .ok (.ireturn, 1) := by decide +kernel
theorem dX2_closeAuction_18 : decode cX2_closeAuction 18 = .ok (.aload_n 0, 1) := by decide +kernel
theorem dX2_closeAuction_19 : decode cX2_closeAuction 19 = .ok (.aload_n 1, 1) := by decide +kernel
theorem dX2_closeAuction_20 : decode cX2_closeAuction 20 = .ok (.iload_n 2, 1) := by decide +kernel
theorem dX2_closeAuction_21 : decode cX2_closeAuction 21 = .ok (.invokevirtual 169, 3) := by decide +kernel
theorem dX2_closeAuction_24 : decode cX2_closeAuction 24 = .ok (.istore_n 3, 1) := by decide +kernel
theorem dX2_closeAuction_25 : decode cX2_closeAuction 25 = .ok (.aload_n 0, 1) := by decide +kernel
theorem dX2_closeAuction_26 : decode cX2_closeAuction 26 = .ok (.iload_n 2, 1) := by decide +kernel
theorem dX2_closeAuction_27 : decode cX2_closeAuction 27 = .ok (.iload_n 3, 1) := by decide +kernel
theorem dX2_closeAuction_28 : decode cX2_closeAuction 28 = .ok (.iconst (-1), 1) := by decide +kernel
theorem dX2_closeAuction_29 : decode cX2_closeAuction 29 = .ok (.if_icmp .ne 8, 3) := by decide +kernel
theorem dX2_closeAuction_32 : decode cX2_closeAuction 32 = .ok (.bipush 10, 2) := by decide +kernel
theorem dX2_closeAuction_34 : decode cX2_closeAuction 34 = .ok (.goto 9, 3) := by decide +kernel
theorem dX2_closeAuction_37 : decode cX2_closeAuction 37 = .ok (.aload_n 1, 1) := by decide +kernel
theorem dX2_closeAuction_38 : decode cX2_closeAuction 38 = .ok (.getfield 54, 3) := by decide +kernel
theorem dX2_closeAuction_41 : decode cX2_closeAuction 41 = .ok (.iload_n 3, 1) := by decide +kernel
theorem dX2_closeAuction_42 : decode cX2_closeAuction 42 = .ok (.iaload, 1) := by decide +kernel
theorem dX2_closeAuction_43 : decode cX2_closeAuction 43 = .ok (.invokevirtual 81, 3) := by decide +kernel
theorem dX2_closeAuction_46 : decode cX2_closeAuction 46 = .ok (.aload_n 1, 1) := by decide +kernel
theorem dX2_closeAuction_47 : decode cX2_closeAuction 47 = .ok (.iload_n 2, 1) := by decide +kernel
theorem dX2_closeAuction_48 : decode cX2_closeAuction 48 = .ok (.aload_n 0, 1) := by decide +kernel
theorem dX2_closeAuction_49 : decode cX2_closeAuction 49 = .ok (.getfield 44, 3) := by decide +kernel
theorem dX2_closeAuction_52 : decode cX2_closeAuction 52 = .ok (.invokevirtual 84, 3) := by decide +kernel
theorem dX2_closeAuction_55 : decode cX2_closeAuction 55 = .ok (.iconst 1, 1) := by decide +kernel
theorem dX2_closeAuction_56 : decode cX2_closeAuction 56 = .ok (.ireturn, 1) := by decide +kernel
set_option maxRecDepth 20000 in
theorem ggX2_bestBidder_X2_canPay : GoodIn wsX2_bestBidder wsX2_canPay := goodIn_r _ [5, 6, 24, 25, 26, 27, 28, 29] (by decide +kernel) (by decide +kernel)
set_option maxRecDepth 20000 in
theorem gX2_bestBidder_X2_canPay : GoodIn wsX2_bestBidder (wsV RX2 77 RX2 yX2_canPay wsX2_canPay) := goodIn_app (goodIn_of _ (by decide +kernel)) ggX2_bestBidder_X2_canPay
set_option maxRecDepth 20000 in
theorem ggX2_bestBidder_X0_isAhead : GoodIn wsX2_bestBidder wsX0_isAhead := goodIn_r _ [10, 11, 12, 13, 14, 15, 16, 17, 18, 19, 20, 21, 22, 23] (by decide +kernel) (by decide +kernel)
set_option maxRecDepth 20000 in
theorem gX2_bestBidder_X0_isAhead_n176 : GoodIn wsX2_bestBidder (wsX0_isAhead) := ggX2_bestBidder_X0_isAhead
theorem dX2_bestBidder_0 : decode cX2_bestBidder 0 = .ok (.iconst (-1), 1) := by decide +kernel
theorem dX2_bestBidder_1 : decode cX2_bestBidder 1 = .ok (.istore_n 3, 1) := by decide +kernel
theorem dX2_bestBidder_2 : decode cX2_bestBidder 2 = .ok (.iconst 0, 1) := by decide +kernel
theorem dX2_bestBidder_3 : decode cX2_bestBidder 3 = .ok (.istore 4, 2) := by decide +kernel
theorem dX2_bestBidder_5 : decode cX2_bestBidder 5 = .ok (.iload 4, 2) := by decide +kernel
theorem dX2_bestBidder_7 : decode cX2_bestBidder 7 = .ok (.bipush 6, 2) := by decide +kernel
theorem dX2_bestBidder_9 : decode cX2_bestBidder 9 = .ok (.if_icmp .ge 71, 3) := by decide +kernel
theorem dX2_bestBidder_12 : decode cX2_bestBidder 12 = .ok (.iload 4, 2) := by decide +kernel
theorem dX2_bestBidder_14 : decode cX2_bestBidder 14 = .ok (.iload_n 2, 1) := by decide +kernel
theorem dX2_bestBidder_15 : decode cX2_bestBidder 15 = .ok (.if_icmp .eq 33, 3) := by decide +kernel
theorem dX2_bestBidder_18 : decode cX2_bestBidder 18 = .ok (.aload_n 1, 1) := by decide +kernel
theorem dX2_bestBidder_19 : decode cX2_bestBidder 19 = .ok (.getfield 54, 3) := by decide +kernel
theorem dX2_bestBidder_22 : decode cX2_bestBidder 22 = .ok (.iload 4, 2) := by decide +kernel
theorem dX2_bestBidder_24 : decode cX2_bestBidder 24 = .ok (.iaload, 1) := by decide +kernel
theorem dX2_bestBidder_25 : decode cX2_bestBidder 25 = .ok (.ifCond .le 23, 3) := by decide +kernel
theorem dX2_bestBidder_28 : decode cX2_bestBidder 28 = .ok (.aload_n 0, 1) := by decide +kernel
theorem dX2_bestBidder_29 : decode cX2_bestBidder 29 = .ok (.iload 4, 2) := by decide +kernel
theorem dX2_bestBidder_31 : decode cX2_bestBidder 31 = .ok (.aload_n 1, 1) := by decide +kernel
theorem dX2_bestBidder_32 : decode cX2_bestBidder 32 = .ok (.getfield 54, 3) := by decide +kernel
theorem dX2_bestBidder_35 : decode cX2_bestBidder 35 = .ok (.iload 4, 2) := by decide +kernel
theorem dX2_bestBidder_37 : decode cX2_bestBidder 37 = .ok (.iaload, 1) := by decide +kernel
theorem dX2_bestBidder_38 : decode cX2_bestBidder 38 = .ok (.invokevirtual 77, 3) := by decide +kernel
theorem dX2_bestBidder_41 : decode cX2_bestBidder 41 = .ok (.ifCond .eq 7, 3) := by decide +kernel
theorem dX2_bestBidder_44 : decode cX2_bestBidder 44 = .ok (.iconst 1, 1) := by decide +kernel
theorem dX2_bestBidder_45 : decode cX2_bestBidder 45 = .ok (.goto 4, 3) := by decide +kernel
theorem dX2_bestBidder_48 : decode cX2_bestBidder 48 = .ok (.iconst 0, 1) := by decide +kernel
theorem dX2_bestBidder_49 : decode cX2_bestBidder 49 = .ok (.istore 5, 2) := by decide +kernel
theorem dX2_bestBidder_51 : decode cX2_bestBidder 51 = .ok (.iload 5, 2) := by decide +kernel
theorem dX2_bestBidder_53 : decode cX2_bestBidder 53 = .ok (.ifCond .eq 21, 3) := by decide +kernel
theorem dX2_bestBidder_56 : decode cX2_bestBidder 56 = .ok (.iload_n 3, 1) := by decide +kernel
theorem dX2_bestBidder_57 : decode cX2_bestBidder 57 = .ok (.iconst (-1), 1) := by decide +kernel
theorem dX2_bestBidder_58 : decode cX2_bestBidder 58 = .ok (.if_icmp .eq 13, 3) := by decide +kernel
theorem dX2_bestBidder_61 : decode cX2_bestBidder 61 = .ok (.aload_n 1, 1) := by decide +kernel
theorem dX2_bestBidder_62 : decode cX2_bestBidder 62 = .ok (.iload 4, 2) := by decide +kernel
theorem dX2_bestBidder_64 : decode cX2_bestBidder 64 = .ok (.iload_n 3, 1) := by decide +kernel
theorem dX2_bestBidder_65 : decode cX2_bestBidder 65 = .ok (.invokevirtual 176, 3) := by decide +kernel
theorem dX2_bestBidder_68 : decode cX2_bestBidder 68 = .ok (.ifCond .eq 6, 3) := by decide +kernel
theorem dX2_bestBidder_71 : decode cX2_bestBidder 71 = .ok (.iload 4, 2) := by decide +kernel
theorem dX2_bestBidder_73 : decode cX2_bestBidder 73 = .ok (.istore_n 3, 1) := by decide +kernel
theorem dX2_bestBidder_74 : decode cX2_bestBidder 74 = .ok (.iinc 4 1, 3) := by decide +kernel
theorem dX2_bestBidder_77 : decode cX2_bestBidder 77 = .ok (.goto (-72), 3) := by decide +kernel
theorem dX2_bestBidder_80 : decode cX2_bestBidder 80 = .ok (.iload_n 3, 1) := by decide +kernel
theorem dX2_bestBidder_81 : decode cX2_bestBidder 81 = .ok (.ireturn, 1) := by decide +kernel
set_option maxRecDepth 20000 in
theorem ggJ0_length_8abf5_J0_coder_7d493 : GoodIn wsJ0_length_8abf5 wsJ0_coder_7d493 := goodIn_r _ [6, 7, 8] (by decide +kernel) (by decide +kernel)
set_option maxRecDepth 20000 in
theorem gJ0_length_8abf5_J0_coder_7d493 : GoodIn wsJ0_length_8abf5 (wsV RJ0 335 RJ0 yJ0_coder_7d493 wsJ0_coder_7d493) := goodIn_app (goodIn_of _ (by decide +kernel)) ggJ0_length_8abf5_J0_coder_7d493
theorem dJ0_length_8abf5_0 : decode cJ0_length_8abf5 0 = .ok (.aload_n 0, 1) := by decide +kernel
theorem dJ0_length_8abf5_1 : decode cJ0_length_8abf5 1 = .ok (.getfield 9, 3) := by decide +kernel
theorem dJ0_length_8abf5_4 : decode cJ0_length_8abf5 4 = .ok (.arraylength, 1) := by decide +kernel
theorem dJ0_length_8abf5_5 : decode cJ0_length_8abf5 5 = .ok (.aload_n 0, 1) := by decide +kernel
theorem dJ0_length_8abf5_6 : decode cJ0_length_8abf5 6 = .ok (.invokevirtual 335, 3) := by decide +kernel
theorem dJ0_length_8abf5_9 : decode cJ0_length_8abf5 9 = .ok (.ishr, 1) := by decide +kernel
theorem dJ0_length_8abf5_10 : decode cJ0_length_8abf5 10 = .ok (.ireturn, 1) := by decide +kernel
set_option maxRecDepth 20000 in
theorem ggJ0_charAt_5068e_J0_isLatin1_aae02 : GoodIn wsJ0_charAt_5068e wsJ0_isLatin1_aae02 := goodIn_r _ [6, 7, 8] (by decide +kernel) (by decide +kernel)
set_option maxRecDepth 20000 in
theorem gJ0_charAt_5068e_J0_isLatin1_aae02 : GoodIn wsJ0_charAt_5068e (wsV RJ0 492 RJ0 yJ0_isLatin1_aae02 wsJ0_isLatin1_aae02) := goodIn_app (goodIn_of _ (by decide +kernel)) ggJ0_charAt_5068e_J0_isLatin1_aae02
set_option maxRecDepth 20000 in
theorem ggJ0_charAt_5068e_J1_charAt_3b067 : GoodIn wsJ0_charAt_5068e wsJ1_charAt_3b067 := goodIn_r _ [12, 13, 14, 5, 15, 16, 17, 18, 19, 20] (by decide +kernel) (by decide +kernel)
set_option maxRecDepth 20000 in
theorem gJ0_charAt_5068e_J1_charAt_3b067 : GoodIn wsJ0_charAt_5068e (va_wsS RJ0 495 yJ1_charAt_3b067 wsJ1_charAt_3b067) := goodIn_app (goodIn_of _ (by decide +kernel)) ggJ0_charAt_5068e_J1_charAt_3b067
set_option maxRecDepth 20000 in
theorem ggJ0_charAt_5068e_J2_charAt_3b067 : GoodIn wsJ0_charAt_5068e wsJ2_charAt_3b067 := goodIn_r _ [24, 25, 26, 23, 27, 28, 29, 30, 31, 14, 5, 15, 16, 17, 18, 19, 20, 32, 33, 34, 35, 36, 37] (by decide +kernel) (by decide +kernel)
set_option maxRecDepth 20000 in
theorem gJ0_charAt_5068e_J2_charAt_3b067 : GoodIn wsJ0_charAt_5068e (va_wsS RJ0 498 yJ2_charAt_3b067 wsJ2_charAt_3b067) := goodIn_app (goodIn_of _ (by decide +kernel)) ggJ0_charAt_5068e_J2_charAt_3b067
theorem dJ0_charAt_5068e_0 : decode cJ0_charAt_5068e 0 = .ok (.aload_n 0, 1) := by decide +kernel
theorem dJ0_charAt_5068e_1 : decode cJ0_charAt_5068e 1 = .ok (.invokevirtual 492, 3) := by decide +kernel
theorem dJ0_charAt_5068e_4 : decode cJ0_charAt_5068e 4 = .ok (.ifCond .eq 12, 3) := by decide +kernel
theorem dJ0_charAt_5068e_7 : decode cJ0_charAt_5068e 7 = .ok (.aload_n 0, 1) := by decide +kernel
theorem dJ0_charAt_5068e_8 : decode cJ0_charAt_5068e 8 = .ok (.getfield 9, 3) := by decide +kernel
theorem dJ0_charAt_5068e_11 : decode cJ0_charAt_5068e 11 = .ok (.iload_n 1, 1) := by decide +kernel
theorem dJ0_charAt_5068e_12 : decode cJ0_charAt_5068e 12 = .ok (.invokestatic 495, 3) := by decide +kernel
theorem dJ0_charAt_5068e_15 : decode cJ0_charAt_5068e 15 = .ok (.ireturn, 1) := by decide +kernel
theorem dJ0_charAt_5068e_16 : decode cJ0_charAt_5068e 16 = .ok (.aload_n 0, 1) := by decide +kernel
theorem dJ0_charAt_5068e_17 : decode cJ0_charAt_5068e 17 = .ok (.getfield 9, 3) := by decide +kernel
theorem dJ0_charAt_5068e_20 : decode cJ0_charAt_5068e 20 = .ok (.iload_n 1, 1) := by decide +kernel
theorem dJ0_charAt_5068e_21 : decode cJ0_charAt_5068e 21 = .ok (.invokestatic 498, 3) := by decide +kernel
theorem dJ0_charAt_5068e_24 : decode cJ0_charAt_5068e 24 = .ok (.ireturn, 1) := by decide +kernel
theorem dJ0_coder_7d493_0 : decode cJ0_coder_7d493 0 = .ok (.getstatic 38, 3) := by decide +kernel
theorem dJ0_coder_7d493_3 : decode cJ0_coder_7d493 3 = .ok (.ifCond .eq 10, 3) := by decide +kernel
theorem dJ0_coder_7d493_6 : decode cJ0_coder_7d493 6 = .ok (.aload_n 0, 1) := by decide +kernel
theorem dJ0_coder_7d493_7 : decode cJ0_coder_7d493 7 = .ok (.getfield 15, 3) := by decide +kernel
theorem dJ0_coder_7d493_10 : decode cJ0_coder_7d493 10 = .ok (.goto 4, 3) := by decide +kernel
theorem dJ0_coder_7d493_13 : decode cJ0_coder_7d493 13 = .ok (.iconst 1, 1) := by decide +kernel
theorem dJ0_coder_7d493_14 : decode cJ0_coder_7d493 14 = .ok (.ireturn, 1) := by decide +kernel
theorem dJ0_isLatin1_aae02_0 : decode cJ0_isLatin1_aae02 0 = .ok (.getstatic 38, 3) := by decide +kernel
theorem dJ0_isLatin1_aae02_3 : decode cJ0_isLatin1_aae02 3 = .ok (.ifCond .eq 14, 3) := by decide +kernel
theorem dJ0_isLatin1_aae02_6 : decode cJ0_isLatin1_aae02 6 = .ok (.aload_n 0, 1) := by decide +kernel
theorem dJ0_isLatin1_aae02_7 : decode cJ0_isLatin1_aae02 7 = .ok (.getfield 15, 3) := by decide +kernel
theorem dJ0_isLatin1_aae02_10 : decode cJ0_isLatin1_aae02 10 = .ok (.ifCond .ne 7, 3) := by decide +kernel
theorem dJ0_isLatin1_aae02_13 : decode cJ0_isLatin1_aae02 13 = .ok (.iconst 1, 1) := by decide +kernel
theorem dJ0_isLatin1_aae02_14 : decode cJ0_isLatin1_aae02 14 = .ok (.goto 4, 3) := by decide +kernel
theorem dJ0_isLatin1_aae02_17 : decode cJ0_isLatin1_aae02 17 = .ok (.iconst 0, 1) := by decide +kernel
theorem dJ0_isLatin1_aae02_18 : decode cJ0_isLatin1_aae02 18 = .ok (.ireturn, 1) := by decide +kernel
set_option maxRecDepth 20000 in
theorem ggJ0_checkIndex_df160_J3_checkIndex_8e157 : GoodIn wsJ0_checkIndex_df160 wsJ3_checkIndex_8e157 := goodIn_r _ [5] (by decide +kernel) (by decide +kernel)
set_option maxRecDepth 20000 in
theorem gJ0_checkIndex_df160_J3_checkIndex_8e157 : GoodIn wsJ0_checkIndex_df160 (va_wsS RJ0 1059 yJ3_checkIndex_8e157 wsJ3_checkIndex_8e157) := goodIn_app (goodIn_of _ (by decide +kernel)) ggJ0_checkIndex_df160_J3_checkIndex_8e157
theorem dJ0_checkIndex_df160_0 : decode cJ0_checkIndex_df160 0 = .ok (.iload_n 0, 1) := by decide +kernel
theorem dJ0_checkIndex_df160_1 : decode cJ0_checkIndex_df160 1 = .ok (.iload_n 1, 1) := by decide +kernel
theorem dJ0_checkIndex_df160_2 : decode cJ0_checkIndex_df160 2 = .ok (.getstatic 1053, 3) := by decide +kernel
theorem dJ0_checkIndex_df160_5 : decode cJ0_checkIndex_df160 5 = .ok (.invokestatic 1059, 3) := by decide +kernel
theorem dJ0_checkIndex_df160_8 : decode cJ0_checkIndex_df160 8 = .ok (.pop, 1) := by decide +kernel
theorem dJ0_checkIndex_df160_9 : decode cJ0_checkIndex_df160 9 = .ok (.return_, 1) := by decide +kernel
set_option maxRecDepth 20000 in
theorem ggJ1_charAt_3b067_J0_checkIndex_df160 : GoodIn wsJ1_charAt_3b067 wsJ0_checkIndex_df160 := goodIn_r _ [4, 5, 6, 7, 8, 9] (by decide +kernel) (by decide +kernel)
set_option maxRecDepth 20000 in
theorem gJ1_charAt_3b067_J0_checkIndex_df160 : GoodIn wsJ1_charAt_3b067 (va_wsS RJ1 9 yJ0_checkIndex_df160 wsJ0_checkIndex_df160) := goodIn_app (goodIn_of _ (by decide +kernel)) ggJ1_charAt_3b067_J0_checkIndex_df160
theorem dJ1_charAt_3b067_0 : decode cJ1_charAt_3b067 0 = .ok (.iload_n 1, 1) := by decide +kernel
theorem dJ1_charAt_3b067_1 : decode cJ1_charAt_3b067 1 = .ok (.aload_n 0, 1) := by decide +kernel
theorem dJ1_charAt_3b067_2 : decode cJ1_charAt_3b067 2 = .ok (.arraylength, 1) := by decide +kernel
theorem dJ1_charAt_3b067_3 : decode cJ1_charAt_3b067 3 = .ok (.invokestatic 9, 3) := by decide +kernel
theorem dJ1_charAt_3b067_6 : decode cJ1_charAt_3b067 6 = .ok (.aload_n 0, 1) := by decide +kernel
theorem dJ1_charAt_3b067_7 : decode cJ1_charAt_3b067 7 = .ok (.iload_n 1, 1) := by decide +kernel
theorem dJ1_charAt_3b067_8 : decode cJ1_charAt_3b067 8 = .ok (.baload, 1) := by decide +kernel
theorem dJ1_charAt_3b067_9 : decode cJ1_charAt_3b067 9 = .ok (.sipush 255, 3) := by decide +kernel
theorem dJ1_charAt_3b067_12 : decode cJ1_charAt_3b067 12 = .ok (.iand, 1) := by decide +kernel
theorem dJ1_charAt_3b067_13 : decode cJ1_charAt_3b067 13 = .ok (.i2c, 1) := by decide +kernel
theorem dJ1_charAt_3b067_14 : decode cJ1_charAt_3b067 14 = .ok (.ireturn, 1) := by decide +kernel
set_option maxRecDepth 20000 in
theorem ggJ2_getChar_3b067_J2_length_9d52b : GoodIn wsJ2_getChar_3b067 wsJ2_length_9d52b := goodIn_r _ [7] (by decide +kernel) (by decide +kernel)
set_option maxRecDepth 20000 in
theorem gJ2_getChar_3b067_J2_length_9d52b : GoodIn wsJ2_getChar_3b067 (va_wsS RJ2 48 yJ2_length_9d52b wsJ2_length_9d52b) := goodIn_app (goodIn_of _ (by decide +kernel)) ggJ2_getChar_3b067_J2_length_9d52b
theorem dJ2_getChar_3b067_0 : decode cJ2_getChar_3b067 0 = .ok (.getstatic 44, 3) := by decide +kernel
theorem dJ2_getChar_3b067_3 : decode cJ2_getChar_3b067 3 = .ok (.ifCond .ne 25, 3) := by decide +kernel
theorem dJ2_getChar_3b067_6 : decode cJ2_getChar_3b067 6 = .ok (.iload_n 1, 1) := by decide +kernel
theorem dJ2_getChar_3b067_7 : decode cJ2_getChar_3b067 7 = .ok (.ifCond .lt 11, 3) := by decide +kernel
theorem dJ2_getChar_3b067_10 : decode cJ2_getChar_3b067 10 = .ok (.iload_n 1, 1) := by decide +kernel
theorem dJ2_getChar_3b067_11 : decode cJ2_getChar_3b067 11 = .ok (.aload_n 0, 1) := by decide +kernel
theorem dJ2_getChar_3b067_12 : decode cJ2_getChar_3b067 12 = .ok (.invokestatic 48, 3) := by decide +kernel
theorem dJ2_getChar_3b067_15 : decode cJ2_getChar_3b067 15 = .ok (.if_icmp .lt 13, 3) := by decide +kernel
theorem dJ2_getChar_3b067_18 : decode cJ2_getChar_3b067 18 = .ok (.new 52, 3) := by decide +kernel
theorem dJ2_getChar_3b067_21 : decode cJ2_getChar_3b067 21 = .ok (.dup, 1) := by decide +kernel
theorem dJ2_getChar_3b067_22 : decode cJ2_getChar_3b067 22 = .ok (.ldc 54, 2) := by decide +kernel
theorem dJ2_getChar_3b067_24 : decode cJ2_getChar_3b067 24 = .ok (.invokespecial 56, 3) := by decide +kernel
theorem dJ2_getChar_3b067_27 : decode cJ2_getChar_3b067 27 = .ok (.athrow, 1) := by decide +kernel
theorem dJ2_getChar_3b067_28 : decode cJ2_getChar_3b067 28 = .ok (.iload_n 1, 1) := by decide +kernel
theorem dJ2_getChar_3b067_29 : decode cJ2_getChar_3b067 29 = .ok (.iconst 1, 1) := by decide +kernel
theorem dJ2_getChar_3b067_30 : decode cJ2_getChar_3b067 30 = .ok (.ishl, 1) := by decide +kernel
theorem dJ2_getChar_3b067_31 : decode cJ2_getChar_3b067 31 = .ok (.istore_n 1, 1) := by decide +kernel
theorem dJ2_getChar_3b067_32 : decode cJ2_getChar_3b067 32 = .ok (.aload_n 0, 1) := by decide +kernel
theorem dJ2_getChar_3b067_33 : decode cJ2_getChar_3b067 33 = .ok (.iload_n 1, 1) := by decide +kernel
theorem dJ2_getChar_3b067_34 : decode cJ2_getChar_3b067 34 = .ok (.iinc 1 1, 3) := by decide +kernel
theorem dJ2_getChar_3b067_37 : decode cJ2_getChar_3b067 37 = .ok (.baload, 1) := by decide +kernel
theorem dJ2_getChar_3b067_38 : decode cJ2_getChar_3b067 38 = .ok (.sipush 255, 3) := by decide +kernel
theorem dJ2_getChar_3b067_41 : decode cJ2_getChar_3b067 41 = .ok (.iand, 1) := by decide +kernel
theorem dJ2_getChar_3b067_42 : decode cJ2_getChar_3b067 42 = .ok (.getstatic 59, 3) := by decide +kernel
theorem dJ2_getChar_3b067_45 : decode cJ2_getChar_3b067 45 = .ok (.ishl, 1) := by decide +kernel
theorem dJ2_getChar_3b067_46 : decode cJ2_getChar_3b067 46 = .ok (.aload_n 0, 1) := by decide +kernel
theorem dJ2_getChar_3b067_47 : decode cJ2_getChar_3b067 47 = .ok (.iload_n 1, 1) := by decide +kernel
theorem dJ2_getChar_3b067_48 : decode cJ2_getChar_3b067 48 = .ok (.baload, 1) := by decide +kernel
theorem dJ2_getChar_3b067_49 : decode cJ2_getChar_3b067 49 = .ok (.sipush 255, 3) := by decide +kernel
theorem dJ2_getChar_3b067_52 : decode cJ2_getChar_3b067 52 = .ok (.iand, 1) := by decide +kernel
theorem dJ2_getChar_3b067_53 : decode cJ2_getChar_3b067 53 = .ok (.getstatic 63, 3) := by decide +kernel
theorem dJ2_getChar_3b067_56 : decode cJ2_getChar_3b067 56 = .ok (.ishl, 1) := by decide +kernel
theorem dJ2_getChar_3b067_57 : decode cJ2_getChar_3b067 57 = .ok (.ior, 1) := by decide +kernel
theorem dJ2_getChar_3b067_58 : decode cJ2_getChar_3b067 58 = .ok (.i2c, 1) := by decide +kernel
theorem dJ2_getChar_3b067_59 : decode cJ2_getChar_3b067 59 = .ok (.ireturn, 1) := by decide +kernel
theorem dJ2_length_9d52b_0 : decode cJ2_length_9d52b 0 = .ok (.aload_n 0, 1) := by decide +kernel
theorem dJ2_length_9d52b_1 : decode cJ2_length_9d52b 1 = .ok (.arraylength, 1) := by decide +kernel
theorem dJ2_length_9d52b_2 : decode cJ2_length_9d52b 2 = .ok (.iconst 1, 1) := by decide +kernel
theorem dJ2_length_9d52b_3 : decode cJ2_length_9d52b 3 = .ok (.ishr, 1) := by decide +kernel
theorem dJ2_length_9d52b_4 : decode cJ2_length_9d52b 4 = .ok (.ireturn, 1) := by decide +kernel
set_option maxRecDepth 20000 in
theorem ggJ2_charAt_3b067_J2_checkIndex_2214a : GoodIn wsJ2_charAt_3b067 wsJ2_checkIndex_2214a := goodIn_r _ [4, 5, 6, 3, 7, 8, 9, 10, 11, 12, 13, 14, 15, 16] (by decide +kernel) (by decide +kernel)
set_option maxRecDepth 20000 in
theorem gJ2_charAt_3b067_J2_checkIndex_2214a : GoodIn wsJ2_charAt_3b067 (va_wsS RJ2 67 yJ2_checkIndex_2214a wsJ2_checkIndex_2214a) := goodIn_app (goodIn_of _ (by decide +kernel)) ggJ2_charAt_3b067_J2_checkIndex_2214a
set_option maxRecDepth 20000 in
theorem ggJ2_charAt_3b067_J2_getChar_3b067 : GoodIn wsJ2_charAt_3b067 wsJ2_getChar_3b067 := goodIn_r _ [19, 20, 21, 22, 5, 6, 3, 7] (by decide +kernel) (by decide +kernel)
set_option maxRecDepth 20000 in
theorem gJ2_charAt_3b067_J2_getChar_3b067 : GoodIn wsJ2_charAt_3b067 (va_wsS RJ2 71 yJ2_getChar_3b067 wsJ2_getChar_3b067) := goodIn_app (goodIn_of _ (by decide +kernel)) ggJ2_charAt_3b067_J2_getChar_3b067
theorem dJ2_charAt_3b067_0 : decode cJ2_charAt_3b067 0 = .ok (.iload_n 1, 1) := by decide +kernel
theorem dJ2_charAt_3b067_1 : decode cJ2_charAt_3b067 1 = .ok (.aload_n 0, 1) := by decide +kernel
theorem dJ2_charAt_3b067_2 : decode cJ2_charAt_3b067 2 = .ok (.invokestatic 67, 3) := by decide +kernel
theorem dJ2_charAt_3b067_5 : decode cJ2_charAt_3b067 5 = .ok (.aload_n 0, 1) := by decide +kernel
theorem dJ2_charAt_3b067_6 : decode cJ2_charAt_3b067 6 = .ok (.iload_n 1, 1) := by decide +kernel
theorem dJ2_charAt_3b067_7 : decode cJ2_charAt_3b067 7 = .ok (.invokestatic 71, 3) := by decide +kernel
theorem dJ2_charAt_3b067_10 : decode cJ2_charAt_3b067 10 = .ok (.ireturn, 1) := by decide +kernel
set_option maxRecDepth 20000 in
theorem ggJ2_checkIndex_2214a_J2_length_9d52b : GoodIn wsJ2_checkIndex_2214a wsJ2_length_9d52b := goodIn_r _ [4] (by decide +kernel) (by decide +kernel)
set_option maxRecDepth 20000 in
theorem gJ2_checkIndex_2214a_J2_length_9d52b : GoodIn wsJ2_checkIndex_2214a (va_wsS RJ2 48 yJ2_length_9d52b wsJ2_length_9d52b) := goodIn_app (goodIn_of _ (by decide +kernel)) ggJ2_checkIndex_2214a_J2_length_9d52b
set_option maxRecDepth 20000 in
theorem ggJ2_checkIndex_2214a_J0_checkIndex_df160 : GoodIn wsJ2_checkIndex_2214a wsJ0_checkIndex_df160 := goodIn_r _ [8, 9, 10, 11, 12, 13] (by decide +kernel) (by decide +kernel)
set_option maxRecDepth 20000 in
theorem gJ2_checkIndex_2214a_J0_checkIndex_df160 : GoodIn wsJ2_checkIndex_2214a (va_wsS RJ2 414 yJ0_checkIndex_df160 wsJ0_checkIndex_df160) := goodIn_app (goodIn_of _ (by decide +kernel)) ggJ2_checkIndex_2214a_J0_checkIndex_df160
theorem dJ2_checkIndex_2214a_0 : decode cJ2_checkIndex_2214a 0 = .ok (.iload_n 0, 1) := by decide +kernel
theorem dJ2_checkIndex_2214a_1 : decode cJ2_checkIndex_2214a 1 = .ok (.aload_n 1, 1) := by decide +kernel
theorem dJ2_checkIndex_2214a_2 : decode cJ2_checkIndex_2214a 2 = .ok (.invokestatic 48, 3) := by decide +kernel
theorem dJ2_checkIndex_2214a_5 : decode cJ2_checkIndex_2214a 5 = .ok (.invokestatic 414, 3) := by decide +kernel
theorem dJ2_checkIndex_2214a_8 : decode cJ2_checkIndex_2214a 8 = .ok (.return_, 1) := by decide +kernel
theorem dJ7_fill_53178_0 : decode cJ7_fill_53178 0 = .ok (.iconst 0, 1) := by decide +kernel
theorem dJ7_fill_53178_1 : decode cJ7_fill_53178 1 = .ok (.istore_n 2, 1) := by decide +kernel
theorem dJ7_fill_53178_2 : decode cJ7_fill_53178 2 = .ok (.aload_n 0, 1) := by decide +kernel
theorem dJ7_fill_53178_3 : decode cJ7_fill_53178 3 = .ok (.arraylength, 1) := by decide +kernel
theorem dJ7_fill_53178_4 : decode cJ7_fill_53178 4 = .ok (.istore_n 3, 1) := by decide +kernel
theorem dJ7_fill_53178_5 : decode cJ7_fill_53178 5 = .ok (.iload_n 2, 1) := by decide +kernel
theorem dJ7_fill_53178_6 : decode cJ7_fill_53178 6 = .ok (.iload_n 3, 1) := by decide +kernel
theorem dJ7_fill_53178_7 : decode cJ7_fill_53178 7 = .ok (.if_icmp .ge 13, 3) := by decide +kernel
theorem dJ7_fill_53178_10 : decode cJ7_fill_53178 10 = .ok (.aload_n 0, 1) := by decide +kernel
theorem dJ7_fill_53178_11 : decode cJ7_fill_53178 11 = .ok (.iload_n 2, 1) := by decide +kernel
theorem dJ7_fill_53178_12 : decode cJ7_fill_53178 12 = .ok (.iload_n 1, 1) := by decide +kernel
theorem dJ7_fill_53178_13 : decode cJ7_fill_53178 13 = .ok (.iastore, 1) := by decide +kernel
theorem dJ7_fill_53178_14 : decode cJ7_fill_53178 14 = .ok (.iinc 2 1, 3) := by decide +kernel
theorem dJ7_fill_53178_17 : decode cJ7_fill_53178 17 = .ok (.goto (-12), 3) := by decide +kernel
theorem dJ7_fill_53178_20 : decode cJ7_fill_53178 20 = .ok (.return_, 1) := by decide +kernel
theorem dJ3_checkIndex_8e157_0 : decode cJ3_checkIndex_8e157 0 = .ok (.iload_n 0, 1) := by decide +kernel
theorem dJ3_checkIndex_8e157_1 : decode cJ3_checkIndex_8e157 1 = .ok (.ifCond .lt 8, 3) := by decide +kernel
theorem dJ3_checkIndex_8e157_4 : decode cJ3_checkIndex_8e157 4 = .ok (.iload_n 0, 1) := by decide +kernel
theorem dJ3_checkIndex_8e157_5 : decode cJ3_checkIndex_8e157 5 = .ok (.iload_n 1, 1) := by decide +kernel
theorem dJ3_checkIndex_8e157_6 : decode cJ3_checkIndex_8e157 6 = .ok (.if_icmp .lt 10, 3) := by decide +kernel
theorem dJ3_checkIndex_8e157_9 : decode cJ3_checkIndex_8e157 9 = .ok (.aload_n 2, 1) := by decide +kernel
theorem dJ3_checkIndex_8e157_10 : decode cJ3_checkIndex_8e157 10 = .ok (.iload_n 0, 1) := by decide +kernel
theorem dJ3_checkIndex_8e157_11 : decode cJ3_checkIndex_8e157 11 = .ok (.iload_n 1, 1) := by decide +kernel
theorem dJ3_checkIndex_8e157_12 : decode cJ3_checkIndex_8e157 12 = .ok (.invokestatic 95, 3) := by decide +kernel
theorem dJ3_checkIndex_8e157_15 : decode cJ3_checkIndex_8e157 15 = .ok (.athrow, 1) := by decide +kernel
theorem dJ3_checkIndex_8e157_16 : decode cJ3_checkIndex_8e157 16 = .ok (.iload_n 0, 1) := by decide +kernel
theorem dJ3_checkIndex_8e157_17 : decode cJ3_checkIndex_8e157 17 = .ok (.ireturn, 1) := by decide +kernel
theorem dL_part_0 : decode cL_part 0 = .ok (.iload_n 1, 1) := by decide +kernel
theorem dL_part_1 : decode cL_part 1 = .ok (.aload_n 0, 1) := by decide +kernel
theorem dL_part_2 : decode cL_part 2 = .ok (.arraylength, 1) := by decide +kernel
theorem dL_part_3 : decode cL_part 3 = .ok (.if_icmp .ge 9, 3) := by decide +kernel
theorem dL_part_6 : decode cL_part 6 = .ok (.aload_n 0, 1) := by decide +kernel
theorem dL_part_7 : decode cL_part 7 = .ok (.iload_n 1, 1) := by decide +kernel
theorem dL_part_8 : decode cL_part 8 = .ok (.iaload, 1) := by decide +kernel
theorem dL_part_9 : decode cL_part 9 = .ok (.goto 16, 3) := by decide +kernel
theorem dL_part_12 : decode cL_part 12 = .ok (.sipush 443, 3) := by decide +kernel
theorem dL_part_15 : decode cL_part 15 = .ok (.iload_n 1, 1) := by decide +kernel
theorem dL_part_16 : decode cL_part 16 = .ok (.imul, 1) := by decide +kernel
theorem dL_part_17 : decode cL_part 17 = .ok (.sipush 311, 3) := by decide +kernel
theorem dL_part_20 : decode cL_part 20 = .ok (.iload_n 1, 1) := by decide +kernel
theorem dL_part_21 : decode cL_part 21 = .ok (.imul, 1) := by decide +kernel
theorem dL_part_22 : decode cL_part 22 = .ok (.iload_n 1, 1) := by decide +kernel
theorem dL_part_23 : decode cL_part 23 = .ok (.imul, 1) := by decide +kernel
theorem dL_part_24 : decode cL_part 24 = .ok (.iadd, 1) := by decide +kernel
theorem dL_part_25 : decode cL_part 25 = .ok (.istore_n 3, 1) := by decide +kernel
theorem dL_part_26 : decode cL_part 26 = .ok (.iload_n 3, 1) := by decide +kernel
theorem dL_part_27 : decode cL_part 27 = .ok (.ldc 7, 2) := by decide +kernel
theorem dL_part_29 : decode cL_part 29 = .ok (.iand, 1) := by decide +kernel
theorem dL_part_30 : decode cL_part 30 = .ok (.iload_n 2, 1) := by decide +kernel
theorem dL_part_31 : decode cL_part 31 = .ok (.irem, 1) := by decide +kernel
theorem dL_part_32 : decode cL_part 32 = .ok (.ireturn, 1) := by decide +kernel
set_option maxRecDepth 20000 in
theorem ggL_does_X2_deposit : GoodIn wsL_does wsX2_deposit := goodIn_ca (goodIn_ca (goodIn_r _ [8, 9, 10, 11, 12, 7, 13, 14, 15, 16, 17, 18, 19, 20, 137, 138, 139, 140, 141, 142] (by decide +kernel) (by decide +kernel)) (goodIn_sub (fun _ h => List.mem_cons_of_mem _ (List.mem_append_left _ (List.mem_append_left _ (List.mem_append_right _ h)))) (by decide +kernel))) (goodIn_sub (fun _ h => List.mem_cons_of_mem _ (List.mem_append_left _ (List.mem_append_right _ h))) (by decide +kernel))
set_option maxRecDepth 20000 in
theorem gL_does_X2_deposit : GoodIn wsL_does (wsV RL 8 RX2 yX2_deposit wsX2_deposit) := goodIn_app (goodIn_of _ (by decide +kernel)) ggL_does_X2_deposit
set_option maxRecDepth 20000 in
theorem ggL_does_X2_bid : GoodIn wsL_does wsX2_bid := goodIn_ca (goodIn_ca (goodIn_ca (goodIn_r _ [24, 9, 25, 26, 27, 11, 12, 7, 13, 14, 15, 16, 17, 18, 19, 20, 28, 29, 30, 31, 32, 33, 34, 35, 36, 37, 38, 137, 138, 139, 140, 141, 142, 143, 144, 145, 146, 147, 148, 149, 150, 151, 152, 153] (by decide +kernel) (by decide +kernel)) (goodIn_sub (fun _ h => List.mem_cons_of_mem _ (List.mem_append_left _ (List.mem_append_left _ (List.mem_append_right _ h)))) (by decide +kernel))) (goodIn_sub (fun _ h => List.mem_cons_of_mem _ (List.mem_append_left _ (List.mem_append_right _ h))) (by decide +kernel))) (goodIn_sub (fun _ h => List.mem_cons_of_mem _ (List.mem_append_right _ h)) (by decide +kernel))
set_option maxRecDepth 20000 in
theorem gL_does_X2_bid : GoodIn wsL_does (wsV RL 14 RX2 yX2_bid wsX2_bid) := goodIn_app (goodIn_of _ (by decide +kernel)) ggL_does_X2_bid
set_option maxRecDepth 20000 in
theorem ggL_does_X2_renew : GoodIn wsL_does wsX2_renew := goodIn_ca (goodIn_ca (goodIn_ca (goodIn_r _ [42, 25, 26, 11, 12, 7, 13, 14, 15, 16, 17, 18, 19, 20, 43, 44, 45, 46, 47, 48, 49, 10, 28, 29, 30, 31, 32, 50, 51, 52, 53, 54, 137, 138, 139, 140, 141, 142, 143, 144, 145, 146, 147, 148, 149, 150, 151, 152, 153] (by decide +kernel) (by decide +kernel)) (goodIn_sub (fun _ h => List.mem_cons_of_mem _ (List.mem_append_left _ (List.mem_append_left _ (List.mem_append_right _ h)))) (by decide +kernel))) (goodIn_sub (fun _ h => List.mem_cons_of_mem _ (List.mem_append_left _ (List.mem_append_right _ h))) (by decide +kernel))) (goodIn_sub (fun _ h => List.mem_cons_of_mem _ (List.mem_append_right _ h)) (by decide +kernel))
set_option maxRecDepth 20000 in
theorem gL_does_X2_renew : GoodIn wsL_does (wsV RL 18 RX2 yX2_renew wsX2_renew) := goodIn_app (goodIn_of _ (by decide +kernel)) ggL_does_X2_renew
set_option maxRecDepth 20000 in
theorem ggL_does_X2_redeem : GoodIn wsL_does wsX2_redeem := goodIn_ca (goodIn_ca (goodIn_r _ [58, 25, 26, 11, 12, 7, 13, 14, 15, 46, 47, 48, 49, 10, 28, 29, 30, 31, 32, 50, 51, 52, 53, 54, 59, 34, 60, 61, 37, 62, 63, 64, 65, 66, 67, 68, 69, 70, 71, 72, 73, 74, 137, 138, 139, 140, 141, 142, 143, 144, 145, 146, 147, 148, 149, 150, 151, 152, 153] (by decide +kernel) (by decide +kernel)) (goodIn_sub (fun _ h => List.mem_cons_of_mem _ (List.mem_append_left _ (List.mem_append_left _ (List.mem_append_right _ h)))) (by decide +kernel))) (goodIn_sub (fun _ h => List.mem_cons_of_mem _ (List.mem_append_right _ h)) (by decide +kernel))
set_option maxRecDepth 20000 in
theorem gL_does_X2_redeem : GoodIn wsL_does (wsV RL 21 RX2 yX2_redeem wsX2_redeem) := goodIn_app (goodIn_of _ (by decide +kernel)) ggL_does_X2_redeem
set_option maxRecDepth 20000 in
theorem ggL_does_X2_setRecord : GoodIn wsL_does wsX2_setRecord := goodIn_ca (goodIn_ca (goodIn_ca (goodIn_r _ [78, 25, 11, 12, 7, 13, 14, 15, 16, 17, 18, 19, 20, 28, 29, 30, 31, 32, 137, 138, 139, 140, 141, 142, 143, 144, 145, 146, 147, 148, 149, 150, 151, 152, 153] (by decide +kernel) (by decide +kernel)) (goodIn_sub (fun _ h => List.mem_cons_of_mem _ (List.mem_append_left _ (List.mem_append_left _ (List.mem_append_right _ h)))) (by decide +kernel))) (goodIn_sub (fun _ h => List.mem_cons_of_mem _ (List.mem_append_left _ (List.mem_append_right _ h))) (by decide +kernel))) (goodIn_sub (fun _ h => List.mem_cons_of_mem _ (List.mem_append_right _ h)) (by decide +kernel))
set_option maxRecDepth 20000 in
theorem gL_does_X2_setRecord : GoodIn wsL_does (wsV RL 25 RX2 yX2_setRecord wsX2_setRecord) := goodIn_app (goodIn_of _ (by decide +kernel)) ggL_does_X2_setRecord
set_option maxRecDepth 20000 in
theorem ggL_does_X2_dispute : GoodIn wsL_does wsX2_dispute := goodIn_ca (goodIn_ca (goodIn_r _ [82, 25, 26, 11, 12, 7, 13, 14, 15, 43, 44, 45, 28, 29, 30, 31, 32, 83, 34, 84, 85, 37, 86, 87, 88, 66, 67, 68, 69, 70, 71, 72, 73, 74, 137, 138, 139, 140, 141, 142, 143, 144, 145, 146, 147, 148, 149, 150, 151, 152, 153] (by decide +kernel) (by decide +kernel)) (goodIn_sub (fun _ h => List.mem_cons_of_mem _ (List.mem_append_left _ (List.mem_append_left _ (List.mem_append_right _ h)))) (by decide +kernel))) (goodIn_sub (fun _ h => List.mem_cons_of_mem _ (List.mem_append_right _ h)) (by decide +kernel))
set_option maxRecDepth 20000 in
theorem gL_does_X2_dispute : GoodIn wsL_does (wsV RL 28 RX2 yX2_dispute wsX2_dispute) := goodIn_app (goodIn_of _ (by decide +kernel)) ggL_does_X2_dispute
set_option maxRecDepth 20000 in
theorem ggL_does_X2_decide : GoodIn wsL_does wsX2_decide := goodIn_ca (goodIn_ca (goodIn_r _ [92, 25, 26, 11, 12, 7, 13, 14, 15, 28, 29, 30, 31, 32, 93, 34, 94, 95, 86, 37, 63, 88, 87, 62, 96, 59, 60, 61, 64, 65, 66, 67, 68, 69, 70, 71, 72, 73, 74, 97, 98, 99, 100, 137, 138, 139, 140, 141, 142, 143, 144, 145, 146, 147, 148, 149, 150, 151, 152, 153] (by decide +kernel) (by decide +kernel)) (goodIn_sub (fun _ h => List.mem_cons_of_mem _ (List.mem_append_left _ (List.mem_append_left _ (List.mem_append_right _ h)))) (by decide +kernel))) (goodIn_sub (fun _ h => List.mem_cons_of_mem _ (List.mem_append_right _ h)) (by decide +kernel))
set_option maxRecDepth 20000 in
theorem gL_does_X2_decide : GoodIn wsL_does (wsV RL 31 RX2 yX2_decide wsX2_decide) := goodIn_app (goodIn_of _ (by decide +kernel)) ggL_does_X2_decide
set_option maxRecDepth 20000 in
theorem ggL_does_X2_pass : GoodIn wsL_does wsX2_pass := goodIn_ca (goodIn_r _ [104, 26, 16, 17, 7, 18, 19, 20, 105, 106, 107, 108, 25, 109, 34, 110, 111, 37, 38, 63, 112, 113, 114, 97, 98, 99, 100, 62, 66, 67, 68, 69, 70, 71, 72, 73, 74, 115, 116, 117, 118, 119, 120, 121, 122, 46, 47, 48, 49, 10, 123, 124, 125, 126, 50, 51, 52, 53, 54, 59, 60, 61, 64, 65, 137, 138, 139, 140, 141, 142, 143, 144, 145, 146, 147, 148, 149, 150, 151, 152, 153] (by decide +kernel) (by decide +kernel)) (goodIn_sub (fun _ h => List.mem_cons_of_mem _ (List.mem_append_left _ (List.mem_append_right _ h))) (by decide +kernel))
set_option maxRecDepth 20000 in
theorem gL_does_X2_pass : GoodIn wsL_does (wsV RL 35 RX2 yX2_pass wsX2_pass) := goodIn_app (goodIn_of _ (by decide +kernel)) ggL_does_X2_pass
set_option maxRecDepth 20000 in
theorem ggL_does_X2_flush : GoodIn wsL_does wsX2_flush := goodIn_ca (goodIn_r _ [130, 131, 11, 12, 7, 13, 14, 15, 132, 133, 134, 135, 136, 137, 138, 139, 140, 141, 142, 154, 155, 156, 157] (by decide +kernel) (by decide +kernel)) (goodIn_sub (fun _ h => List.mem_cons_of_mem _ (List.mem_append_left _ (List.mem_append_left _ (List.mem_append_right _ h)))) (by decide +kernel))
set_option maxRecDepth 20000 in
theorem gL_does_X2_flush : GoodIn wsL_does (wsV RL 38 RX2 yX2_flush wsX2_flush) := goodIn_app (goodIn_of _ (by decide +kernel)) ggL_does_X2_flush
theorem dL_does_0 : decode cL_does 0 = .ok (.iload_n 1, 1) := by decide +kernel
theorem dL_does_1 : decode cL_does 1 = .ok (.ifCond .ne 12, 3) := by decide +kernel
theorem dL_does_4 : decode cL_does 4 = .ok (.aload_n 0, 1) := by decide +kernel
theorem dL_does_5 : decode cL_does 5 = .ok (.iload_n 2, 1) := by decide +kernel
theorem dL_does_6 : decode cL_does 6 = .ok (.iload_n 3, 1) := by decide +kernel
theorem dL_does_7 : decode cL_does 7 = .ok (.invokevirtual 8, 3) := by decide +kernel
theorem dL_does_10 : decode cL_does 10 = .ok (.goto 119, 3) := by decide +kernel
theorem dL_does_13 : decode cL_does 13 = .ok (.iload_n 1, 1) := by decide +kernel
theorem dL_does_14 : decode cL_does 14 = .ok (.iconst 1, 1) := by decide +kernel
theorem dL_does_15 : decode cL_does 15 = .ok (.if_icmp .ne 14, 3) := by decide +kernel
theorem dL_does_18 : decode cL_does 18 = .ok (.aload_n 0, 1) := by decide +kernel
theorem dL_does_19 : decode cL_does 19 = .ok (.iload_n 2, 1) := by decide +kernel
theorem dL_does_20 : decode cL_does 20 = .ok (.iload_n 3, 1) := by decide +kernel
theorem dL_does_21 : decode cL_does 21 = .ok (.iload 4, 2) := by decide +kernel
theorem dL_does_23 : decode cL_does 23 = .ok (.invokevirtual 14, 3) := by decide +kernel
theorem dL_does_26 : decode cL_does 26 = .ok (.goto 103, 3) := by decide +kernel
theorem dL_does_29 : decode cL_does 29 = .ok (.iload_n 1, 1) := by decide +kernel
theorem dL_does_30 : decode cL_does 30 = .ok (.iconst 2, 1) := by decide +kernel
theorem dL_does_31 : decode cL_does 31 = .ok (.if_icmp .ne 12, 3) := by decide +kernel
theorem dL_does_34 : decode cL_does 34 = .ok (.aload_n 0, 1) := by decide +kernel
theorem dL_does_35 : decode cL_does 35 = .ok (.iload_n 2, 1) := by decide +kernel
theorem dL_does_36 : decode cL_does 36 = .ok (.iload_n 3, 1) := by decide +kernel
theorem dL_does_37 : decode cL_does 37 = .ok (.invokevirtual 18, 3) := by decide +kernel
theorem dL_does_40 : decode cL_does 40 = .ok (.goto 89, 3) := by decide +kernel
theorem dL_does_43 : decode cL_does 43 = .ok (.iload_n 1, 1) := by decide +kernel
theorem dL_does_44 : decode cL_does 44 = .ok (.iconst 3, 1) := by decide +kernel
theorem dL_does_45 : decode cL_does 45 = .ok (.if_icmp .ne 11, 3) := by decide +kernel
theorem dL_does_48 : decode cL_does 48 = .ok (.aload_n 0, 1) := by decide +kernel
theorem dL_does_49 : decode cL_does 49 = .ok (.iload_n 2, 1) := by decide +kernel
theorem dL_does_50 : decode cL_does 50 = .ok (.invokevirtual 21, 3) := by decide +kernel
theorem dL_does_53 : decode cL_does 53 = .ok (.goto 76, 3) := by decide +kernel
theorem dL_does_56 : decode cL_does 56 = .ok (.iload_n 1, 1) := by decide +kernel
theorem dL_does_57 : decode cL_does 57 = .ok (.iconst 4, 1) := by decide +kernel
theorem dL_does_58 : decode cL_does 58 = .ok (.if_icmp .ne 14, 3) := by decide +kernel
theorem dL_does_61 : decode cL_does 61 = .ok (.aload_n 0, 1) := by decide +kernel
theorem dL_does_62 : decode cL_does 62 = .ok (.iload_n 2, 1) := by decide +kernel
theorem dL_does_63 : decode cL_does 63 = .ok (.iload_n 3, 1) := by decide +kernel
theorem dL_does_64 : decode cL_does 64 = .ok (.iload 4, 2) := by decide +kernel
theorem dL_does_66 : decode cL_does 66 = .ok (.invokevirtual 25, 3) := by decide +kernel
theorem dL_does_69 : decode cL_does 69 = .ok (.goto 60, 3) := by decide +kernel
theorem dL_does_72 : decode cL_does 72 = .ok (.iload_n 1, 1) := by decide +kernel
theorem dL_does_73 : decode cL_does 73 = .ok (.iconst 5, 1) := by decide +kernel
theorem dL_does_74 : decode cL_does 74 = .ok (.if_icmp .ne 12, 3) := by decide +kernel
theorem dL_does_77 : decode cL_does 77 = .ok (.aload_n 0, 1) := by decide +kernel
theorem dL_does_78 : decode cL_does 78 = .ok (.iload_n 2, 1) := by decide +kernel
theorem dL_does_79 : decode cL_does 79 = .ok (.iload_n 3, 1) := by decide +kernel
theorem dL_does_80 : decode cL_does 80 = .ok (.invokevirtual 28, 3) := by decide +kernel
theorem dL_does_83 : decode cL_does 83 = .ok (.goto 46, 3) := by decide +kernel
theorem dL_does_86 : decode cL_does 86 = .ok (.iload_n 1, 1) := by decide +kernel
theorem dL_does_87 : decode cL_does 87 = .ok (.bipush 6, 2) := by decide +kernel
theorem dL_does_89 : decode cL_does 89 = .ok (.if_icmp .ne 21, 3) := by decide +kernel
theorem dL_does_92 : decode cL_does 92 = .ok (.aload_n 0, 1) := by decide +kernel
theorem dL_does_93 : decode cL_does 93 = .ok (.iload_n 2, 1) := by decide +kernel
theorem dL_does_94 : decode cL_does 94 = .ok (.iload_n 3, 1) := by decide +kernel
theorem dL_does_95 : decode cL_does 95 = .ok (.iconst 1, 1) := by decide +kernel
theorem dL_does_96 : decode cL_does 96 = .ok (.if_icmp .ne 7, 3) := by decide +kernel
theorem dL_does_99 : decode cL_does 99 = .ok (.iconst 1, 1) := by decide +kernel
theorem dL_does_100 : decode cL_does 100 = .ok (.goto 4, 3) := by decide +kernel
theorem dL_does_103 : decode cL_does 103 = .ok (.iconst 0, 1) := by decide +kernel
theorem dL_does_104 : decode cL_does 104 = .ok (.invokevirtual 31, 3) := by decide +kernel
theorem dL_does_107 : decode cL_does 107 = .ok (.goto 22, 3) := by decide +kernel
theorem dL_does_110 : decode cL_does 110 = .ok (.iload_n 1, 1) := by decide +kernel
theorem dL_does_111 : decode cL_does 111 = .ok (.bipush 7, 2) := by decide +kernel
theorem dL_does_113 : decode cL_does 113 = .ok (.if_icmp .ne 11, 3) := by decide +kernel
theorem dL_does_116 : decode cL_does 116 = .ok (.aload_n 0, 1) := by decide +kernel
theorem dL_does_117 : decode cL_does 117 = .ok (.iload_n 2, 1) := by decide +kernel
theorem dL_does_118 : decode cL_does 118 = .ok (.invokevirtual 35, 3) := by decide +kernel
theorem dL_does_121 : decode cL_does 121 = .ok (.goto 8, 3) := by decide +kernel
theorem dL_does_124 : decode cL_does 124 = .ok (.aload_n 0, 1) := by decide +kernel
theorem dL_does_125 : decode cL_does 125 = .ok (.iload_n 2, 1) := by decide +kernel
theorem dL_does_126 : decode cL_does 126 = .ok (.invokevirtual 38, 3) := by decide +kernel
theorem dL_does_129 : decode cL_does 129 = .ok (.ireturn, 1) := by decide +kernel
theorem dL_does_130 : decode cL_does 130 = .ok (.astore 5, 2) := by decide +kernel
theorem dL_does_132 : decode cL_does 132 = .ok (.bipush (-30), 2) := by decide +kernel
theorem dL_does_134 : decode cL_does 134 = .ok (.ireturn, 1) := by decide +kernel
theorem dL_does_135 : decode cL_does 135 = .ok (.astore 5, 2) := by decide +kernel
theorem dL_does_137 : decode cL_does 137 = .ok (.bipush (-20), 2) := by decide +kernel
theorem dL_does_139 : decode cL_does 139 = .ok (.ireturn, 1) := by decide +kernel
theorem dL_does_140 : decode cL_does 140 = .ok (.astore 5, 2) := by decide +kernel
theorem dL_does_142 : decode cL_does 142 = .ok (.bipush (-10), 2) := by decide +kernel
theorem dL_does_144 : decode cL_does 144 = .ok (.ireturn, 1) := by decide +kernel
set_option maxRecDepth 20000 in
theorem ggL_asks_X2_funds : GoodIn wsL_asks wsX2_funds := goodIn_ca (goodIn_r _ [6, 7, 8, 9, 5, 10, 11, 12, 133, 134, 135, 136, 137, 138] (by decide +kernel) (by decide +kernel)) (goodIn_sub (fun _ h => List.mem_cons_of_mem _ (List.mem_append_right _ h)) (by decide +kernel))
set_option maxRecDepth 20000 in
theorem gL_asks_X2_funds : GoodIn wsL_asks (wsV RL 47 RX2 yX2_funds wsX2_funds) := goodIn_app (goodIn_of _ (by decide +kernel)) ggL_asks_X2_funds
set_option maxRecDepth 20000 in
theorem ggL_asks_X2_bids : GoodIn wsL_asks wsX2_bids := goodIn_ca (goodIn_r _ [16, 17, 8, 9, 5, 10, 11, 12, 18, 19, 20, 21, 22, 133, 134, 135, 136, 137, 138, 139, 140, 141, 142, 143, 144, 145, 146, 147, 148, 149] (by decide +kernel) (by decide +kernel)) (goodIn_sub (fun _ h => List.mem_cons_of_mem _ (List.mem_append_right _ h)) (by decide +kernel))
set_option maxRecDepth 20000 in
theorem gL_asks_X2_bids : GoodIn wsL_asks (wsV RL 50 RX2 yX2_bids wsX2_bids) := goodIn_app (goodIn_of _ (by decide +kernel)) ggL_asks_X2_bids
set_option maxRecDepth 20000 in
theorem ggL_asks_X2_state : GoodIn wsL_asks wsX2_state := goodIn_ca (goodIn_r _ [26, 17, 8, 9, 5, 10, 11, 12, 133, 134, 135, 136, 137, 138, 139, 140, 141, 142, 143, 144, 145, 146, 147, 148, 149] (by decide +kernel) (by decide +kernel)) (goodIn_sub (fun _ h => List.mem_cons_of_mem _ (List.mem_append_right _ h)) (by decide +kernel))
set_option maxRecDepth 20000 in
theorem gL_asks_X2_state : GoodIn wsL_asks (wsV RL 53 RX2 yX2_state wsX2_state) := goodIn_app (goodIn_of _ (by decide +kernel)) ggL_asks_X2_state
set_option maxRecDepth 20000 in
theorem ggL_asks_X2_sign : GoodIn wsL_asks wsX2_sign := goodIn_ca (goodIn_r _ [30, 17, 8, 9, 5, 10, 11, 12, 31, 32, 33, 34, 35, 36, 37, 38, 39, 40, 41, 42, 43, 44, 45, 46, 47, 48, 49, 50, 51, 52, 53, 54, 55, 56, 57, 58, 59, 60, 61, 62, 63, 64, 65, 66, 67, 68, 69, 70, 71, 72, 73, 74, 75, 76, 77, 78, 79, 80, 81, 82, 133, 134, 135, 136, 137, 138, 139, 140, 141, 142, 143, 144, 145, 146, 147, 148, 149] (by decide +kernel) (by decide +kernel)) (goodIn_sub (fun _ h => List.mem_cons_of_mem _ (List.mem_append_right _ h)) (by decide +kernel))
set_option maxRecDepth 20000 in
theorem gL_asks_X2_sign : GoodIn wsL_asks (wsV RL 56 RX2 yX2_sign wsX2_sign) := goodIn_app (goodIn_of _ (by decide +kernel)) ggL_asks_X2_sign
set_option maxRecDepth 20000 in
theorem ggL_asks_X2_owner : GoodIn wsL_asks wsX2_owner := goodIn_ca (goodIn_r _ [86, 17, 8, 9, 5, 10, 11, 12, 133, 134, 135, 136, 137, 138, 139, 140, 141, 142, 143, 144, 145, 146, 147, 148, 149] (by decide +kernel) (by decide +kernel)) (goodIn_sub (fun _ h => List.mem_cons_of_mem _ (List.mem_append_right _ h)) (by decide +kernel))
set_option maxRecDepth 20000 in
theorem gL_asks_X2_owner : GoodIn wsL_asks (wsV RL 60 RX2 yX2_owner wsX2_owner) := goodIn_app (goodIn_of _ (by decide +kernel)) ggL_asks_X2_owner
set_option maxRecDepth 20000 in
theorem ggL_asks_X2_next : GoodIn wsL_asks wsX2_next := goodIn_ca (goodIn_r _ [90, 17, 8, 9, 5, 10, 11, 12, 91, 19, 92, 93, 94, 95, 96, 133, 134, 135, 136, 137, 138, 139, 140, 141, 142, 143, 144, 145, 146, 147, 148, 149] (by decide +kernel) (by decide +kernel)) (goodIn_sub (fun _ h => List.mem_cons_of_mem _ (List.mem_append_right _ h)) (by decide +kernel))
set_option maxRecDepth 20000 in
theorem gL_asks_X2_next : GoodIn wsL_asks (wsV RL 63 RX2 yX2_next wsX2_next) := goodIn_app (goodIn_of _ (by decide +kernel)) ggL_asks_X2_next
set_option maxRecDepth 20000 in
theorem ggL_asks_X2_lookUp : GoodIn wsL_asks wsX2_lookUp := goodIn_ca (goodIn_r _ [100, 101, 102, 17, 8, 9, 5, 10, 11, 12, 103, 104, 105, 106, 107, 108, 109, 110, 19, 111, 112, 113, 114, 115, 116, 117, 94, 118, 119, 120, 121, 122, 123, 124, 125, 126, 127, 128, 133, 134, 135, 136, 137, 138, 150, 151, 152, 153, 139, 140, 141, 142, 143, 144, 145, 146, 147, 148, 149] (by decide +kernel) (by decide +kernel)) (goodIn_sub (fun _ h => List.mem_cons_of_mem _ (List.mem_append_right _ h)) (by decide +kernel))
set_option maxRecDepth 20000 in
theorem gL_asks_X2_lookUp : GoodIn wsL_asks (wsV RL 66 RX2 yX2_lookUp wsX2_lookUp) := goodIn_app (goodIn_of _ (by decide +kernel)) ggL_asks_X2_lookUp
set_option maxRecDepth 20000 in
theorem ggL_asks_X2_isStale : GoodIn wsL_asks wsX2_isStale := goodIn_ca (goodIn_r _ [132, 101, 102, 17, 8, 9, 5, 10, 11, 12, 103, 104, 105, 106, 107, 108, 109, 110, 19, 111, 112, 113, 114, 115, 116, 117, 94, 118, 119, 120, 133, 134, 135, 136, 137, 138, 150, 151, 152, 153, 139, 140, 141, 142, 143, 144, 145, 146, 147, 148, 149] (by decide +kernel) (by decide +kernel)) (goodIn_sub (fun _ h => List.mem_cons_of_mem _ (List.mem_append_right _ h)) (by decide +kernel))
set_option maxRecDepth 20000 in
theorem gL_asks_X2_isStale : GoodIn wsL_asks (wsV RL 69 RX2 yX2_isStale wsX2_isStale) := goodIn_app (goodIn_of _ (by decide +kernel)) ggL_asks_X2_isStale
theorem dL_asks_0 : decode cL_asks 0 = .ok (.iload_n 1, 1) := by decide +kernel
theorem dL_asks_1 : decode cL_asks 1 = .ok (.ifCond .ne 11, 3) := by decide +kernel
theorem dL_asks_4 : decode cL_asks 4 = .ok (.aload_n 0, 1) := by decide +kernel
theorem dL_asks_5 : decode cL_asks 5 = .ok (.iload_n 2, 1) := by decide +kernel
theorem dL_asks_6 : decode cL_asks 6 = .ok (.invokevirtual 47, 3) := by decide +kernel
theorem dL_asks_9 : decode cL_asks 9 = .ok (.goto 98, 3) := by decide +kernel
theorem dL_asks_12 : decode cL_asks 12 = .ok (.iload_n 1, 1) := by decide +kernel
theorem dL_asks_13 : decode cL_asks 13 = .ok (.iconst 1, 1) := by decide +kernel
theorem dL_asks_14 : decode cL_asks 14 = .ok (.if_icmp .ne 11, 3) := by decide +kernel
theorem dL_asks_17 : decode cL_asks 17 = .ok (.aload_n 0, 1) := by decide +kernel
theorem dL_asks_18 : decode cL_asks 18 = .ok (.iload_n 2, 1) := by decide +kernel
theorem dL_asks_19 : decode cL_asks 19 = .ok (.invokevirtual 50, 3) := by decide +kernel
theorem dL_asks_22 : decode cL_asks 22 = .ok (.goto 85, 3) := by decide +kernel
theorem dL_asks_25 : decode cL_asks 25 = .ok (.iload_n 1, 1) := by decide +kernel
theorem dL_asks_26 : decode cL_asks 26 = .ok (.iconst 2, 1) := by decide +kernel
theorem dL_asks_27 : decode cL_asks 27 = .ok (.if_icmp .ne 11, 3) := by decide +kernel
theorem dL_asks_30 : decode cL_asks 30 = .ok (.aload_n 0, 1) := by decide +kernel
theorem dL_asks_31 : decode cL_asks 31 = .ok (.iload_n 2, 1) := by decide +kernel
theorem dL_asks_32 : decode cL_asks 32 = .ok (.invokevirtual 53, 3) := by decide +kernel
theorem dL_asks_35 : decode cL_asks 35 = .ok (.goto 72, 3) := by decide +kernel
theorem dL_asks_38 : decode cL_asks 38 = .ok (.iload_n 1, 1) := by decide +kernel
theorem dL_asks_39 : decode cL_asks 39 = .ok (.iconst 3, 1) := by decide +kernel
theorem dL_asks_40 : decode cL_asks 40 = .ok (.if_icmp .ne 12, 3) := by decide +kernel
theorem dL_asks_43 : decode cL_asks 43 = .ok (.aload_n 0, 1) := by decide +kernel
theorem dL_asks_44 : decode cL_asks 44 = .ok (.iload_n 2, 1) := by decide +kernel
theorem dL_asks_45 : decode cL_asks 45 = .ok (.iload_n 3, 1) := by decide +kernel
theorem dL_asks_46 : decode cL_asks 46 = .ok (.invokevirtual 56, 3) := by decide +kernel
theorem dL_asks_49 : decode cL_asks 49 = .ok (.goto 58, 3) := by decide +kernel
theorem dL_asks_52 : decode cL_asks 52 = .ok (.iload_n 1, 1) := by decide +kernel
theorem dL_asks_53 : decode cL_asks 53 = .ok (.iconst 4, 1) := by decide +kernel
theorem dL_asks_54 : decode cL_asks 54 = .ok (.if_icmp .ne 11, 3) := by decide +kernel
theorem dL_asks_57 : decode cL_asks 57 = .ok (.aload_n 0, 1) := by decide +kernel
theorem dL_asks_58 : decode cL_asks 58 = .ok (.iload_n 2, 1) := by decide +kernel
theorem dL_asks_59 : decode cL_asks 59 = .ok (.invokevirtual 60, 3) := by decide +kernel
theorem dL_asks_62 : decode cL_asks 62 = .ok (.goto 45, 3) := by decide +kernel
theorem dL_asks_65 : decode cL_asks 65 = .ok (.iload_n 1, 1) := by decide +kernel
theorem dL_asks_66 : decode cL_asks 66 = .ok (.iconst 5, 1) := by decide +kernel
theorem dL_asks_67 : decode cL_asks 67 = .ok (.if_icmp .ne 11, 3) := by decide +kernel
theorem dL_asks_70 : decode cL_asks 70 = .ok (.aload_n 0, 1) := by decide +kernel
theorem dL_asks_71 : decode cL_asks 71 = .ok (.iload_n 2, 1) := by decide +kernel
theorem dL_asks_72 : decode cL_asks 72 = .ok (.invokevirtual 63, 3) := by decide +kernel
theorem dL_asks_75 : decode cL_asks 75 = .ok (.goto 32, 3) := by decide +kernel
theorem dL_asks_78 : decode cL_asks 78 = .ok (.iload_n 1, 1) := by decide +kernel
theorem dL_asks_79 : decode cL_asks 79 = .ok (.bipush 6, 2) := by decide +kernel
theorem dL_asks_81 : decode cL_asks 81 = .ok (.if_icmp .ne 12, 3) := by decide +kernel
theorem dL_asks_84 : decode cL_asks 84 = .ok (.aload_n 0, 1) := by decide +kernel
theorem dL_asks_85 : decode cL_asks 85 = .ok (.iload_n 2, 1) := by decide +kernel
theorem dL_asks_86 : decode cL_asks 86 = .ok (.iload_n 3, 1) := by decide +kernel
theorem dL_asks_87 : decode cL_asks 87 = .ok (.invokevirtual 66, 3) := by decide +kernel
theorem dL_asks_90 : decode cL_asks 90 = .ok (.goto 17, 3) := by decide +kernel
theorem dL_asks_93 : decode cL_asks 93 = .ok (.aload_n 0, 1) := by decide +kernel
theorem dL_asks_94 : decode cL_asks 94 = .ok (.iload_n 2, 1) := by decide +kernel
theorem dL_asks_95 : decode cL_asks 95 = .ok (.iload_n 3, 1) := by decide +kernel
theorem dL_asks_96 : decode cL_asks 96 = .ok (.invokevirtual 69, 3) := by decide +kernel
theorem dL_asks_99 : decode cL_asks 99 = .ok (.ifCond .eq 7, 3) := by decide +kernel
theorem dL_asks_102 : decode cL_asks 102 = .ok (.iconst 1, 1) := by decide +kernel
theorem dL_asks_103 : decode cL_asks 103 = .ok (.goto 4, 3) := by decide +kernel
theorem dL_asks_106 : decode cL_asks 106 = .ok (.iconst 0, 1) := by decide +kernel
theorem dL_asks_107 : decode cL_asks 107 = .ok (.ireturn, 1) := by decide +kernel
theorem dL_asks_108 : decode cL_asks 108 = .ok (.astore 4, 2) := by decide +kernel
theorem dL_asks_110 : decode cL_asks 110 = .ok (.bipush (-30), 2) := by decide +kernel
theorem dL_asks_112 : decode cL_asks 112 = .ok (.ireturn, 1) := by decide +kernel
theorem dL_hasRecord_0 : decode cL_hasRecord 0 = .ok (.aload_n 0, 1) := by decide +kernel
theorem dL_hasRecord_1 : decode cL_hasRecord 1 = .ok (.iload_n 2, 1) := by decide +kernel
theorem dL_hasRecord_2 : decode cL_hasRecord 2 = .ok (.iaload, 1) := by decide +kernel
theorem dL_hasRecord_3 : decode cL_hasRecord 3 = .ok (.iconst 2, 1) := by decide +kernel
theorem dL_hasRecord_4 : decode cL_hasRecord 4 = .ok (.if_icmp .eq 26, 3) := by decide +kernel
theorem dL_hasRecord_7 : decode cL_hasRecord 7 = .ok (.aload_n 0, 1) := by decide +kernel
theorem dL_hasRecord_8 : decode cL_hasRecord 8 = .ok (.iload_n 2, 1) := by decide +kernel
theorem dL_hasRecord_9 : decode cL_hasRecord 9 = .ok (.iaload, 1) := by decide +kernel
theorem dL_hasRecord_10 : decode cL_hasRecord 10 = .ok (.iconst 3, 1) := by decide +kernel
theorem dL_hasRecord_11 : decode cL_hasRecord 11 = .ok (.if_icmp .eq 19, 3) := by decide +kernel
theorem dL_hasRecord_14 : decode cL_hasRecord 14 = .ok (.aload_n 0, 1) := by decide +kernel
theorem dL_hasRecord_15 : decode cL_hasRecord 15 = .ok (.iload_n 2, 1) := by decide +kernel
theorem dL_hasRecord_16 : decode cL_hasRecord 16 = .ok (.iaload, 1) := by decide +kernel
theorem dL_hasRecord_17 : decode cL_hasRecord 17 = .ok (.iconst 5, 1) := by decide +kernel
theorem dL_hasRecord_18 : decode cL_hasRecord 18 = .ok (.if_icmp .ne 16, 3) := by decide +kernel
theorem dL_hasRecord_21 : decode cL_hasRecord 21 = .ok (.aload_n 1, 1) := by decide +kernel
theorem dL_hasRecord_22 : decode cL_hasRecord 22 = .ok (.bipush 32, 2) := by decide +kernel
theorem dL_hasRecord_24 : decode cL_hasRecord 24 = .ok (.iload_n 2, 1) := by decide +kernel
theorem dL_hasRecord_25 : decode cL_hasRecord 25 = .ok (.iadd, 1) := by decide +kernel
theorem dL_hasRecord_26 : decode cL_hasRecord 26 = .ok (.iaload, 1) := by decide +kernel
theorem dL_hasRecord_27 : decode cL_hasRecord 27 = .ok (.ifCond .ne 7, 3) := by decide +kernel
theorem dL_hasRecord_30 : decode cL_hasRecord 30 = .ok (.iconst 1, 1) := by decide +kernel
theorem dL_hasRecord_31 : decode cL_hasRecord 31 = .ok (.goto 4, 3) := by decide +kernel
theorem dL_hasRecord_34 : decode cL_hasRecord 34 = .ok (.iconst 0, 1) := by decide +kernel
theorem dL_hasRecord_35 : decode cL_hasRecord 35 = .ok (.ireturn, 1) := by decide +kernel
set_option maxRecDepth 20000 in
theorem ggL_isWord_L_asks : GoodIn wsL_isWord wsL_asks := goodIn_ca (goodIn_r _ [4, 5, 6, 7, 8, 9, 10, 11, 12, 13, 14, 15, 16, 17, 18, 19, 20, 21, 22, 23, 24, 25, 26, 27, 28, 29, 30, 31, 32, 33, 34, 35, 36, 37, 38, 39, 40, 41, 42, 43, 44, 45, 46, 47, 48, 49, 50, 51, 52, 53, 54, 55, 56, 57, 58, 59, 60, 61, 62, 63, 64, 65, 66, 67, 68, 69, 70, 71, 72, 73, 74, 75, 76, 77, 78, 79, 80, 81, 82, 83, 84, 85, 86, 87, 88, 89, 90, 91, 92, 93, 94, 95, 96, 97, 98, 99, 100, 101, 102, 103, 104, 105, 106, 107, 108, 109, 110, 111, 112, 113, 114, 115, 116, 117, 118, 119, 120, 121, 122, 123, 124, 125, 126, 127, 128, 129, 130, 131, 132, 133, 134, 135, 136, 137, 138, 139, 140, 141, 142, 143, 144, 145, 146, 147, 148, 149, 150, 151, 152, 153, 154, 155, 156, 157] (by decide +kernel) (by decide +kernel)) (goodIn_sub (fun _ h => List.mem_cons_of_mem _ (List.mem_append_right _ h)) (by decide +kernel))
set_option maxRecDepth 20000 in
theorem gL_isWord_L_asks : GoodIn wsL_isWord (va_wsS RL 73 yL_asks wsL_asks) := goodIn_app (goodIn_of _ (by decide +kernel)) ggL_isWord_L_asks
theorem dL_isWord_0 : decode cL_isWord 0 = .ok (.aload_n 1, 1) := by decide +kernel
theorem dL_isWord_1 : decode cL_isWord 1 = .ok (.iload_n 2, 1) := by decide +kernel
theorem dL_isWord_2 : decode cL_isWord 2 = .ok (.iaload, 1) := by decide +kernel
theorem dL_isWord_3 : decode cL_isWord 3 = .ok (.istore_n 3, 1) := by decide +kernel
theorem dL_isWord_4 : decode cL_isWord 4 = .ok (.iload_n 3, 1) := by decide +kernel
theorem dL_isWord_5 : decode cL_isWord 5 = .ok (.ifCond .ne 7, 3) := by decide +kernel
theorem dL_isWord_8 : decode cL_isWord 8 = .ok (.iconst 4, 1) := by decide +kernel
theorem dL_isWord_9 : decode cL_isWord 9 = .ok (.goto 39, 3) := by decide +kernel
theorem dL_isWord_12 : decode cL_isWord 12 = .ok (.iload_n 3, 1) := by decide +kernel
theorem dL_isWord_13 : decode cL_isWord 13 = .ok (.iconst 1, 1) := by decide +kernel
theorem dL_isWord_14 : decode cL_isWord 14 = .ok (.if_icmp .ne 8, 3) := by decide +kernel
theorem dL_isWord_17 : decode cL_isWord 17 = .ok (.bipush 7, 2) := by decide +kernel
theorem dL_isWord_19 : decode cL_isWord 19 = .ok (.goto 29, 3) := by decide +kernel
theorem dL_isWord_22 : decode cL_isWord 22 = .ok (.iload_n 3, 1) := by decide +kernel
theorem dL_isWord_23 : decode cL_isWord 23 = .ok (.iconst 2, 1) := by decide +kernel
theorem dL_isWord_24 : decode cL_isWord 24 = .ok (.if_icmp .eq 8, 3) := by decide +kernel
theorem dL_isWord_27 : decode cL_isWord 27 = .ok (.iload_n 3, 1) := by decide +kernel
theorem dL_isWord_28 : decode cL_isWord 28 = .ok (.iconst 5, 1) := by decide +kernel
theorem dL_isWord_29 : decode cL_isWord 29 = .ok (.if_icmp .ne 8, 3) := by decide +kernel
theorem dL_isWord_32 : decode cL_isWord 32 = .ok (.bipush 6, 2) := by decide +kernel
theorem dL_isWord_34 : decode cL_isWord 34 = .ok (.goto 14, 3) := by decide +kernel
theorem dL_isWord_37 : decode cL_isWord 37 = .ok (.iload_n 3, 1) := by decide +kernel
theorem dL_isWord_38 : decode cL_isWord 38 = .ok (.iconst 3, 1) := by decide +kernel
theorem dL_isWord_39 : decode cL_isWord 39 = .ok (.if_icmp .ne 7, 3) := by decide +kernel
theorem dL_isWord_42 : decode cL_isWord 42 = .ok (.iconst 5, 1) := by decide +kernel
theorem dL_isWord_43 : decode cL_isWord 43 = .ok (.goto 5, 3) := by decide +kernel
theorem dL_isWord_46 : decode cL_isWord 46 = .ok (.bipush 10, 2) := by decide +kernel
theorem dL_isWord_48 : decode cL_isWord 48 = .ok (.istore 4, 2) := by decide +kernel
theorem dL_isWord_50 : decode cL_isWord 50 = .ok (.iload_n 3, 1) := by decide +kernel
theorem dL_isWord_51 : decode cL_isWord 51 = .ok (.ifCond .eq 8, 3) := by decide +kernel
theorem dL_isWord_54 : decode cL_isWord 54 = .ok (.iload_n 3, 1) := by decide +kernel
theorem dL_isWord_55 : decode cL_isWord 55 = .ok (.iconst 5, 1) := by decide +kernel
theorem dL_isWord_56 : decode cL_isWord 56 = .ok (.if_icmp .ne 8, 3) := by decide +kernel
theorem dL_isWord_59 : decode cL_isWord 59 = .ok (.bipush 102, 2) := by decide +kernel
theorem dL_isWord_61 : decode cL_isWord 61 = .ok (.goto 35, 3) := by decide +kernel
theorem dL_isWord_64 : decode cL_isWord 64 = .ok (.iload_n 3, 1) := by decide +kernel
theorem dL_isWord_65 : decode cL_isWord 65 = .ok (.iconst 1, 1) := by decide +kernel
theorem dL_isWord_66 : decode cL_isWord 66 = .ok (.if_icmp .ne 8, 3) := by decide +kernel
theorem dL_isWord_69 : decode cL_isWord 69 = .ok (.bipush 97, 2) := by decide +kernel
theorem dL_isWord_71 : decode cL_isWord 71 = .ok (.goto 25, 3) := by decide +kernel
theorem dL_isWord_74 : decode cL_isWord 74 = .ok (.iload_n 3, 1) := by decide +kernel
theorem dL_isWord_75 : decode cL_isWord 75 = .ok (.iconst 2, 1) := by decide +kernel
theorem dL_isWord_76 : decode cL_isWord 76 = .ok (.if_icmp .ne 8, 3) := by decide +kernel
theorem dL_isWord_79 : decode cL_isWord 79 = .ok (.bipush 108, 2) := by decide +kernel
theorem dL_isWord_81 : decode cL_isWord 81 = .ok (.goto 15, 3) := by decide +kernel
theorem dL_isWord_84 : decode cL_isWord 84 = .ok (.iload_n 3, 1) := by decide +kernel
theorem dL_isWord_85 : decode cL_isWord 85 = .ok (.iconst 3, 1) := by decide +kernel
theorem dL_isWord_86 : decode cL_isWord 86 = .ok (.if_icmp .ne 8, 3) := by decide +kernel
theorem dL_isWord_89 : decode cL_isWord 89 = .ok (.bipush 103, 2) := by decide +kernel
theorem dL_isWord_91 : decode cL_isWord 91 = .ok (.goto 5, 3) := by decide +kernel
theorem dL_isWord_94 : decode cL_isWord 94 = .ok (.bipush 114, 2) := by decide +kernel
theorem dL_isWord_96 : decode cL_isWord 96 = .ok (.istore 5, 2) := by decide +kernel
theorem dL_isWord_98 : decode cL_isWord 98 = .ok (.iload_n 3, 1) := by decide +kernel
theorem dL_isWord_99 : decode cL_isWord 99 = .ok (.ifCond .eq 8, 3) := by decide +kernel
theorem dL_isWord_102 : decode cL_isWord 102 = .ok (.iload_n 3, 1) := by decide +kernel
theorem dL_isWord_103 : decode cL_isWord 103 = .ok (.iconst 3, 1) := by decide +kernel
theorem dL_isWord_104 : decode cL_isWord 104 = .ok (.if_icmp .ne 8, 3) := by decide +kernel
theorem dL_isWord_107 : decode cL_isWord 107 = .ok (.bipush 101, 2) := by decide +kernel
theorem dL_isWord_109 : decode cL_isWord 109 = .ok (.goto 15, 3) := by decide +kernel
theorem dL_isWord_112 : decode cL_isWord 112 = .ok (.iload_n 3, 1) := by decide +kernel
theorem dL_isWord_113 : decode cL_isWord 113 = .ok (.iconst 2, 1) := by decide +kernel
theorem dL_isWord_114 : decode cL_isWord 114 = .ok (.if_icmp .ne 8, 3) := by decide +kernel
theorem dL_isWord_117 : decode cL_isWord 117 = .ok (.bipush 100, 2) := by decide +kernel
theorem dL_isWord_119 : decode cL_isWord 119 = .ok (.goto 5, 3) := by decide +kernel
theorem dL_isWord_122 : decode cL_isWord 122 = .ok (.bipush 110, 2) := by decide +kernel
theorem dL_isWord_124 : decode cL_isWord 124 = .ok (.istore 6, 2) := by decide +kernel
theorem dL_isWord_126 : decode cL_isWord 126 = .ok (.aload_n 1, 1) := by decide +kernel
theorem dL_isWord_127 : decode cL_isWord 127 = .ok (.bipush 16, 2) := by decide +kernel
theorem dL_isWord_129 : decode cL_isWord 129 = .ok (.iload_n 2, 1) := by decide +kernel
theorem dL_isWord_130 : decode cL_isWord 130 = .ok (.iadd, 1) := by decide +kernel
theorem dL_isWord_131 : decode cL_isWord 131 = .ok (.iaload, 1) := by decide +kernel
theorem dL_isWord_132 : decode cL_isWord 132 = .ok (.istore 7, 2) := by decide +kernel
theorem dL_isWord_134 : decode cL_isWord 134 = .ok (.aload_n 0, 1) := by decide +kernel
theorem dL_isWord_135 : decode cL_isWord 135 = .ok (.iconst 3, 1) := by decide +kernel
theorem dL_isWord_136 : decode cL_isWord 136 = .ok (.iload_n 2, 1) := by decide +kernel
theorem dL_isWord_137 : decode cL_isWord 137 = .ok (.iconst 0, 1) := by decide +kernel
theorem dL_isWord_138 : decode cL_isWord 138 = .ok (.invokestatic 73, 3) := by decide +kernel
theorem dL_isWord_141 : decode cL_isWord 141 = .ok (.iload 5, 2) := by decide +kernel
theorem dL_isWord_143 : decode cL_isWord 143 = .ok (.if_icmp .ne 100, 3) := by decide +kernel
theorem dL_isWord_146 : decode cL_isWord 146 = .ok (.aload_n 0, 1) := by decide +kernel
theorem dL_isWord_147 : decode cL_isWord 147 = .ok (.iconst 3, 1) := by decide +kernel
theorem dL_isWord_148 : decode cL_isWord 148 = .ok (.iload_n 2, 1) := by decide +kernel
theorem dL_isWord_149 : decode cL_isWord 149 = .ok (.iload 4, 2) := by decide +kernel
theorem dL_isWord_151 : decode cL_isWord 151 = .ok (.iconst 1, 1) := by decide +kernel
theorem dL_isWord_152 : decode cL_isWord 152 = .ok (.isub, 1) := by decide +kernel
theorem dL_isWord_153 : decode cL_isWord 153 = .ok (.invokestatic 73, 3) := by decide +kernel
theorem dL_isWord_156 : decode cL_isWord 156 = .ok (.iload 6, 2) := by decide +kernel
theorem dL_isWord_158 : decode cL_isWord 158 = .ok (.if_icmp .ne 85, 3) := by decide +kernel
theorem dL_isWord_161 : decode cL_isWord 161 = .ok (.aload_n 0, 1) := by decide +kernel
theorem dL_isWord_162 : decode cL_isWord 162 = .ok (.iconst 3, 1) := by decide +kernel
theorem dL_isWord_163 : decode cL_isWord 163 = .ok (.iload_n 2, 1) := by decide +kernel
theorem dL_isWord_164 : decode cL_isWord 164 = .ok (.iconst (-1), 1) := by decide +kernel
theorem dL_isWord_165 : decode cL_isWord 165 = .ok (.invokestatic 73, 3) := by decide +kernel
theorem dL_isWord_168 : decode cL_isWord 168 = .ok (.bipush (-30), 2) := by decide +kernel
theorem dL_isWord_170 : decode cL_isWord 170 = .ok (.if_icmp .ne 73, 3) := by decide +kernel
theorem dL_isWord_173 : decode cL_isWord 173 = .ok (.aload_n 0, 1) := by decide +kernel
theorem dL_isWord_174 : decode cL_isWord 174 = .ok (.iconst 3, 1) := by decide +kernel
theorem dL_isWord_175 : decode cL_isWord 175 = .ok (.iload_n 2, 1) := by decide +kernel
theorem dL_isWord_176 : decode cL_isWord 176 = .ok (.iload 4, 2) := by decide +kernel
theorem dL_isWord_178 : decode cL_isWord 178 = .ok (.invokestatic 73, 3) := by decide +kernel
theorem dL_isWord_181 : decode cL_isWord 181 = .ok (.iload 7, 2) := by decide +kernel
theorem dL_isWord_183 : decode cL_isWord 183 = .ok (.ifCond .ge 8, 3) := by decide +kernel
theorem dL_isWord_186 : decode cL_isWord 186 = .ok (.bipush (-30), 2) := by decide +kernel
theorem dL_isWord_188 : decode cL_isWord 188 = .ok (.goto 5, 3) := by decide +kernel
theorem dL_isWord_191 : decode cL_isWord 191 = .ok (.bipush 58, 2) := by decide +kernel
theorem dL_isWord_193 : decode cL_isWord 193 = .ok (.if_icmp .ne 50, 3) := by decide +kernel
theorem dL_isWord_196 : decode cL_isWord 196 = .ok (.aload_n 0, 1) := by decide +kernel
theorem dL_isWord_197 : decode cL_isWord 197 = .ok (.iconst 3, 1) := by decide +kernel
theorem dL_isWord_198 : decode cL_isWord 198 = .ok (.iload_n 2, 1) := by decide +kernel
theorem dL_isWord_199 : decode cL_isWord 199 = .ok (.iload 4, 2) := by decide +kernel
theorem dL_isWord_201 : decode cL_isWord 201 = .ok (.iconst 1, 1) := by decide +kernel
theorem dL_isWord_202 : decode cL_isWord 202 = .ok (.iadd, 1) := by decide +kernel
theorem dL_isWord_203 : decode cL_isWord 203 = .ok (.invokestatic 73, 3) := by decide +kernel
theorem dL_isWord_206 : decode cL_isWord 206 = .ok (.iload 7, 2) := by decide +kernel
theorem dL_isWord_208 : decode cL_isWord 208 = .ok (.ifCond .ge 8, 3) := by decide +kernel
theorem dL_isWord_211 : decode cL_isWord 211 = .ok (.bipush (-30), 2) := by decide +kernel
theorem dL_isWord_213 : decode cL_isWord 213 = .ok (.goto 8, 3) := by decide +kernel
theorem dL_isWord_216 : decode cL_isWord 216 = .ok (.bipush 48, 2) := by decide +kernel
theorem dL_isWord_218 : decode cL_isWord 218 = .ok (.iload 7, 2) := by decide +kernel
theorem dL_isWord_220 : decode cL_isWord 220 = .ok (.iadd, 1) := by decide +kernel
theorem dL_isWord_221 : decode cL_isWord 221 = .ok (.if_icmp .ne 22, 3) := by decide +kernel
theorem dL_isWord_224 : decode cL_isWord 224 = .ok (.aload_n 0, 1) := by decide +kernel
theorem dL_isWord_225 : decode cL_isWord 225 = .ok (.iconst 3, 1) := by decide +kernel
theorem dL_isWord_226 : decode cL_isWord 226 = .ok (.iload_n 2, 1) := by decide +kernel
theorem dL_isWord_227 : decode cL_isWord 227 = .ok (.iload 4, 2) := by decide +kernel
theorem dL_isWord_229 : decode cL_isWord 229 = .ok (.iconst 2, 1) := by decide +kernel
theorem dL_isWord_230 : decode cL_isWord 230 = .ok (.iadd, 1) := by decide +kernel
theorem dL_isWord_231 : decode cL_isWord 231 = .ok (.invokestatic 73, 3) := by decide +kernel
theorem dL_isWord_234 : decode cL_isWord 234 = .ok (.bipush (-30), 2) := by decide +kernel
theorem dL_isWord_236 : decode cL_isWord 236 = .ok (.if_icmp .ne 7, 3) := by decide +kernel
theorem dL_isWord_239 : decode cL_isWord 239 = .ok (.iconst 1, 1) := by decide +kernel
theorem dL_isWord_240 : decode cL_isWord 240 = .ok (.goto 4, 3) := by decide +kernel
theorem dL_isWord_243 : decode cL_isWord 243 = .ok (.iconst 0, 1) := by decide +kernel
theorem dL_isWord_244 : decode cL_isWord 244 = .ok (.ireturn, 1) := by decide +kernel
set_option maxRecDepth 20000 in
theorem ggL_areNames_X2_takings : GoodIn wsL_areNames wsX2_takings := goodIn_r _ [5, 6, 146, 147, 148, 149, 150, 151] (by decide +kernel) (by decide +kernel)
set_option maxRecDepth 20000 in
theorem gL_areNames_X2_takings : GoodIn wsL_areNames (wsV RL 79 RX2 yX2_takings wsX2_takings) := goodIn_app (goodIn_of _ (by decide +kernel)) ggL_areNames_X2_takings
set_option maxRecDepth 20000 in
theorem ggL_areNames_X2_today : GoodIn wsL_areNames wsX2_today := goodIn_r _ [10, 11, 146, 147, 148, 149, 150, 151] (by decide +kernel) (by decide +kernel)
set_option maxRecDepth 20000 in
theorem gL_areNames_X2_today : GoodIn wsL_areNames (wsV RL 83 RX2 yX2_today wsX2_today) := goodIn_app (goodIn_of _ (by decide +kernel)) ggL_areNames_X2_today
set_option maxRecDepth 20000 in
theorem ggL_areNames_L_asks : GoodIn wsL_areNames wsL_asks := goodIn_ca (goodIn_r _ [15, 16, 17, 18, 19, 4, 20, 21, 22, 23, 24, 25, 26, 27, 28, 29, 30, 31, 32, 33, 34, 35, 36, 37, 38, 39, 40, 41, 42, 43, 44, 45, 46, 47, 48, 49, 50, 51, 52, 53, 54, 55, 56, 57, 58, 59, 60, 61, 62, 63, 64, 65, 66, 67, 68, 69, 70, 71, 72, 73, 74, 75, 76, 77, 78, 79, 80, 81, 82, 83, 84, 85, 86, 87, 88, 89, 90, 91, 92, 93, 94, 95, 96, 97, 98, 99, 100, 101, 102, 103, 104, 105, 106, 107, 108, 109, 110, 111, 112, 113, 114, 115, 11, 116, 117, 118, 119, 120, 121, 122, 123, 124, 125, 126, 127, 128, 129, 130, 131, 132, 133, 134, 135, 136, 137, 138, 139, 140, 141, 142, 143, 144, 145, 146, 147, 148, 149, 150, 151, 152, 153, 154, 155, 156, 157, 158, 159, 160, 161, 162, 163, 164, 165, 166] (by decide +kernel) (by decide +kernel)) (goodIn_sub (fun _ h => List.mem_cons_of_mem _ (List.mem_append_right _ h)) (by decide +kernel))
set_option maxRecDepth 20000 in
theorem gL_areNames_L_asks : GoodIn wsL_areNames (va_wsS RL 73 yL_asks wsL_asks) := goodIn_app (goodIn_of _ (by decide +kernel)) ggL_areNames_L_asks
set_option maxRecDepth 20000 in
theorem ggL_areNames_X2_funds : GoodIn wsL_areNames wsX2_funds := goodIn_ca (goodIn_r _ [20, 21, 22, 23, 4, 24, 25, 26, 146, 147, 148, 149, 150, 151] (by decide +kernel) (by decide +kernel)) (goodIn_sub (fun _ h => List.mem_cons_of_mem _ (List.mem_append_right _ h)) (by decide +kernel))
set_option maxRecDepth 20000 in
theorem gL_areNames_X2_funds : GoodIn wsL_areNames (wsV RL 47 RX2 yX2_funds wsX2_funds) := goodIn_app (goodIn_of _ (by decide +kernel)) ggL_areNames_X2_funds
set_option maxRecDepth 20000 in
theorem ggL_areNames_X2_state : GoodIn wsL_areNames wsX2_state := goodIn_ca (goodIn_r _ [40, 31, 22, 23, 4, 24, 25, 26, 146, 147, 148, 149, 150, 151, 152, 153, 154, 155, 156, 157, 158, 159, 160, 161, 162] (by decide +kernel) (by decide +kernel)) (goodIn_sub (fun _ h => List.mem_cons_of_mem _ (List.mem_append_right _ h)) (by decide +kernel))
set_option maxRecDepth 20000 in
theorem gL_areNames_X2_state : GoodIn wsL_areNames (wsV RL 53 RX2 yX2_state wsX2_state) := goodIn_app (goodIn_of _ (by decide +kernel)) ggL_areNames_X2_state
set_option maxRecDepth 20000 in
theorem ggL_areNames_X2_owner : GoodIn wsL_areNames wsX2_owner := goodIn_ca (goodIn_r _ [100, 31, 22, 23, 4, 24, 25, 26, 146, 147, 148, 149, 150, 151, 152, 153, 154, 155, 156, 157, 158, 159, 160, 161, 162] (by decide +kernel) (by decide +kernel)) (goodIn_sub (fun _ h => List.mem_cons_of_mem _ (List.mem_append_right _ h)) (by decide +kernel))
set_option maxRecDepth 20000 in
theorem gL_areNames_X2_owner : GoodIn wsL_areNames (wsV RL 60 RX2 yX2_owner wsX2_owner) := goodIn_app (goodIn_of _ (by decide +kernel)) ggL_areNames_X2_owner
set_option maxRecDepth 20000 in
theorem ggL_areNames_X2_next : GoodIn wsL_areNames wsX2_next := goodIn_ca (goodIn_r _ [104, 31, 22, 23, 4, 24, 25, 26, 105, 33, 106, 107, 108, 109, 110, 146, 147, 148, 149, 150, 151, 152, 153, 154, 155, 156, 157, 158, 159, 160, 161, 162] (by decide +kernel) (by decide +kernel)) (goodIn_sub (fun _ h => List.mem_cons_of_mem _ (List.mem_append_right _ h)) (by decide +kernel))
set_option maxRecDepth 20000 in
theorem gL_areNames_X2_next : GoodIn wsL_areNames (wsV RL 63 RX2 yX2_next wsX2_next) := goodIn_app (goodIn_of _ (by decide +kernel)) ggL_areNames_X2_next
set_option maxRecDepth 20000 in
theorem ggL_areNames_X2_bids : GoodIn wsL_areNames wsX2_bids := goodIn_ca (goodIn_r _ [30, 31, 22, 23, 4, 24, 25, 26, 32, 33, 34, 35, 36, 146, 147, 148, 149, 150, 151, 152, 153, 154, 155, 156, 157, 158, 159, 160, 161, 162] (by decide +kernel) (by decide +kernel)) (goodIn_sub (fun _ h => List.mem_cons_of_mem _ (List.mem_append_right _ h)) (by decide +kernel))
set_option maxRecDepth 20000 in
theorem gL_areNames_X2_bids : GoodIn wsL_areNames (wsV RL 50 RX2 yX2_bids wsX2_bids) := goodIn_app (goodIn_of _ (by decide +kernel)) ggL_areNames_X2_bids
theorem dL_areNames_0 : decode cL_areNames 0 = .ok (.aload_n 0, 1) := by decide +kernel
theorem dL_areNames_1 : decode cL_areNames 1 = .ok (.invokevirtual 79, 3) := by decide +kernel
theorem dL_areNames_4 : decode cL_areNames 4 = .ok (.istore 4, 2) := by decide +kernel
theorem dL_areNames_6 : decode cL_areNames 6 = .ok (.aload_n 0, 1) := by decide +kernel
theorem dL_areNames_7 : decode cL_areNames 7 = .ok (.invokevirtual 83, 3) := by decide +kernel
theorem dL_areNames_10 : decode cL_areNames 10 = .ok (.aload_n 3, 1) := by decide +kernel
theorem dL_areNames_11 : decode cL_areNames 11 = .ok (.iconst 0, 1) := by decide +kernel
theorem dL_areNames_12 : decode cL_areNames 12 = .ok (.iaload, 1) := by decide +kernel
theorem dL_areNames_13 : decode cL_areNames 13 = .ok (.if_icmp .ne 88, 3) := by decide +kernel
theorem dL_areNames_16 : decode cL_areNames 16 = .ok (.iload 4, 2) := by decide +kernel
theorem dL_areNames_18 : decode cL_areNames 18 = .ok (.ifCond .lt 83, 3) := by decide +kernel
theorem dL_areNames_21 : decode cL_areNames 21 = .ok (.aload_n 0, 1) := by decide +kernel
theorem dL_areNames_22 : decode cL_areNames 22 = .ok (.iconst 0, 1) := by decide +kernel
theorem dL_areNames_23 : decode cL_areNames 23 = .ok (.bipush 6, 2) := by decide +kernel
theorem dL_areNames_25 : decode cL_areNames 25 = .ok (.iconst 0, 1) := by decide +kernel
theorem dL_areNames_26 : decode cL_areNames 26 = .ok (.invokestatic 73, 3) := by decide +kernel
theorem dL_areNames_29 : decode cL_areNames 29 = .ok (.bipush (-30), 2) := by decide +kernel
theorem dL_areNames_31 : decode cL_areNames 31 = .ok (.if_icmp .ne 70, 3) := by decide +kernel
theorem dL_areNames_34 : decode cL_areNames 34 = .ok (.aload_n 0, 1) := by decide +kernel
theorem dL_areNames_35 : decode cL_areNames 35 = .ok (.iconst 1, 1) := by decide +kernel
theorem dL_areNames_36 : decode cL_areNames 36 = .ok (.bipush 16, 2) := by decide +kernel
theorem dL_areNames_38 : decode cL_areNames 38 = .ok (.iconst 0, 1) := by decide +kernel
theorem dL_areNames_39 : decode cL_areNames 39 = .ok (.invokestatic 73, 3) := by decide +kernel
theorem dL_areNames_42 : decode cL_areNames 42 = .ok (.bipush (-30), 2) := by decide +kernel
theorem dL_areNames_44 : decode cL_areNames 44 = .ok (.if_icmp .ne 57, 3) := by decide +kernel
theorem dL_areNames_47 : decode cL_areNames 47 = .ok (.aload_n 0, 1) := by decide +kernel
theorem dL_areNames_48 : decode cL_areNames 48 = .ok (.iconst 2, 1) := by decide +kernel
theorem dL_areNames_49 : decode cL_areNames 49 = .ok (.iconst (-1), 1) := by decide +kernel
theorem dL_areNames_50 : decode cL_areNames 50 = .ok (.iconst 0, 1) := by decide +kernel
theorem dL_areNames_51 : decode cL_areNames 51 = .ok (.invokestatic 73, 3) := by decide +kernel
theorem dL_areNames_54 : decode cL_areNames 54 = .ok (.bipush (-30), 2) := by decide +kernel
theorem dL_areNames_56 : decode cL_areNames 56 = .ok (.if_icmp .ne 45, 3) := by decide +kernel
theorem dL_areNames_59 : decode cL_areNames 59 = .ok (.aload_n 0, 1) := by decide +kernel
theorem dL_areNames_60 : decode cL_areNames 60 = .ok (.iconst 3, 1) := by decide +kernel
theorem dL_areNames_61 : decode cL_areNames 61 = .ok (.bipush 16, 2) := by decide +kernel
theorem dL_areNames_63 : decode cL_areNames 63 = .ok (.iconst 0, 1) := by decide +kernel
theorem dL_areNames_64 : decode cL_areNames 64 = .ok (.invokestatic 73, 3) := by decide +kernel
theorem dL_areNames_67 : decode cL_areNames 67 = .ok (.bipush (-30), 2) := by decide +kernel
theorem dL_areNames_69 : decode cL_areNames 69 = .ok (.if_icmp .ne 32, 3) := by decide +kernel
theorem dL_areNames_72 : decode cL_areNames 72 = .ok (.aload_n 0, 1) := by decide +kernel
theorem dL_areNames_73 : decode cL_areNames 73 = .ok (.iconst 4, 1) := by decide +kernel
theorem dL_areNames_74 : decode cL_areNames 74 = .ok (.bipush 16, 2) := by decide +kernel
theorem dL_areNames_76 : decode cL_areNames 76 = .ok (.iconst 0, 1) := by decide +kernel
theorem dL_areNames_77 : decode cL_areNames 77 = .ok (.invokestatic 73, 3) := by decide +kernel
theorem dL_areNames_80 : decode cL_areNames 80 = .ok (.bipush (-30), 2) := by decide +kernel
theorem dL_areNames_82 : decode cL_areNames 82 = .ok (.if_icmp .ne 19, 3) := by decide +kernel
theorem dL_areNames_85 : decode cL_areNames 85 = .ok (.aload_n 0, 1) := by decide +kernel
theorem dL_areNames_86 : decode cL_areNames 86 = .ok (.iconst 5, 1) := by decide +kernel
theorem dL_areNames_87 : decode cL_areNames 87 = .ok (.iconst (-1), 1) := by decide +kernel
theorem dL_areNames_88 : decode cL_areNames 88 = .ok (.iconst 0, 1) := by decide +kernel
theorem dL_areNames_89 : decode cL_areNames 89 = .ok (.invokestatic 73, 3) := by decide +kernel
theorem dL_areNames_92 : decode cL_areNames 92 = .ok (.bipush (-30), 2) := by decide +kernel
theorem dL_areNames_94 : decode cL_areNames 94 = .ok (.if_icmp .ne 7, 3) := by decide +kernel
theorem dL_areNames_97 : decode cL_areNames 97 = .ok (.iconst 1, 1) := by decide +kernel
theorem dL_areNames_98 : decode cL_areNames 98 = .ok (.goto 4, 3) := by decide +kernel
theorem dL_areNames_101 : decode cL_areNames 101 = .ok (.iconst 0, 1) := by decide +kernel
theorem dL_areNames_102 : decode cL_areNames 102 = .ok (.istore 5, 2) := by decide +kernel
theorem dL_areNames_104 : decode cL_areNames 104 = .ok (.iconst 0, 1) := by decide +kernel
theorem dL_areNames_105 : decode cL_areNames 105 = .ok (.istore 6, 2) := by decide +kernel
theorem dL_areNames_107 : decode cL_areNames 107 = .ok (.iload 6, 2) := by decide +kernel
theorem dL_areNames_109 : decode cL_areNames 109 = .ok (.bipush 6, 2) := by decide +kernel
theorem dL_areNames_111 : decode cL_areNames 111 = .ok (.if_icmp .ge 41, 3) := by decide +kernel
theorem dL_areNames_114 : decode cL_areNames 114 = .ok (.iload 5, 2) := by decide +kernel
theorem dL_areNames_116 : decode cL_areNames 116 = .ok (.ifCond .eq 36, 3) := by decide +kernel
theorem dL_areNames_119 : decode cL_areNames 119 = .ok (.iload 4, 2) := by decide +kernel
theorem dL_areNames_121 : decode cL_areNames 121 = .ok (.aload_n 0, 1) := by decide +kernel
theorem dL_areNames_122 : decode cL_areNames 122 = .ok (.iload 6, 2) := by decide +kernel
theorem dL_areNames_124 : decode cL_areNames 124 = .ok (.invokevirtual 47, 3) := by decide +kernel
theorem dL_areNames_127 : decode cL_areNames 127 = .ok (.iadd, 1) := by decide +kernel
theorem dL_areNames_128 : decode cL_areNames 128 = .ok (.istore 4, 2) := by decide +kernel
theorem dL_areNames_130 : decode cL_areNames 130 = .ok (.aload_n 0, 1) := by decide +kernel
theorem dL_areNames_131 : decode cL_areNames 131 = .ok (.iload 6, 2) := by decide +kernel
theorem dL_areNames_133 : decode cL_areNames 133 = .ok (.invokevirtual 47, 3) := by decide +kernel
theorem dL_areNames_136 : decode cL_areNames 136 = .ok (.ifCond .lt 7, 3) := by decide +kernel
theorem dL_areNames_139 : decode cL_areNames 139 = .ok (.iconst 1, 1) := by decide +kernel
theorem dL_areNames_140 : decode cL_areNames 140 = .ok (.goto 4, 3) := by decide +kernel
theorem dL_areNames_143 : decode cL_areNames 143 = .ok (.iconst 0, 1) := by decide +kernel
theorem dL_areNames_144 : decode cL_areNames 144 = .ok (.istore 5, 2) := by decide +kernel
theorem dL_areNames_146 : decode cL_areNames 146 = .ok (.iinc 6 1, 3) := by decide +kernel
theorem dL_areNames_149 : decode cL_areNames 149 = .ok (.goto (-42), 3) := by decide +kernel
theorem dL_areNames_152 : decode cL_areNames 152 = .ok (.iconst 0, 1) := by decide +kernel
theorem dL_areNames_153 : decode cL_areNames 153 = .ok (.istore 6, 2) := by decide +kernel
theorem dL_areNames_155 : decode cL_areNames 155 = .ok (.iload 6, 2) := by decide +kernel
theorem dL_areNames_157 : decode cL_areNames 157 = .ok (.bipush 16, 2) := by decide +kernel
theorem dL_areNames_159 : decode cL_areNames 159 = .ok (.if_icmp .ge 196, 3) := by decide +kernel
theorem dL_areNames_162 : decode cL_areNames 162 = .ok (.iload 5, 2) := by decide +kernel
theorem dL_areNames_164 : decode cL_areNames 164 = .ok (.ifCond .eq 191, 3) := by decide +kernel
theorem dL_areNames_167 : decode cL_areNames 167 = .ok (.aload_n 0, 1) := by decide +kernel
theorem dL_areNames_168 : decode cL_areNames 168 = .ok (.iload 6, 2) := by decide +kernel
theorem dL_areNames_170 : decode cL_areNames 170 = .ok (.invokevirtual 53, 3) := by decide +kernel
theorem dL_areNames_173 : decode cL_areNames 173 = .ok (.istore 7, 2) := by decide +kernel
theorem dL_areNames_175 : decode cL_areNames 175 = .ok (.aload_n 0, 1) := by decide +kernel
theorem dL_areNames_176 : decode cL_areNames 176 = .ok (.iload 6, 2) := by decide +kernel
theorem dL_areNames_178 : decode cL_areNames 178 = .ok (.invokevirtual 60, 3) := by decide +kernel
theorem dL_areNames_181 : decode cL_areNames 181 = .ok (.istore 8, 2) := by decide +kernel
theorem dL_areNames_183 : decode cL_areNames 183 = .ok (.aload_n 0, 1) := by decide +kernel
theorem dL_areNames_184 : decode cL_areNames 184 = .ok (.iload 6, 2) := by decide +kernel
theorem dL_areNames_186 : decode cL_areNames 186 = .ok (.invokevirtual 63, 3) := by decide +kernel
theorem dL_areNames_189 : decode cL_areNames 189 = .ok (.istore 9, 2) := by decide +kernel
theorem dL_areNames_191 : decode cL_areNames 191 = .ok (.aload_n 0, 1) := by decide +kernel
theorem dL_areNames_192 : decode cL_areNames 192 = .ok (.iload 6, 2) := by decide +kernel
theorem dL_areNames_194 : decode cL_areNames 194 = .ok (.invokevirtual 50, 3) := by decide +kernel
theorem dL_areNames_197 : decode cL_areNames 197 = .ok (.istore 10, 2) := by decide +kernel
theorem dL_areNames_199 : decode cL_areNames 199 = .ok (.iload 7, 2) := by decide +kernel
theorem dL_areNames_201 : decode cL_areNames 201 = .ok (.iconst 1, 1) := by decide +kernel
theorem dL_areNames_202 : decode cL_areNames 202 = .ok (.if_icmp .le 23, 3) := by decide +kernel
theorem dL_areNames_205 : decode cL_areNames 205 = .ok (.iload 7, 2) := by decide +kernel
theorem dL_areNames_207 : decode cL_areNames 207 = .ok (.iconst 5, 1) := by decide +kernel
theorem dL_areNames_208 : decode cL_areNames 208 = .ok (.if_icmp .lt 13, 3) := by decide +kernel
theorem dL_areNames_211 : decode cL_areNames 211 = .ok (.aload_n 2, 1) := by decide +kernel
theorem dL_areNames_212 : decode cL_areNames 212 = .ok (.bipush 32, 2) := by decide +kernel
theorem dL_areNames_214 : decode cL_areNames 214 = .ok (.iload 6, 2) := by decide +kernel
theorem dL_areNames_216 : decode cL_areNames 216 = .ok (.iadd, 1) := by decide +kernel
theorem dL_areNames_217 : decode cL_areNames 217 = .ok (.iaload, 1) := by decide +kernel
theorem dL_areNames_218 : decode cL_areNames 218 = .ok (.ifCond .ne 7, 3) := by decide +kernel
theorem dL_areNames_221 : decode cL_areNames 221 = .ok (.iconst 1, 1) := by decide +kernel
theorem dL_areNames_222 : decode cL_areNames 222 = .ok (.goto 4, 3) := by decide +kernel
theorem dL_areNames_225 : decode cL_areNames 225 = .ok (.iconst 0, 1) := by decide +kernel
theorem dL_areNames_226 : decode cL_areNames 226 = .ok (.istore 11, 2) := by decide +kernel
theorem dL_areNames_228 : decode cL_areNames 228 = .ok (.iload 7, 2) := by decide +kernel
theorem dL_areNames_230 : decode cL_areNames 230 = .ok (.aload_n 1, 1) := by decide +kernel
theorem dL_areNames_231 : decode cL_areNames 231 = .ok (.iload 6, 2) := by decide +kernel
theorem dL_areNames_233 : decode cL_areNames 233 = .ok (.iaload, 1) := by decide +kernel
theorem dL_areNames_234 : decode cL_areNames 234 = .ok (.if_icmp .ne 112, 3) := by decide +kernel
theorem dL_areNames_237 : decode cL_areNames 237 = .ok (.iload 8, 2) := by decide +kernel
theorem dL_areNames_239 : decode cL_areNames 239 = .ok (.aload_n 1, 1) := by decide +kernel
theorem dL_areNames_240 : decode cL_areNames 240 = .ok (.bipush 16, 2) := by decide +kernel
theorem dL_areNames_242 : decode cL_areNames 242 = .ok (.iload 6, 2) := by decide +kernel
theorem dL_areNames_244 : decode cL_areNames 244 = .ok (.iadd, 1) := by decide +kernel
theorem dL_areNames_245 : decode cL_areNames 245 = .ok (.iaload, 1) := by decide +kernel
theorem dL_areNames_246 : decode cL_areNames 246 = .ok (.if_icmp .ne 100, 3) := by decide +kernel
theorem dL_areNames_249 : decode cL_areNames 249 = .ok (.iload 9, 2) := by decide +kernel
theorem dL_areNames_251 : decode cL_areNames 251 = .ok (.aload_n 1, 1) := by decide +kernel
theorem dL_areNames_252 : decode cL_areNames 252 = .ok (.bipush 32, 2) := by decide +kernel
theorem dL_areNames_254 : decode cL_areNames 254 = .ok (.iload 6, 2) := by decide +kernel
theorem dL_areNames_256 : decode cL_areNames 256 = .ok (.iadd, 1) := by decide +kernel
theorem dL_areNames_257 : decode cL_areNames 257 = .ok (.iaload, 1) := by decide +kernel
theorem dL_areNames_258 : decode cL_areNames 258 = .ok (.if_icmp .ne 88, 3) := by decide +kernel
theorem dL_areNames_261 : decode cL_areNames 261 = .ok (.iload 8, 2) := by decide +kernel
theorem dL_areNames_263 : decode cL_areNames 263 = .ok (.ifCond .lt 7, 3) := by decide +kernel
theorem dL_areNames_266 : decode cL_areNames 266 = .ok (.iconst 1, 1) := by decide +kernel
theorem dL_areNames_267 : decode cL_areNames 267 = .ok (.goto 4, 3) := by decide +kernel
theorem dL_areNames_270 : decode cL_areNames 270 = .ok (.iconst 0, 1) := by decide +kernel
theorem dL_areNames_271 : decode cL_areNames 271 = .ok (.iload 11, 2) := by decide +kernel
theorem dL_areNames_273 : decode cL_areNames 273 = .ok (.if_icmp .ne 73, 3) := by decide +kernel
theorem dL_areNames_276 : decode cL_areNames 276 = .ok (.iload 8, 2) := by decide +kernel
theorem dL_areNames_278 : decode cL_areNames 278 = .ok (.bipush 6, 2) := by decide +kernel
theorem dL_areNames_280 : decode cL_areNames 280 = .ok (.if_icmp .ge 66, 3) := by decide +kernel
theorem dL_areNames_283 : decode cL_areNames 283 = .ok (.iload 10, 2) := by decide +kernel
theorem dL_areNames_285 : decode cL_areNames 285 = .ok (.ifCond .le 7, 3) := by decide +kernel
theorem dL_areNames_288 : decode cL_areNames 288 = .ok (.iconst 1, 1) := by decide +kernel
theorem dL_areNames_289 : decode cL_areNames 289 = .ok (.goto 4, 3) := by decide +kernel
theorem dL_areNames_292 : decode cL_areNames 292 = .ok (.iconst 0, 1) := by decide +kernel
theorem dL_areNames_293 : decode cL_areNames 293 = .ok (.iload 7, 2) := by decide +kernel
theorem dL_areNames_295 : decode cL_areNames 295 = .ok (.iconst 1, 1) := by decide +kernel
theorem dL_areNames_296 : decode cL_areNames 296 = .ok (.if_icmp .ne 7, 3) := by decide +kernel
theorem dL_areNames_299 : decode cL_areNames 299 = .ok (.iconst 1, 1) := by decide +kernel
theorem dL_areNames_300 : decode cL_areNames 300 = .ok (.goto 4, 3) := by decide +kernel
theorem dL_areNames_303 : decode cL_areNames 303 = .ok (.iconst 0, 1) := by decide +kernel
theorem dL_areNames_304 : decode cL_areNames 304 = .ok (.if_icmp .ne 42, 3) := by decide +kernel
theorem dL_areNames_307 : decode cL_areNames 307 = .ok (.iload 10, 2) := by decide +kernel
theorem dL_areNames_309 : decode cL_areNames 309 = .ok (.bipush 7, 2) := by decide +kernel
theorem dL_areNames_311 : decode cL_areNames 311 = .ok (.if_icmp .ge 35, 3) := by decide +kernel
theorem dL_areNames_314 : decode cL_areNames 314 = .ok (.iload 7, 2) := by decide +kernel
theorem dL_areNames_316 : decode cL_areNames 316 = .ok (.ifCond .eq 9, 3) := by decide +kernel
theorem dL_areNames_319 : decode cL_areNames 319 = .ok (.iload 7, 2) := by decide +kernel
theorem dL_areNames_321 : decode cL_areNames 321 = .ok (.iconst 5, 1) := by decide +kernel
theorem dL_areNames_322 : decode cL_areNames 322 = .ok (.if_icmp .ne 12, 3) := by decide +kernel
theorem dL_areNames_325 : decode cL_areNames 325 = .ok (.iload 9, 2) := by decide +kernel
theorem dL_areNames_327 : decode cL_areNames 327 = .ok (.iconst (-1), 1) := by decide +kernel
theorem dL_areNames_328 : decode cL_areNames 328 = .ok (.if_icmp .ne 18, 3) := by decide +kernel
theorem dL_areNames_331 : decode cL_areNames 331 = .ok (.goto 11, 3) := by decide +kernel
theorem dL_areNames_334 : decode cL_areNames 334 = .ok (.iload 9, 2) := by decide +kernel
theorem dL_areNames_336 : decode cL_areNames 336 = .ok (.aload_n 3, 1) := by decide +kernel
theorem dL_areNames_337 : decode cL_areNames 337 = .ok (.iconst 0, 1) := by decide +kernel
theorem dL_areNames_338 : decode cL_areNames 338 = .ok (.iaload, 1) := by decide +kernel
theorem dL_areNames_339 : decode cL_areNames 339 = .ok (.if_icmp .le 7, 3) := by decide +kernel
theorem dL_areNames_342 : decode cL_areNames 342 = .ok (.iconst 1, 1) := by decide +kernel
theorem dL_areNames_343 : decode cL_areNames 343 = .ok (.goto 4, 3) := by decide +kernel
theorem dL_areNames_346 : decode cL_areNames 346 = .ok (.iconst 0, 1) := by decide +kernel
theorem dL_areNames_347 : decode cL_areNames 347 = .ok (.istore 5, 2) := by decide +kernel
theorem dL_areNames_349 : decode cL_areNames 349 = .ok (.iinc 6 1, 3) := by decide +kernel
theorem dL_areNames_352 : decode cL_areNames 352 = .ok (.goto (-197), 3) := by decide +kernel
theorem dL_areNames_355 : decode cL_areNames 355 = .ok (.iload 5, 2) := by decide +kernel
theorem dL_areNames_357 : decode cL_areNames 357 = .ok (.ifCond .eq 15, 3) := by decide +kernel
theorem dL_areNames_360 : decode cL_areNames 360 = .ok (.iload 4, 2) := by decide +kernel
theorem dL_areNames_362 : decode cL_areNames 362 = .ok (.aload_n 3, 1) := by decide +kernel
theorem dL_areNames_363 : decode cL_areNames 363 = .ok (.iconst 1, 1) := by decide +kernel
theorem dL_areNames_364 : decode cL_areNames 364 = .ok (.iaload, 1) := by decide +kernel
theorem dL_areNames_365 : decode cL_areNames 365 = .ok (.if_icmp .ne 7, 3) := by decide +kernel
theorem dL_areNames_368 : decode cL_areNames 368 = .ok (.iconst 1, 1) := by decide +kernel
theorem dL_areNames_369 : decode cL_areNames 369 = .ok (.goto 4, 3) := by decide +kernel
theorem dL_areNames_372 : decode cL_areNames 372 = .ok (.iconst 0, 1) := by decide +kernel
theorem dL_areNames_373 : decode cL_areNames 373 = .ok (.ireturn, 1) := by decide +kernel
set_option maxRecDepth 20000 in
theorem ggL_sees_X2_state : GoodIn wsL_sees wsX2_state := goodIn_ca (goodIn_r _ [5, 6, 7, 8, 4, 9, 10, 11, 27, 28, 29, 30, 31, 32, 33, 34, 35, 36, 37, 38, 39, 40, 41, 42, 43] (by decide +kernel) (by decide +kernel)) (goodIn_sub (fun _ h => List.mem_cons_of_mem _ (List.mem_append_right _ h)) (by decide +kernel))
set_option maxRecDepth 20000 in
theorem gL_sees_X2_state : GoodIn wsL_sees (wsV RL 53 RX2 yX2_state wsX2_state) := goodIn_app (goodIn_of _ (by decide +kernel)) ggL_sees_X2_state
set_option maxRecDepth 20000 in
theorem ggL_sees_X2_owner : GoodIn wsL_sees wsX2_owner := goodIn_ca (goodIn_r _ [15, 6, 7, 8, 4, 9, 10, 11, 27, 28, 29, 30, 31, 32, 33, 34, 35, 36, 37, 38, 39, 40, 41, 42, 43] (by decide +kernel) (by decide +kernel)) (goodIn_sub (fun _ h => List.mem_cons_of_mem _ (List.mem_append_right _ h)) (by decide +kernel))
set_option maxRecDepth 20000 in
theorem gL_sees_X2_owner : GoodIn wsL_sees (wsV RL 60 RX2 yX2_owner wsX2_owner) := goodIn_app (goodIn_of _ (by decide +kernel)) ggL_sees_X2_owner
set_option maxRecDepth 20000 in
theorem ggL_sees_X2_next : GoodIn wsL_sees wsX2_next := goodIn_ca (goodIn_r _ [19, 6, 7, 8, 4, 9, 10, 11, 20, 21, 22, 23, 24, 25, 26, 27, 28, 29, 30, 31, 32, 33, 34, 35, 36, 37, 38, 39, 40, 41, 42, 43] (by decide +kernel) (by decide +kernel)) (goodIn_sub (fun _ h => List.mem_cons_of_mem _ (List.mem_append_right _ h)) (by decide +kernel))
set_option maxRecDepth 20000 in
theorem gL_sees_X2_next : GoodIn wsL_sees (wsV RL 63 RX2 yX2_next wsX2_next) := goodIn_app (goodIn_of _ (by decide +kernel)) ggL_sees_X2_next
theorem dL_sees_0 : decode cL_sees 0 = .ok (.aload_n 1, 1) := by decide +kernel
theorem dL_sees_1 : decode cL_sees 1 = .ok (.iload_n 2, 1) := by decide +kernel
theorem dL_sees_2 : decode cL_sees 2 = .ok (.aload_n 0, 1) := by decide +kernel
theorem dL_sees_3 : decode cL_sees 3 = .ok (.iload_n 2, 1) := by decide +kernel
theorem dL_sees_4 : decode cL_sees 4 = .ok (.invokevirtual 53, 3) := by decide +kernel
theorem dL_sees_7 : decode cL_sees 7 = .ok (.iastore, 1) := by decide +kernel
theorem dL_sees_8 : decode cL_sees 8 = .ok (.aload_n 1, 1) := by decide +kernel
theorem dL_sees_9 : decode cL_sees 9 = .ok (.bipush 16, 2) := by decide +kernel
theorem dL_sees_11 : decode cL_sees 11 = .ok (.iload_n 2, 1) := by decide +kernel
theorem dL_sees_12 : decode cL_sees 12 = .ok (.iadd, 1) := by decide +kernel
theorem dL_sees_13 : decode cL_sees 13 = .ok (.aload_n 0, 1) := by decide +kernel
theorem dL_sees_14 : decode cL_sees 14 = .ok (.iload_n 2, 1) := by decide +kernel
theorem dL_sees_15 : decode cL_sees 15 = .ok (.invokevirtual 60, 3) := by decide +kernel
theorem dL_sees_18 : decode cL_sees 18 = .ok (.iastore, 1) := by decide +kernel
theorem dL_sees_19 : decode cL_sees 19 = .ok (.aload_n 1, 1) := by decide +kernel
theorem dL_sees_20 : decode cL_sees 20 = .ok (.bipush 32, 2) := by decide +kernel
theorem dL_sees_22 : decode cL_sees 22 = .ok (.iload_n 2, 1) := by decide +kernel
theorem dL_sees_23 : decode cL_sees 23 = .ok (.iadd, 1) := by decide +kernel
theorem dL_sees_24 : decode cL_sees 24 = .ok (.aload_n 0, 1) := by decide +kernel
theorem dL_sees_25 : decode cL_sees 25 = .ok (.iload_n 2, 1) := by decide +kernel
theorem dL_sees_26 : decode cL_sees 26 = .ok (.invokevirtual 63, 3) := by decide +kernel
theorem dL_sees_29 : decode cL_sees 29 = .ok (.iastore, 1) := by decide +kernel
theorem dL_sees_30 : decode cL_sees 30 = .ok (.return_, 1) := by decide +kernel
set_option maxRecDepth 20000 in
theorem ggL_isBid_L_does : GoodIn wsL_isBid wsL_does := goodIn_ca (goodIn_ca (goodIn_ca (goodIn_r _ [5, 6, 7, 8, 9, 10, 11, 12, 13, 14, 15, 16, 17, 18, 19, 20, 21, 22, 23, 24, 25, 26, 27, 28, 29, 30, 31, 32, 33, 34, 35, 36, 37, 38, 39, 40, 41, 42, 43, 44, 45, 46, 47, 48, 49, 50, 51, 52, 53, 54, 55, 56, 57, 58, 59, 60, 61, 62, 63, 64, 65, 66, 67, 68, 69, 70, 71, 72, 73, 74, 75, 76, 77, 78, 79, 80, 81, 82, 83, 84, 85, 86, 87, 88, 89, 90, 91, 92, 93, 94, 95, 96, 97, 98, 99, 100, 101, 102, 103, 104, 105, 106, 107, 108, 109, 110, 111, 112, 113, 114, 115, 116, 117, 118, 119, 120, 121, 122, 123, 124, 125, 126, 127, 128, 129, 130, 131, 132, 133, 134, 135, 136, 137, 138, 139, 140, 141, 149, 150, 151, 152, 153, 154, 155, 156, 157, 158, 159, 160, 161, 162, 163, 164, 165, 166, 167, 168, 169] (by decide +kernel) (by decide +kernel)) (goodIn_sub (fun _ h => List.mem_cons_of_mem _ (List.mem_append_left _ (List.mem_append_left _ (List.mem_append_right _ h)))) (by decide +kernel))) (goodIn_sub (fun _ h => List.mem_cons_of_mem _ (List.mem_append_left _ (List.mem_append_right _ h))) (by decide +kernel))) (goodIn_sub (fun _ h => List.mem_cons_of_mem _ (List.mem_append_right _ h)) (by decide +kernel))
set_option maxRecDepth 20000 in
theorem gL_isBid_L_does : GoodIn wsL_isBid (va_wsS RL 87 yL_does wsL_does) := goodIn_app (goodIn_of _ (by decide +kernel)) ggL_isBid_L_does
set_option maxRecDepth 20000 in
theorem ggL_isBid_X2_bids : GoodIn wsL_isBid wsX2_bids := goodIn_ca (goodIn_r _ [145, 30, 16, 17, 12, 18, 19, 20, 146, 39, 147, 148, 75, 149, 150, 151, 152, 153, 154, 155, 156, 157, 158, 159, 160, 161, 162, 163, 164, 165] (by decide +kernel) (by decide +kernel)) (goodIn_sub (fun _ h => List.mem_cons_of_mem _ (List.mem_append_left _ (List.mem_append_left _ (List.mem_append_right _ h)))) (by decide +kernel))
set_option maxRecDepth 20000 in
theorem gL_isBid_X2_bids : GoodIn wsL_isBid (wsV RL 50 RX2 yX2_bids wsX2_bids) := goodIn_app (goodIn_of _ (by decide +kernel)) ggL_isBid_X2_bids
theorem dL_isBid_0 : decode cL_isBid 0 = .ok (.iload_n 3, 1) := by decide +kernel
theorem dL_isBid_1 : decode cL_isBid 1 = .ok (.bipush 6, 2) := by decide +kernel
theorem dL_isBid_3 : decode cL_isBid 3 = .ok (.if_icmp .ge 14, 3) := by decide +kernel
theorem dL_isBid_6 : decode cL_isBid 6 = .ok (.iload 4, 2) := by decide +kernel
theorem dL_isBid_8 : decode cL_isBid 8 = .ok (.bipush 16, 2) := by decide +kernel
theorem dL_isBid_10 : decode cL_isBid 10 = .ok (.if_icmp .ge 7, 3) := by decide +kernel
theorem dL_isBid_13 : decode cL_isBid 13 = .ok (.iconst 1, 1) := by decide +kernel
theorem dL_isBid_14 : decode cL_isBid 14 = .ok (.goto 4, 3) := by decide +kernel
theorem dL_isBid_17 : decode cL_isBid 17 = .ok (.iconst 0, 1) := by decide +kernel
theorem dL_isBid_18 : decode cL_isBid 18 = .ok (.istore 6, 2) := by decide +kernel
theorem dL_isBid_20 : decode cL_isBid 20 = .ok (.iload 5, 2) := by decide +kernel
theorem dL_isBid_22 : decode cL_isBid 22 = .ok (.bipush 9, 2) := by decide +kernel
theorem dL_isBid_24 : decode cL_isBid 24 = .ok (.if_icmp .le 14, 3) := by decide +kernel
theorem dL_isBid_27 : decode cL_isBid 27 = .ok (.iload 5, 2) := by decide +kernel
theorem dL_isBid_29 : decode cL_isBid 29 = .ok (.ldc 86, 2) := by decide +kernel
theorem dL_isBid_31 : decode cL_isBid 31 = .ok (.if_icmp .gt 7, 3) := by decide +kernel
theorem dL_isBid_34 : decode cL_isBid 34 = .ok (.iconst 1, 1) := by decide +kernel
theorem dL_isBid_35 : decode cL_isBid 35 = .ok (.goto 4, 3) := by decide +kernel
theorem dL_isBid_38 : decode cL_isBid 38 = .ok (.iconst 0, 1) := by decide +kernel
theorem dL_isBid_39 : decode cL_isBid 39 = .ok (.istore 7, 2) := by decide +kernel
theorem dL_isBid_41 : decode cL_isBid 41 = .ok (.iload 6, 2) := by decide +kernel
theorem dL_isBid_43 : decode cL_isBid 43 = .ok (.ifCond .eq 16, 3) := by decide +kernel
theorem dL_isBid_46 : decode cL_isBid 46 = .ok (.iload 7, 2) := by decide +kernel
theorem dL_isBid_48 : decode cL_isBid 48 = .ok (.ifCond .eq 11, 3) := by decide +kernel
theorem dL_isBid_51 : decode cL_isBid 51 = .ok (.aload_n 1, 1) := by decide +kernel
theorem dL_isBid_52 : decode cL_isBid 52 = .ok (.iload 4, 2) := by decide +kernel
theorem dL_isBid_54 : decode cL_isBid 54 = .ok (.iaload, 1) := by decide +kernel
theorem dL_isBid_55 : decode cL_isBid 55 = .ok (.iconst 1, 1) := by decide +kernel
theorem dL_isBid_56 : decode cL_isBid 56 = .ok (.if_icmp .le 44, 3) := by decide +kernel
theorem dL_isBid_59 : decode cL_isBid 59 = .ok (.aload_n 0, 1) := by decide +kernel
theorem dL_isBid_60 : decode cL_isBid 60 = .ok (.iconst 1, 1) := by decide +kernel
theorem dL_isBid_61 : decode cL_isBid 61 = .ok (.iload_n 3, 1) := by decide +kernel
theorem dL_isBid_62 : decode cL_isBid 62 = .ok (.iload 4, 2) := by decide +kernel
theorem dL_isBid_64 : decode cL_isBid 64 = .ok (.iload 5, 2) := by decide +kernel
theorem dL_isBid_66 : decode cL_isBid 66 = .ok (.invokestatic 87, 3) := by decide +kernel
theorem dL_isBid_69 : decode cL_isBid 69 = .ok (.iload 6, 2) := by decide +kernel
theorem dL_isBid_71 : decode cL_isBid 71 = .ok (.ifCond .ne 8, 3) := by decide +kernel
theorem dL_isBid_74 : decode cL_isBid 74 = .ok (.bipush (-30), 2) := by decide +kernel
theorem dL_isBid_76 : decode cL_isBid 76 = .ok (.goto 15, 3) := by decide +kernel
theorem dL_isBid_79 : decode cL_isBid 79 = .ok (.iload 7, 2) := by decide +kernel
theorem dL_isBid_81 : decode cL_isBid 81 = .ok (.ifCond .ne 8, 3) := by decide +kernel
theorem dL_isBid_84 : decode cL_isBid 84 = .ok (.bipush (-20), 2) := by decide +kernel
theorem dL_isBid_86 : decode cL_isBid 86 = .ok (.goto 5, 3) := by decide +kernel
theorem dL_isBid_89 : decode cL_isBid 89 = .ok (.bipush (-10), 2) := by decide +kernel
theorem dL_isBid_91 : decode cL_isBid 91 = .ok (.if_icmp .ne 7, 3) := by decide +kernel
theorem dL_isBid_94 : decode cL_isBid 94 = .ok (.iconst 1, 1) := by decide +kernel
theorem dL_isBid_95 : decode cL_isBid 95 = .ok (.goto 4, 3) := by decide +kernel
theorem dL_isBid_98 : decode cL_isBid 98 = .ok (.iconst 0, 1) := by decide +kernel
theorem dL_isBid_99 : decode cL_isBid 99 = .ok (.ireturn, 1) := by decide +kernel
theorem dL_isBid_100 : decode cL_isBid 100 = .ok (.aload_n 0, 1) := by decide +kernel
theorem dL_isBid_101 : decode cL_isBid 101 = .ok (.iload 4, 2) := by decide +kernel
theorem dL_isBid_103 : decode cL_isBid 103 = .ok (.invokevirtual 50, 3) := by decide +kernel
theorem dL_isBid_106 : decode cL_isBid 106 = .ok (.istore 8, 2) := by decide +kernel
theorem dL_isBid_108 : decode cL_isBid 108 = .ok (.aload_n 1, 1) := by decide +kernel
theorem dL_isBid_109 : decode cL_isBid 109 = .ok (.iload 4, 2) := by decide +kernel
theorem dL_isBid_111 : decode cL_isBid 111 = .ok (.iaload, 1) := by decide +kernel
theorem dL_isBid_112 : decode cL_isBid 112 = .ok (.iconst 1, 1) := by decide +kernel
theorem dL_isBid_113 : decode cL_isBid 113 = .ok (.if_icmp .ne 13, 3) := by decide +kernel
theorem dL_isBid_116 : decode cL_isBid 116 = .ok (.aload_n 1, 1) := by decide +kernel
theorem dL_isBid_117 : decode cL_isBid 117 = .ok (.bipush 32, 2) := by decide +kernel
theorem dL_isBid_119 : decode cL_isBid 119 = .ok (.iload 4, 2) := by decide +kernel
theorem dL_isBid_121 : decode cL_isBid 121 = .ok (.iadd, 1) := by decide +kernel
theorem dL_isBid_122 : decode cL_isBid 122 = .ok (.iaload, 1) := by decide +kernel
theorem dL_isBid_123 : decode cL_isBid 123 = .ok (.goto 8, 3) := by decide +kernel
theorem dL_isBid_126 : decode cL_isBid 126 = .ok (.aload_n 2, 1) := by decide +kernel
theorem dL_isBid_127 : decode cL_isBid 127 = .ok (.iconst 0, 1) := by decide +kernel
theorem dL_isBid_128 : decode cL_isBid 128 = .ok (.iaload, 1) := by decide +kernel
theorem dL_isBid_129 : decode cL_isBid 129 = .ok (.iconst 5, 1) := by decide +kernel
theorem dL_isBid_130 : decode cL_isBid 130 = .ok (.iadd, 1) := by decide +kernel
theorem dL_isBid_131 : decode cL_isBid 131 = .ok (.istore 9, 2) := by decide +kernel
theorem dL_isBid_133 : decode cL_isBid 133 = .ok (.aload_n 1, 1) := by decide +kernel
theorem dL_isBid_134 : decode cL_isBid 134 = .ok (.iload 4, 2) := by decide +kernel
theorem dL_isBid_136 : decode cL_isBid 136 = .ok (.iconst 1, 1) := by decide +kernel
theorem dL_isBid_137 : decode cL_isBid 137 = .ok (.iastore, 1) := by decide +kernel
theorem dL_isBid_138 : decode cL_isBid 138 = .ok (.aload_n 1, 1) := by decide +kernel
theorem dL_isBid_139 : decode cL_isBid 139 = .ok (.bipush 32, 2) := by decide +kernel
theorem dL_isBid_141 : decode cL_isBid 141 = .ok (.iload 4, 2) := by decide +kernel
theorem dL_isBid_143 : decode cL_isBid 143 = .ok (.iadd, 1) := by decide +kernel
theorem dL_isBid_144 : decode cL_isBid 144 = .ok (.iload 9, 2) := by decide +kernel
theorem dL_isBid_146 : decode cL_isBid 146 = .ok (.iastore, 1) := by decide +kernel
theorem dL_isBid_147 : decode cL_isBid 147 = .ok (.aload_n 0, 1) := by decide +kernel
theorem dL_isBid_148 : decode cL_isBid 148 = .ok (.iconst 1, 1) := by decide +kernel
theorem dL_isBid_149 : decode cL_isBid 149 = .ok (.iload_n 3, 1) := by decide +kernel
theorem dL_isBid_150 : decode cL_isBid 150 = .ok (.iload 4, 2) := by decide +kernel
theorem dL_isBid_152 : decode cL_isBid 152 = .ok (.iload 5, 2) := by decide +kernel
theorem dL_isBid_154 : decode cL_isBid 154 = .ok (.invokestatic 87, 3) := by decide +kernel
theorem dL_isBid_157 : decode cL_isBid 157 = .ok (.iload 9, 2) := by decide +kernel
theorem dL_isBid_159 : decode cL_isBid 159 = .ok (.if_icmp .ne 56, 3) := by decide +kernel
theorem dL_isBid_162 : decode cL_isBid 162 = .ok (.aload_n 0, 1) := by decide +kernel
theorem dL_isBid_163 : decode cL_isBid 163 = .ok (.iload 4, 2) := by decide +kernel
theorem dL_isBid_165 : decode cL_isBid 165 = .ok (.invokevirtual 50, 3) := by decide +kernel
theorem dL_isBid_168 : decode cL_isBid 168 = .ok (.iload 8, 2) := by decide +kernel
theorem dL_isBid_170 : decode cL_isBid 170 = .ok (.if_icmp .lt 45, 3) := by decide +kernel
theorem dL_isBid_173 : decode cL_isBid 173 = .ok (.aload_n 0, 1) := by decide +kernel
theorem dL_isBid_174 : decode cL_isBid 174 = .ok (.iload 4, 2) := by decide +kernel
theorem dL_isBid_176 : decode cL_isBid 176 = .ok (.invokevirtual 50, 3) := by decide +kernel
theorem dL_isBid_179 : decode cL_isBid 179 = .ok (.iload 8, 2) := by decide +kernel
theorem dL_isBid_181 : decode cL_isBid 181 = .ok (.iconst 1, 1) := by decide +kernel
theorem dL_isBid_182 : decode cL_isBid 182 = .ok (.iadd, 1) := by decide +kernel
theorem dL_isBid_183 : decode cL_isBid 183 = .ok (.if_icmp .gt 32, 3) := by decide +kernel
theorem dL_isBid_186 : decode cL_isBid 186 = .ok (.aload_n 0, 1) := by decide +kernel
theorem dL_isBid_187 : decode cL_isBid 187 = .ok (.iconst 1, 1) := by decide +kernel
theorem dL_isBid_188 : decode cL_isBid 188 = .ok (.iload_n 3, 1) := by decide +kernel
theorem dL_isBid_189 : decode cL_isBid 189 = .ok (.iload 4, 2) := by decide +kernel
theorem dL_isBid_191 : decode cL_isBid 191 = .ok (.iload 5, 2) := by decide +kernel
theorem dL_isBid_193 : decode cL_isBid 193 = .ok (.invokestatic 87, 3) := by decide +kernel
theorem dL_isBid_196 : decode cL_isBid 196 = .ok (.iload 9, 2) := by decide +kernel
theorem dL_isBid_198 : decode cL_isBid 198 = .ok (.if_icmp .ne 17, 3) := by decide +kernel
theorem dL_isBid_201 : decode cL_isBid 201 = .ok (.aload_n 0, 1) := by decide +kernel
theorem dL_isBid_202 : decode cL_isBid 202 = .ok (.iload 4, 2) := by decide +kernel
theorem dL_isBid_204 : decode cL_isBid 204 = .ok (.invokevirtual 50, 3) := by decide +kernel
theorem dL_isBid_207 : decode cL_isBid 207 = .ok (.iconst 1, 1) := by decide +kernel
theorem dL_isBid_208 : decode cL_isBid 208 = .ok (.if_icmp .lt 7, 3) := by decide +kernel
theorem dL_isBid_211 : decode cL_isBid 211 = .ok (.iconst 1, 1) := by decide +kernel
theorem dL_isBid_212 : decode cL_isBid 212 = .ok (.goto 4, 3) := by decide +kernel
theorem dL_isBid_215 : decode cL_isBid 215 = .ok (.iconst 0, 1) := by decide +kernel
theorem dL_isBid_216 : decode cL_isBid 216 = .ok (.ireturn, 1) := by decide +kernel
set_option maxRecDepth 20000 in
theorem ggL_isRenewed_L_does : GoodIn wsL_isRenewed wsL_does := goodIn_ca (goodIn_ca (goodIn_ca (goodIn_r _ [4, 5, 6, 7, 8, 9, 10, 11, 12, 13, 14, 15, 16, 17, 18, 19, 20, 21, 22, 23, 24, 25, 26, 27, 28, 29, 30, 31, 32, 33, 34, 35, 36, 37, 38, 39, 40, 41, 42, 43, 44, 45, 46, 47, 48, 49, 50, 51, 52, 53, 54, 55, 56, 57, 58, 59, 60, 61, 62, 63, 64, 65, 66, 67, 68, 69, 70, 71, 72, 73, 74, 75, 76, 77, 78, 79, 80, 81, 82, 83, 84, 85, 86, 87, 88, 89, 90, 91, 92, 93, 94, 95, 96, 97, 98, 99, 100, 101, 102, 103, 104, 105, 106, 107, 108, 109, 110, 111, 112, 113, 114, 115, 116, 117, 118, 119, 120, 121, 122, 123, 124, 125, 126, 127, 128, 129, 130, 131, 132, 133, 134, 135, 136, 137, 138, 139, 140, 145, 146, 147, 148, 149, 150, 151, 152, 153, 154, 155, 156, 157, 158, 159, 160, 161, 162, 163, 164, 165] (by decide +kernel) (by decide +kernel)) (goodIn_sub (fun _ h => List.mem_cons_of_mem _ (List.mem_append_left _ (List.mem_append_left _ (List.mem_append_right _ h)))) (by decide +kernel))) (goodIn_sub (fun _ h => List.mem_cons_of_mem _ (List.mem_append_left _ (List.mem_append_right _ h))) (by decide +kernel))) (goodIn_sub (fun _ h => List.mem_cons_of_mem _ (List.mem_append_right _ h)) (by decide +kernel))
set_option maxRecDepth 20000 in
theorem gL_isRenewed_L_does : GoodIn wsL_isRenewed (va_wsS RL 87 yL_does wsL_does) := goodIn_app (goodIn_of _ (by decide +kernel)) ggL_isRenewed_L_does
set_option maxRecDepth 20000 in
theorem ggL_isRenewed_X2_funds : GoodIn wsL_isRenewed wsX2_funds := goodIn_ca (goodIn_r _ [144, 14, 15, 16, 11, 17, 18, 19, 145, 146, 147, 148, 149, 150] (by decide +kernel) (by decide +kernel)) (goodIn_sub (fun _ h => List.mem_cons_of_mem _ (List.mem_append_left _ (List.mem_append_left _ (List.mem_append_right _ h)))) (by decide +kernel))
set_option maxRecDepth 20000 in
theorem gL_isRenewed_X2_funds : GoodIn wsL_isRenewed (wsV RL 47 RX2 yX2_funds wsX2_funds) := goodIn_app (goodIn_of _ (by decide +kernel)) ggL_isRenewed_X2_funds
theorem dL_isRenewed_0 : decode cL_isRenewed 0 = .ok (.iload_n 3, 1) := by decide +kernel
theorem dL_isRenewed_1 : decode cL_isRenewed 1 = .ok (.bipush 16, 2) := by decide +kernel
theorem dL_isRenewed_3 : decode cL_isRenewed 3 = .ok (.if_icmp .ge 7, 3) := by decide +kernel
theorem dL_isRenewed_6 : decode cL_isRenewed 6 = .ok (.iconst 1, 1) := by decide +kernel
theorem dL_isRenewed_7 : decode cL_isRenewed 7 = .ok (.goto 4, 3) := by decide +kernel
theorem dL_isRenewed_10 : decode cL_isRenewed 10 = .ok (.iconst 0, 1) := by decide +kernel
theorem dL_isRenewed_11 : decode cL_isRenewed 11 = .ok (.istore 5, 2) := by decide +kernel
theorem dL_isRenewed_13 : decode cL_isRenewed 13 = .ok (.iload 4, 2) := by decide +kernel
theorem dL_isRenewed_15 : decode cL_isRenewed 15 = .ok (.ifCond .le 14, 3) := by decide +kernel
theorem dL_isRenewed_18 : decode cL_isRenewed 18 = .ok (.iload 4, 2) := by decide +kernel
theorem dL_isRenewed_20 : decode cL_isRenewed 20 = .ok (.bipush 6, 2) := by decide +kernel
theorem dL_isRenewed_22 : decode cL_isRenewed 22 = .ok (.if_icmp .ge 7, 3) := by decide +kernel
theorem dL_isRenewed_25 : decode cL_isRenewed 25 = .ok (.iconst 1, 1) := by decide +kernel
theorem dL_isRenewed_26 : decode cL_isRenewed 26 = .ok (.goto 4, 3) := by decide +kernel
theorem dL_isRenewed_29 : decode cL_isRenewed 29 = .ok (.iconst 0, 1) := by decide +kernel
theorem dL_isRenewed_30 : decode cL_isRenewed 30 = .ok (.istore 6, 2) := by decide +kernel
theorem dL_isRenewed_32 : decode cL_isRenewed 32 = .ok (.iload 5, 2) := by decide +kernel
theorem dL_isRenewed_34 : decode cL_isRenewed 34 = .ok (.ifCond .eq 22, 3) := by decide +kernel
theorem dL_isRenewed_37 : decode cL_isRenewed 37 = .ok (.iload 6, 2) := by decide +kernel
theorem dL_isRenewed_39 : decode cL_isRenewed 39 = .ok (.ifCond .eq 17, 3) := by decide +kernel
theorem dL_isRenewed_42 : decode cL_isRenewed 42 = .ok (.aload_n 1, 1) := by decide +kernel
theorem dL_isRenewed_43 : decode cL_isRenewed 43 = .ok (.iload_n 3, 1) := by decide +kernel
theorem dL_isRenewed_44 : decode cL_isRenewed 44 = .ok (.iaload, 1) := by decide +kernel
theorem dL_isRenewed_45 : decode cL_isRenewed 45 = .ok (.iconst 2, 1) := by decide +kernel
theorem dL_isRenewed_46 : decode cL_isRenewed 46 = .ok (.if_icmp .eq 50, 3) := by decide +kernel
theorem dL_isRenewed_49 : decode cL_isRenewed 49 = .ok (.aload_n 1, 1) := by decide +kernel
theorem dL_isRenewed_50 : decode cL_isRenewed 50 = .ok (.iload_n 3, 1) := by decide +kernel
theorem dL_isRenewed_51 : decode cL_isRenewed 51 = .ok (.iaload, 1) := by decide +kernel
theorem dL_isRenewed_52 : decode cL_isRenewed 52 = .ok (.iconst 3, 1) := by decide +kernel
theorem dL_isRenewed_53 : decode cL_isRenewed 53 = .ok (.if_icmp .eq 43, 3) := by decide +kernel
theorem dL_isRenewed_56 : decode cL_isRenewed 56 = .ok (.aload_n 0, 1) := by decide +kernel
theorem dL_isRenewed_57 : decode cL_isRenewed 57 = .ok (.iconst 2, 1) := by decide +kernel
theorem dL_isRenewed_58 : decode cL_isRenewed 58 = .ok (.iload_n 3, 1) := by decide +kernel
theorem dL_isRenewed_59 : decode cL_isRenewed 59 = .ok (.iload 4, 2) := by decide +kernel
theorem dL_isRenewed_61 : decode cL_isRenewed 61 = .ok (.iconst 0, 1) := by decide +kernel
theorem dL_isRenewed_62 : decode cL_isRenewed 62 = .ok (.invokestatic 87, 3) := by decide +kernel
theorem dL_isRenewed_65 : decode cL_isRenewed 65 = .ok (.iload 5, 2) := by decide +kernel
theorem dL_isRenewed_67 : decode cL_isRenewed 67 = .ok (.ifCond .ne 8, 3) := by decide +kernel
theorem dL_isRenewed_70 : decode cL_isRenewed 70 = .ok (.bipush (-30), 2) := by decide +kernel
theorem dL_isRenewed_72 : decode cL_isRenewed 72 = .ok (.goto 15, 3) := by decide +kernel
theorem dL_isRenewed_75 : decode cL_isRenewed 75 = .ok (.iload 6, 2) := by decide +kernel
theorem dL_isRenewed_77 : decode cL_isRenewed 77 = .ok (.ifCond .ne 8, 3) := by decide +kernel
theorem dL_isRenewed_80 : decode cL_isRenewed 80 = .ok (.bipush (-20), 2) := by decide +kernel
theorem dL_isRenewed_82 : decode cL_isRenewed 82 = .ok (.goto 5, 3) := by decide +kernel
theorem dL_isRenewed_85 : decode cL_isRenewed 85 = .ok (.bipush (-10), 2) := by decide +kernel
theorem dL_isRenewed_87 : decode cL_isRenewed 87 = .ok (.if_icmp .ne 7, 3) := by decide +kernel
theorem dL_isRenewed_90 : decode cL_isRenewed 90 = .ok (.iconst 1, 1) := by decide +kernel
theorem dL_isRenewed_91 : decode cL_isRenewed 91 = .ok (.goto 4, 3) := by decide +kernel
theorem dL_isRenewed_94 : decode cL_isRenewed 94 = .ok (.iconst 0, 1) := by decide +kernel
theorem dL_isRenewed_95 : decode cL_isRenewed 95 = .ok (.ireturn, 1) := by decide +kernel
theorem dL_isRenewed_96 : decode cL_isRenewed 96 = .ok (.aload_n 1, 1) := by decide +kernel
theorem dL_isRenewed_97 : decode cL_isRenewed 97 = .ok (.bipush 32, 2) := by decide +kernel
theorem dL_isRenewed_99 : decode cL_isRenewed 99 = .ok (.iload_n 3, 1) := by decide +kernel
theorem dL_isRenewed_100 : decode cL_isRenewed 100 = .ok (.iadd, 1) := by decide +kernel
theorem dL_isRenewed_101 : decode cL_isRenewed 101 = .ok (.iaload, 1) := by decide +kernel
theorem dL_isRenewed_102 : decode cL_isRenewed 102 = .ok (.aload_n 1, 1) := by decide +kernel
theorem dL_isRenewed_103 : decode cL_isRenewed 103 = .ok (.iload_n 3, 1) := by decide +kernel
theorem dL_isRenewed_104 : decode cL_isRenewed 104 = .ok (.iaload, 1) := by decide +kernel
theorem dL_isRenewed_105 : decode cL_isRenewed 105 = .ok (.iconst 3, 1) := by decide +kernel
theorem dL_isRenewed_106 : decode cL_isRenewed 106 = .ok (.if_icmp .ne 8, 3) := by decide +kernel
theorem dL_isRenewed_109 : decode cL_isRenewed 109 = .ok (.bipush 10, 2) := by decide +kernel
theorem dL_isRenewed_111 : decode cL_isRenewed 111 = .ok (.goto 4, 3) := by decide +kernel
theorem dL_isRenewed_114 : decode cL_isRenewed 114 = .ok (.iconst 0, 1) := by decide +kernel
theorem dL_isRenewed_115 : decode cL_isRenewed 115 = .ok (.isub, 1) := by decide +kernel
theorem dL_isRenewed_116 : decode cL_isRenewed 116 = .ok (.bipush 100, 2) := by decide +kernel
theorem dL_isRenewed_118 : decode cL_isRenewed 118 = .ok (.iload 4, 2) := by decide +kernel
theorem dL_isRenewed_120 : decode cL_isRenewed 120 = .ok (.imul, 1) := by decide +kernel
theorem dL_isRenewed_121 : decode cL_isRenewed 121 = .ok (.iadd, 1) := by decide +kernel
theorem dL_isRenewed_122 : decode cL_isRenewed 122 = .ok (.istore 7, 2) := by decide +kernel
theorem dL_isRenewed_124 : decode cL_isRenewed 124 = .ok (.aload_n 0, 1) := by decide +kernel
theorem dL_isRenewed_125 : decode cL_isRenewed 125 = .ok (.aload_n 1, 1) := by decide +kernel
theorem dL_isRenewed_126 : decode cL_isRenewed 126 = .ok (.bipush 16, 2) := by decide +kernel
theorem dL_isRenewed_128 : decode cL_isRenewed 128 = .ok (.iload_n 3, 1) := by decide +kernel
theorem dL_isRenewed_129 : decode cL_isRenewed 129 = .ok (.iadd, 1) := by decide +kernel
theorem dL_isRenewed_130 : decode cL_isRenewed 130 = .ok (.iaload, 1) := by decide +kernel
theorem dL_isRenewed_131 : decode cL_isRenewed 131 = .ok (.invokevirtual 47, 3) := by decide +kernel
theorem dL_isRenewed_134 : decode cL_isRenewed 134 = .ok (.istore 8, 2) := by decide +kernel
theorem dL_isRenewed_136 : decode cL_isRenewed 136 = .ok (.iload 7, 2) := by decide +kernel
theorem dL_isRenewed_138 : decode cL_isRenewed 138 = .ok (.aload_n 2, 1) := by decide +kernel
theorem dL_isRenewed_139 : decode cL_isRenewed 139 = .ok (.iconst 0, 1) := by decide +kernel
theorem dL_isRenewed_140 : decode cL_isRenewed 140 = .ok (.iaload, 1) := by decide +kernel
theorem dL_isRenewed_141 : decode cL_isRenewed 141 = .ok (.sipush 600, 3) := by decide +kernel
theorem dL_isRenewed_144 : decode cL_isRenewed 144 = .ok (.iadd, 1) := by decide +kernel
theorem dL_isRenewed_145 : decode cL_isRenewed 145 = .ok (.if_icmp .gt 17, 3) := by decide +kernel
theorem dL_isRenewed_148 : decode cL_isRenewed 148 = .ok (.iload 8, 2) := by decide +kernel
theorem dL_isRenewed_150 : decode cL_isRenewed 150 = .ok (.bipush 20, 2) := by decide +kernel
theorem dL_isRenewed_152 : decode cL_isRenewed 152 = .ok (.iload 4, 2) := by decide +kernel
theorem dL_isRenewed_154 : decode cL_isRenewed 154 = .ok (.imul, 1) := by decide +kernel
theorem dL_isRenewed_155 : decode cL_isRenewed 155 = .ok (.if_icmp .lt 7, 3) := by decide +kernel
theorem dL_isRenewed_158 : decode cL_isRenewed 158 = .ok (.iconst 1, 1) := by decide +kernel
theorem dL_isRenewed_159 : decode cL_isRenewed 159 = .ok (.goto 4, 3) := by decide +kernel
theorem dL_isRenewed_162 : decode cL_isRenewed 162 = .ok (.iconst 0, 1) := by decide +kernel
theorem dL_isRenewed_163 : decode cL_isRenewed 163 = .ok (.istore 9, 2) := by decide +kernel
theorem dL_isRenewed_165 : decode cL_isRenewed 165 = .ok (.aload_n 0, 1) := by decide +kernel
theorem dL_isRenewed_166 : decode cL_isRenewed 166 = .ok (.iconst 2, 1) := by decide +kernel
theorem dL_isRenewed_167 : decode cL_isRenewed 167 = .ok (.iload_n 3, 1) := by decide +kernel
theorem dL_isRenewed_168 : decode cL_isRenewed 168 = .ok (.iload 4, 2) := by decide +kernel
theorem dL_isRenewed_170 : decode cL_isRenewed 170 = .ok (.iconst 0, 1) := by decide +kernel
theorem dL_isRenewed_171 : decode cL_isRenewed 171 = .ok (.invokestatic 87, 3) := by decide +kernel
theorem dL_isRenewed_174 : decode cL_isRenewed 174 = .ok (.iload 9, 2) := by decide +kernel
theorem dL_isRenewed_176 : decode cL_isRenewed 176 = .ok (.ifCond .eq 8, 3) := by decide +kernel
theorem dL_isRenewed_179 : decode cL_isRenewed 179 = .ok (.iload 7, 2) := by decide +kernel
theorem dL_isRenewed_181 : decode cL_isRenewed 181 = .ok (.goto 5, 3) := by decide +kernel
theorem dL_isRenewed_184 : decode cL_isRenewed 184 = .ok (.bipush (-10), 2) := by decide +kernel
theorem dL_isRenewed_186 : decode cL_isRenewed 186 = .ok (.if_icmp .ne 37, 3) := by decide +kernel
theorem dL_isRenewed_189 : decode cL_isRenewed 189 = .ok (.aload_n 0, 1) := by decide +kernel
theorem dL_isRenewed_190 : decode cL_isRenewed 190 = .ok (.aload_n 1, 1) := by decide +kernel
theorem dL_isRenewed_191 : decode cL_isRenewed 191 = .ok (.bipush 16, 2) := by decide +kernel
theorem dL_isRenewed_193 : decode cL_isRenewed 193 = .ok (.iload_n 3, 1) := by decide +kernel
theorem dL_isRenewed_194 : decode cL_isRenewed 194 = .ok (.iadd, 1) := by decide +kernel
theorem dL_isRenewed_195 : decode cL_isRenewed 195 = .ok (.iaload, 1) := by decide +kernel
theorem dL_isRenewed_196 : decode cL_isRenewed 196 = .ok (.invokevirtual 47, 3) := by decide +kernel
theorem dL_isRenewed_199 : decode cL_isRenewed 199 = .ok (.iload 8, 2) := by decide +kernel
theorem dL_isRenewed_201 : decode cL_isRenewed 201 = .ok (.iload 9, 2) := by decide +kernel
theorem dL_isRenewed_203 : decode cL_isRenewed 203 = .ok (.ifCond .eq 11, 3) := by decide +kernel
theorem dL_isRenewed_206 : decode cL_isRenewed 206 = .ok (.bipush 20, 2) := by decide +kernel
theorem dL_isRenewed_208 : decode cL_isRenewed 208 = .ok (.iload 4, 2) := by decide +kernel
theorem dL_isRenewed_210 : decode cL_isRenewed 210 = .ok (.imul, 1) := by decide +kernel
theorem dL_isRenewed_211 : decode cL_isRenewed 211 = .ok (.goto 4, 3) := by decide +kernel
theorem dL_isRenewed_214 : decode cL_isRenewed 214 = .ok (.iconst 0, 1) := by decide +kernel
theorem dL_isRenewed_215 : decode cL_isRenewed 215 = .ok (.isub, 1) := by decide +kernel
theorem dL_isRenewed_216 : decode cL_isRenewed 216 = .ok (.if_icmp .ne 7, 3) := by decide +kernel
theorem dL_isRenewed_219 : decode cL_isRenewed 219 = .ok (.iconst 1, 1) := by decide +kernel
theorem dL_isRenewed_220 : decode cL_isRenewed 220 = .ok (.goto 4, 3) := by decide +kernel
theorem dL_isRenewed_223 : decode cL_isRenewed 223 = .ok (.iconst 0, 1) := by decide +kernel
theorem dL_isRenewed_224 : decode cL_isRenewed 224 = .ok (.istore 10, 2) := by decide +kernel
theorem dL_isRenewed_226 : decode cL_isRenewed 226 = .ok (.iload 9, 2) := by decide +kernel
theorem dL_isRenewed_228 : decode cL_isRenewed 228 = .ok (.ifCond .eq 15, 3) := by decide +kernel
theorem dL_isRenewed_231 : decode cL_isRenewed 231 = .ok (.aload_n 1, 1) := by decide +kernel
theorem dL_isRenewed_232 : decode cL_isRenewed 232 = .ok (.iload_n 3, 1) := by decide +kernel
theorem dL_isRenewed_233 : decode cL_isRenewed 233 = .ok (.iconst 2, 1) := by decide +kernel
theorem dL_isRenewed_234 : decode cL_isRenewed 234 = .ok (.iastore, 1) := by decide +kernel
theorem dL_isRenewed_235 : decode cL_isRenewed 235 = .ok (.aload_n 1, 1) := by decide +kernel
theorem dL_isRenewed_236 : decode cL_isRenewed 236 = .ok (.bipush 32, 2) := by decide +kernel
theorem dL_isRenewed_238 : decode cL_isRenewed 238 = .ok (.iload_n 3, 1) := by decide +kernel
theorem dL_isRenewed_239 : decode cL_isRenewed 239 = .ok (.iadd, 1) := by decide +kernel
theorem dL_isRenewed_240 : decode cL_isRenewed 240 = .ok (.iload 7, 2) := by decide +kernel
theorem dL_isRenewed_242 : decode cL_isRenewed 242 = .ok (.iastore, 1) := by decide +kernel
theorem dL_isRenewed_243 : decode cL_isRenewed 243 = .ok (.iload 10, 2) := by decide +kernel
theorem dL_isRenewed_245 : decode cL_isRenewed 245 = .ok (.ireturn, 1) := by decide +kernel
set_option maxRecDepth 20000 in
theorem ggL_isRedeemed_L_does : GoodIn wsL_isRedeemed wsL_does := goodIn_ca (goodIn_ca (goodIn_ca (goodIn_r _ [4, 5, 6, 7, 8, 9, 10, 11, 12, 13, 14, 15, 16, 17, 18, 19, 20, 21, 22, 23, 24, 25, 26, 27, 28, 29, 30, 31, 32, 33, 34, 35, 36, 37, 38, 39, 40, 41, 42, 43, 44, 45, 46, 47, 48, 49, 50, 51, 52, 53, 54, 55, 56, 57, 58, 59, 60, 61, 62, 63, 64, 65, 66, 67, 68, 69, 70, 71, 72, 73, 74, 75, 76, 77, 78, 79, 80, 81, 82, 83, 84, 85, 86, 87, 88, 89, 90, 91, 92, 93, 94, 95, 96, 97, 98, 99, 100, 101, 102, 103, 104, 105, 106, 107, 108, 109, 110, 111, 112, 113, 114, 115, 116, 117, 118, 119, 120, 121, 122, 123, 124, 125, 126, 127, 128, 129, 130, 131, 132, 133, 134, 135, 136, 137, 138, 139, 140, 145, 146, 147, 148, 149, 150, 151, 152, 153, 154, 155, 156, 157, 158, 159, 160, 161, 162, 163, 164, 165] (by decide +kernel) (by decide +kernel)) (goodIn_sub (fun _ h => List.mem_cons_of_mem _ (List.mem_append_left _ (List.mem_append_left _ (List.mem_append_right _ h)))) (by decide +kernel))) (goodIn_sub (fun _ h => List.mem_cons_of_mem _ (List.mem_append_left _ (List.mem_append_right _ h))) (by decide +kernel))) (goodIn_sub (fun _ h => List.mem_cons_of_mem _ (List.mem_append_right _ h)) (by decide +kernel))
set_option maxRecDepth 20000 in
theorem gL_isRedeemed_L_does : GoodIn wsL_isRedeemed (va_wsS RL 87 yL_does wsL_does) := goodIn_app (goodIn_of _ (by decide +kernel)) ggL_isRedeemed_L_does
set_option maxRecDepth 20000 in
theorem ggL_isRedeemed_X2_funds : GoodIn wsL_isRedeemed wsX2_funds := goodIn_ca (goodIn_r _ [144, 14, 15, 16, 11, 17, 18, 19, 145, 146, 147, 148, 149, 150] (by decide +kernel) (by decide +kernel)) (goodIn_sub (fun _ h => List.mem_cons_of_mem _ (List.mem_append_left _ (List.mem_append_left _ (List.mem_append_right _ h)))) (by decide +kernel))
set_option maxRecDepth 20000 in
theorem gL_isRedeemed_X2_funds : GoodIn wsL_isRedeemed (wsV RL 47 RX2 yX2_funds wsX2_funds) := goodIn_app (goodIn_of _ (by decide +kernel)) ggL_isRedeemed_X2_funds
theorem dL_isRedeemed_0 : decode cL_isRedeemed 0 = .ok (.iload 4, 2) := by decide +kernel
theorem dL_isRedeemed_2 : decode cL_isRedeemed 2 = .ok (.bipush 16, 2) := by decide +kernel
theorem dL_isRedeemed_4 : decode cL_isRedeemed 4 = .ok (.if_icmp .eq 11, 3) := by decide +kernel
theorem dL_isRedeemed_7 : decode cL_isRedeemed 7 = .ok (.aload_n 1, 1) := by decide +kernel
theorem dL_isRedeemed_8 : decode cL_isRedeemed 8 = .ok (.iload 4, 2) := by decide +kernel
theorem dL_isRedeemed_10 : decode cL_isRedeemed 10 = .ok (.iaload, 1) := by decide +kernel
theorem dL_isRedeemed_11 : decode cL_isRedeemed 11 = .ok (.iconst 4, 1) := by decide +kernel
theorem dL_isRedeemed_12 : decode cL_isRedeemed 12 = .ok (.if_icmp .eq 35, 3) := by decide +kernel
theorem dL_isRedeemed_15 : decode cL_isRedeemed 15 = .ok (.aload_n 0, 1) := by decide +kernel
theorem dL_isRedeemed_16 : decode cL_isRedeemed 16 = .ok (.iconst 3, 1) := by decide +kernel
theorem dL_isRedeemed_17 : decode cL_isRedeemed 17 = .ok (.iload 4, 2) := by decide +kernel
theorem dL_isRedeemed_19 : decode cL_isRedeemed 19 = .ok (.iconst 0, 1) := by decide +kernel
theorem dL_isRedeemed_20 : decode cL_isRedeemed 20 = .ok (.iconst 0, 1) := by decide +kernel
theorem dL_isRedeemed_21 : decode cL_isRedeemed 21 = .ok (.invokestatic 87, 3) := by decide +kernel
theorem dL_isRedeemed_24 : decode cL_isRedeemed 24 = .ok (.iload 4, 2) := by decide +kernel
theorem dL_isRedeemed_26 : decode cL_isRedeemed 26 = .ok (.bipush 16, 2) := by decide +kernel
theorem dL_isRedeemed_28 : decode cL_isRedeemed 28 = .ok (.if_icmp .ne 8, 3) := by decide +kernel
theorem dL_isRedeemed_31 : decode cL_isRedeemed 31 = .ok (.bipush (-30), 2) := by decide +kernel
theorem dL_isRedeemed_33 : decode cL_isRedeemed 33 = .ok (.goto 5, 3) := by decide +kernel
theorem dL_isRedeemed_36 : decode cL_isRedeemed 36 = .ok (.bipush (-10), 2) := by decide +kernel
theorem dL_isRedeemed_38 : decode cL_isRedeemed 38 = .ok (.if_icmp .ne 7, 3) := by decide +kernel
theorem dL_isRedeemed_41 : decode cL_isRedeemed 41 = .ok (.iconst 1, 1) := by decide +kernel
theorem dL_isRedeemed_42 : decode cL_isRedeemed 42 = .ok (.goto 4, 3) := by decide +kernel
theorem dL_isRedeemed_45 : decode cL_isRedeemed 45 = .ok (.iconst 0, 1) := by decide +kernel
theorem dL_isRedeemed_46 : decode cL_isRedeemed 46 = .ok (.ireturn, 1) := by decide +kernel
theorem dL_isRedeemed_47 : decode cL_isRedeemed 47 = .ok (.aload_n 0, 1) := by decide +kernel
theorem dL_isRedeemed_48 : decode cL_isRedeemed 48 = .ok (.aload_n 1, 1) := by decide +kernel
theorem dL_isRedeemed_49 : decode cL_isRedeemed 49 = .ok (.bipush 16, 2) := by decide +kernel
