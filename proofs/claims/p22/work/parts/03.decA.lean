theorem dX0_init_0 : decode cX0_init 0 = .ok (.aload_n 0, 1) := by decide +kernel
theorem dX0_init_1 : decode cX0_init 1 = .ok (.invokespecial 3, 3) := by decide +kernel
theorem dX0_init_4 : decode cX0_init 4 = .ok (.aload_n 0, 1) := by decide +kernel
theorem dX0_init_5 : decode cX0_init 5 = .ok (.iconst 0, 1) := by decide +kernel
theorem dX0_init_6 : decode cX0_init 6 = .ok (.putfield 9, 3) := by decide +kernel
theorem dX0_init_9 : decode cX0_init 9 = .ok (.aload_n 0, 1) := by decide +kernel
theorem dX0_init_10 : decode cX0_init 10 = .ok (.iconst (-1), 1) := by decide +kernel
theorem dX0_init_11 : decode cX0_init 11 = .ok (.putfield 15, 3) := by decide +kernel
theorem dX0_init_14 : decode cX0_init 14 = .ok (.aload_n 0, 1) := by decide +kernel
theorem dX0_init_15 : decode cX0_init 15 = .ok (.bipush 6, 2) := by decide +kernel
theorem dX0_init_17 : decode cX0_init 17 = .ok (.newarray .int, 2) := by decide +kernel
theorem dX0_init_19 : decode cX0_init 19 = .ok (.putfield 18, 3) := by decide +kernel
theorem dX0_init_22 : decode cX0_init 22 = .ok (.aload_n 0, 1) := by decide +kernel
theorem dX0_init_23 : decode cX0_init 23 = .ok (.bipush 6, 2) := by decide +kernel
theorem dX0_init_25 : decode cX0_init 25 = .ok (.newarray .int, 2) := by decide +kernel
theorem dX0_init_27 : decode cX0_init 27 = .ok (.putfield 22, 3) := by decide +kernel
theorem dX0_init_30 : decode cX0_init 30 = .ok (.return_, 1) := by decide +kernel
theorem dX0_beginAuction_0 : decode cX0_beginAuction 0 = .ok (.aload_n 0, 1) := by decide +kernel
theorem dX0_beginAuction_1 : decode cX0_beginAuction 1 = .ok (.iconst 1, 1) := by decide +kernel
theorem dX0_beginAuction_2 : decode cX0_beginAuction 2 = .ok (.putfield 9, 3) := by decide +kernel
theorem dX0_beginAuction_5 : decode cX0_beginAuction 5 = .ok (.aload_n 0, 1) := by decide +kernel
theorem dX0_beginAuction_6 : decode cX0_beginAuction 6 = .ok (.iload_n 1, 1) := by decide +kernel
theorem dX0_beginAuction_7 : decode cX0_beginAuction 7 = .ok (.iconst 5, 1) := by decide +kernel
theorem dX0_beginAuction_8 : decode cX0_beginAuction 8 = .ok (.iadd, 1) := by decide +kernel
theorem dX0_beginAuction_9 : decode cX0_beginAuction 9 = .ok (.putfield 25, 3) := by decide +kernel
theorem dX0_beginAuction_12 : decode cX0_beginAuction 12 = .ok (.return_, 1) := by decide +kernel
set_option maxRecDepth 20000 in
theorem ggX0_leaseTo_X0_dropBids : GoodIn wsX0_leaseTo wsX0_dropBids := goodIn_r _ [10, 11, 12, 13, 14, 15, 16, 17, 18, 19, 20, 21, 22, 23, 24, 25, 26] (by decide +kernel) (by decide +kernel)
set_option maxRecDepth 20000 in
theorem gX0_leaseTo_X0_dropBids : GoodIn wsX0_leaseTo (wsV RX0 28 RX0 yX0_dropBids wsX0_dropBids) := goodIn_app (goodIn_of _ (by decide +kernel)) ggX0_leaseTo_X0_dropBids
theorem dX0_leaseTo_0 : decode cX0_leaseTo 0 = .ok (.aload_n 0, 1) := by decide +kernel
theorem dX0_leaseTo_1 : decode cX0_leaseTo 1 = .ok (.invokevirtual 28, 3) := by decide +kernel
theorem dX0_leaseTo_4 : decode cX0_leaseTo 4 = .ok (.aload_n 0, 1) := by decide +kernel
theorem dX0_leaseTo_5 : decode cX0_leaseTo 5 = .ok (.iconst 2, 1) := by decide +kernel
theorem dX0_leaseTo_6 : decode cX0_leaseTo 6 = .ok (.putfield 9, 3) := by decide +kernel
theorem dX0_leaseTo_9 : decode cX0_leaseTo 9 = .ok (.aload_n 0, 1) := by decide +kernel
theorem dX0_leaseTo_10 : decode cX0_leaseTo 10 = .ok (.iload_n 1, 1) := by decide +kernel
theorem dX0_leaseTo_11 : decode cX0_leaseTo 11 = .ok (.putfield 15, 3) := by decide +kernel
theorem dX0_leaseTo_14 : decode cX0_leaseTo 14 = .ok (.aload_n 0, 1) := by decide +kernel
theorem dX0_leaseTo_15 : decode cX0_leaseTo 15 = .ok (.iload_n 2, 1) := by decide +kernel
theorem dX0_leaseTo_16 : decode cX0_leaseTo 16 = .ok (.bipush 100, 2) := by decide +kernel
theorem dX0_leaseTo_18 : decode cX0_leaseTo 18 = .ok (.iadd, 1) := by decide +kernel
theorem dX0_leaseTo_19 : decode cX0_leaseTo 19 = .ok (.putfield 31, 3) := by decide +kernel
theorem dX0_leaseTo_22 : decode cX0_leaseTo 22 = .ok (.aload_n 0, 1) := by decide +kernel
theorem dX0_leaseTo_23 : decode cX0_leaseTo 23 = .ok (.iconst 0, 1) := by decide +kernel
theorem dX0_leaseTo_24 : decode cX0_leaseTo 24 = .ok (.putfield 34, 3) := by decide +kernel
theorem dX0_leaseTo_27 : decode cX0_leaseTo 27 = .ok (.aload_n 0, 1) := by decide +kernel
theorem dX0_leaseTo_28 : decode cX0_leaseTo 28 = .ok (.bipush 10, 2) := by decide +kernel
theorem dX0_leaseTo_30 : decode cX0_leaseTo 30 = .ok (.putfield 37, 3) := by decide +kernel
theorem dX0_leaseTo_33 : decode cX0_leaseTo 33 = .ok (.return_, 1) := by decide +kernel
set_option maxRecDepth 20000 in
theorem ggX0_release_X0_dropBids : GoodIn wsX0_release wsX0_dropBids := goodIn_r _ [7, 8, 9, 10, 11, 12, 13, 14, 15, 16, 17, 18, 19, 20, 21, 22, 23] (by decide +kernel) (by decide +kernel)
set_option maxRecDepth 20000 in
theorem gX0_release_X0_dropBids : GoodIn wsX0_release (wsV RX0 28 RX0 yX0_dropBids wsX0_dropBids) := goodIn_app (goodIn_of _ (by decide +kernel)) ggX0_release_X0_dropBids
theorem dX0_release_0 : decode cX0_release 0 = .ok (.aload_n 0, 1) := by decide +kernel
theorem dX0_release_1 : decode cX0_release 1 = .ok (.invokevirtual 28, 3) := by decide +kernel
theorem dX0_release_4 : decode cX0_release 4 = .ok (.aload_n 0, 1) := by decide +kernel
theorem dX0_release_5 : decode cX0_release 5 = .ok (.iconst 0, 1) := by decide +kernel
theorem dX0_release_6 : decode cX0_release 6 = .ok (.putfield 9, 3) := by decide +kernel
theorem dX0_release_9 : decode cX0_release 9 = .ok (.aload_n 0, 1) := by decide +kernel
theorem dX0_release_10 : decode cX0_release 10 = .ok (.iconst (-1), 1) := by decide +kernel
theorem dX0_release_11 : decode cX0_release 11 = .ok (.putfield 15, 3) := by decide +kernel
theorem dX0_release_14 : decode cX0_release 14 = .ok (.return_, 1) := by decide +kernel
set_option maxRecDepth 20000 in
theorem ggX0_goOn_X0_release : GoodIn wsX0_goOn wsX0_release := goodIn_r _ [6, 1, 7, 8, 9, 10, 5, 11, 12, 13, 14, 15, 16, 17, 18, 19, 20, 21, 22, 23, 24, 25, 26, 27] (by decide +kernel) (by decide +kernel)
set_option maxRecDepth 20000 in
theorem gX0_goOn_X0_release : GoodIn wsX0_goOn (wsV RX0 40 RX0 yX0_release wsX0_release) := goodIn_app (goodIn_of _ (by decide +kernel)) ggX0_goOn_X0_release
theorem dX0_goOn_0 : decode cX0_goOn 0 = .ok (.aload_n 0, 1) := by decide +kernel
theorem dX0_goOn_1 : decode cX0_goOn 1 = .ok (.getfield 9, 3) := by decide +kernel
theorem dX0_goOn_4 : decode cX0_goOn 4 = .ok (.iconst 2, 1) := by decide +kernel
theorem dX0_goOn_5 : decode cX0_goOn 5 = .ok (.if_icmp .ne 11, 3) := by decide +kernel
theorem dX0_goOn_8 : decode cX0_goOn 8 = .ok (.aload_n 0, 1) := by decide +kernel
theorem dX0_goOn_9 : decode cX0_goOn 9 = .ok (.iconst 3, 1) := by decide +kernel
theorem dX0_goOn_10 : decode cX0_goOn 10 = .ok (.putfield 9, 3) := by decide +kernel
theorem dX0_goOn_13 : decode cX0_goOn 13 = .ok (.goto 23, 3) := by decide +kernel
theorem dX0_goOn_16 : decode cX0_goOn 16 = .ok (.aload_n 0, 1) := by decide +kernel
theorem dX0_goOn_17 : decode cX0_goOn 17 = .ok (.getfield 9, 3) := by decide +kernel
theorem dX0_goOn_20 : decode cX0_goOn 20 = .ok (.iconst 3, 1) := by decide +kernel
theorem dX0_goOn_21 : decode cX0_goOn 21 = .ok (.if_icmp .ne 11, 3) := by decide +kernel
theorem dX0_goOn_24 : decode cX0_goOn 24 = .ok (.aload_n 0, 1) := by decide +kernel
theorem dX0_goOn_25 : decode cX0_goOn 25 = .ok (.iconst 4, 1) := by decide +kernel
theorem dX0_goOn_26 : decode cX0_goOn 26 = .ok (.putfield 9, 3) := by decide +kernel
theorem dX0_goOn_29 : decode cX0_goOn 29 = .ok (.goto 7, 3) := by decide +kernel
theorem dX0_goOn_32 : decode cX0_goOn 32 = .ok (.aload_n 0, 1) := by decide +kernel
theorem dX0_goOn_33 : decode cX0_goOn 33 = .ok (.invokevirtual 40, 3) := by decide +kernel
theorem dX0_goOn_36 : decode cX0_goOn 36 = .ok (.return_, 1) := by decide +kernel
theorem dX0_dayOfChange_0 : decode cX0_dayOfChange 0 = .ok (.aload_n 0, 1) := by decide +kernel
theorem dX0_dayOfChange_1 : decode cX0_dayOfChange 1 = .ok (.getfield 9, 3) := by decide +kernel
theorem dX0_dayOfChange_4 : decode cX0_dayOfChange 4 = .ok (.tableswitch 61 1 4 #[32, 37, 42, 50], 32) := by decide +kernel
theorem dX0_dayOfChange_36 : decode cX0_dayOfChange 36 = .ok (.aload_n 0, 1) := by decide +kernel
theorem dX0_dayOfChange_37 : decode cX0_dayOfChange 37 = .ok (.getfield 25, 3) := by decide +kernel
theorem dX0_dayOfChange_40 : decode cX0_dayOfChange 40 = .ok (.ireturn, 1) := by decide +kernel
theorem dX0_dayOfChange_41 : decode cX0_dayOfChange 41 = .ok (.aload_n 0, 1) := by decide +kernel
theorem dX0_dayOfChange_42 : decode cX0_dayOfChange 42 = .ok (.getfield 31, 3) := by decide +kernel
theorem dX0_dayOfChange_45 : decode cX0_dayOfChange 45 = .ok (.ireturn, 1) := by decide +kernel
theorem dX0_dayOfChange_46 : decode cX0_dayOfChange 46 = .ok (.aload_n 0, 1) := by decide +kernel
theorem dX0_dayOfChange_47 : decode cX0_dayOfChange 47 = .ok (.getfield 31, 3) := by decide +kernel
theorem dX0_dayOfChange_50 : decode cX0_dayOfChange 50 = .ok (.bipush 10, 2) := by decide +kernel
theorem dX0_dayOfChange_52 : decode cX0_dayOfChange 52 = .ok (.iadd, 1) := by decide +kernel
theorem dX0_dayOfChange_53 : decode cX0_dayOfChange 53 = .ok (.ireturn, 1) := by decide +kernel
theorem dX0_dayOfChange_54 : decode cX0_dayOfChange 54 = .ok (.aload_n 0, 1) := by decide +kernel
theorem dX0_dayOfChange_55 : decode cX0_dayOfChange 55 = .ok (.getfield 31, 3) := by decide +kernel
theorem dX0_dayOfChange_58 : decode cX0_dayOfChange 58 = .ok (.bipush 10, 2) := by decide +kernel
theorem dX0_dayOfChange_60 : decode cX0_dayOfChange 60 = .ok (.iadd, 1) := by decide +kernel
theorem dX0_dayOfChange_61 : decode cX0_dayOfChange 61 = .ok (.bipush 10, 2) := by decide +kernel
theorem dX0_dayOfChange_63 : decode cX0_dayOfChange 63 = .ok (.iadd, 1) := by decide +kernel
theorem dX0_dayOfChange_64 : decode cX0_dayOfChange 64 = .ok (.ireturn, 1) := by decide +kernel
theorem dX0_dayOfChange_65 : decode cX0_dayOfChange 65 = .ok (.iconst (-1), 1) := by decide +kernel
theorem dX0_dayOfChange_66 : decode cX0_dayOfChange 66 = .ok (.ireturn, 1) := by decide +kernel
set_option maxRecDepth 20000 in
theorem ggX0_freeze_X0_dropBids : GoodIn wsX0_freeze wsX0_dropBids := goodIn_r _ [9, 10, 11, 12, 13, 14, 15, 16, 17, 18, 19, 20, 21, 22, 23, 24, 25] (by decide +kernel) (by decide +kernel)
set_option maxRecDepth 20000 in
theorem gX0_freeze_X0_dropBids : GoodIn wsX0_freeze (wsV RX0 28 RX0 yX0_dropBids wsX0_dropBids) := goodIn_app (goodIn_of _ (by decide +kernel)) ggX0_freeze_X0_dropBids
theorem dX0_freeze_0 : decode cX0_freeze 0 = .ok (.aload_n 0, 1) := by decide +kernel
theorem dX0_freeze_1 : decode cX0_freeze 1 = .ok (.invokevirtual 28, 3) := by decide +kernel
theorem dX0_freeze_4 : decode cX0_freeze 4 = .ok (.aload_n 0, 1) := by decide +kernel
theorem dX0_freeze_5 : decode cX0_freeze 5 = .ok (.aload_n 0, 1) := by decide +kernel
theorem dX0_freeze_6 : decode cX0_freeze 6 = .ok (.getfield 9, 3) := by decide +kernel
theorem dX0_freeze_9 : decode cX0_freeze 9 = .ok (.putfield 43, 3) := by decide +kernel
theorem dX0_freeze_12 : decode cX0_freeze 12 = .ok (.aload_n 0, 1) := by decide +kernel
theorem dX0_freeze_13 : decode cX0_freeze 13 = .ok (.iconst 5, 1) := by decide +kernel
theorem dX0_freeze_14 : decode cX0_freeze 14 = .ok (.putfield 9, 3) := by decide +kernel
theorem dX0_freeze_17 : decode cX0_freeze 17 = .ok (.aload_n 0, 1) := by decide +kernel
theorem dX0_freeze_18 : decode cX0_freeze 18 = .ok (.iload_n 1, 1) := by decide +kernel
theorem dX0_freeze_19 : decode cX0_freeze 19 = .ok (.putfield 46, 3) := by decide +kernel
theorem dX0_freeze_22 : decode cX0_freeze 22 = .ok (.aload_n 0, 1) := by decide +kernel
theorem dX0_freeze_23 : decode cX0_freeze 23 = .ok (.iload_n 2, 1) := by decide +kernel
theorem dX0_freeze_24 : decode cX0_freeze 24 = .ok (.putfield 49, 3) := by decide +kernel
theorem dX0_freeze_27 : decode cX0_freeze 27 = .ok (.return_, 1) := by decide +kernel
set_option maxRecDepth 20000 in
theorem ggX0_thaw_X0_leaseTo : GoodIn wsX0_thaw wsX0_leaseTo := goodIn_r _ [11, 2, 6, 3, 12, 13, 14, 15, 16, 10, 17, 18, 19, 20, 21, 22, 27, 28, 29, 30, 31, 32, 33, 34, 35, 36, 37] (by decide +kernel) (by decide +kernel)
set_option maxRecDepth 20000 in
theorem gX0_thaw_X0_leaseTo : GoodIn wsX0_thaw (wsV RX0 52 RX0 yX0_leaseTo wsX0_leaseTo) := goodIn_app (goodIn_of _ (by decide +kernel)) ggX0_thaw_X0_leaseTo
set_option maxRecDepth 20000 in
theorem ggX0_thaw_X0_release : GoodIn wsX0_thaw wsX0_release := goodIn_r _ [26, 2, 6, 14, 15, 16, 10, 17, 18, 19, 20, 21, 22, 27, 28, 29, 30, 31, 32, 33, 34, 35, 36, 37] (by decide +kernel) (by decide +kernel)
set_option maxRecDepth 20000 in
theorem gX0_thaw_X0_release : GoodIn wsX0_thaw (wsV RX0 40 RX0 yX0_release wsX0_release) := goodIn_app (goodIn_of _ (by decide +kernel)) ggX0_thaw_X0_release
theorem dX0_thaw_0 : decode cX0_thaw 0 = .ok (.aload_n 0, 1) := by decide +kernel
theorem dX0_thaw_1 : decode cX0_thaw 1 = .ok (.getfield 43, 3) := by decide +kernel
theorem dX0_thaw_4 : decode cX0_thaw 4 = .ok (.iconst 1, 1) := by decide +kernel
theorem dX0_thaw_5 : decode cX0_thaw 5 = .ok (.if_icmp .eq 48, 3) := by decide +kernel
theorem dX0_thaw_8 : decode cX0_thaw 8 = .ok (.aload_n 0, 1) := by decide +kernel
theorem dX0_thaw_9 : decode cX0_thaw 9 = .ok (.aload_n 0, 1) := by decide +kernel
theorem dX0_thaw_10 : decode cX0_thaw 10 = .ok (.getfield 43, 3) := by decide +kernel
theorem dX0_thaw_13 : decode cX0_thaw 13 = .ok (.putfield 9, 3) := by decide +kernel
theorem dX0_thaw_16 : decode cX0_thaw 16 = .ok (.aload_n 0, 1) := by decide +kernel
theorem dX0_thaw_17 : decode cX0_thaw 17 = .ok (.dup, 1) := by decide +kernel
theorem dX0_thaw_18 : decode cX0_thaw 18 = .ok (.getfield 31, 3) := by decide +kernel
theorem dX0_thaw_21 : decode cX0_thaw 21 = .ok (.iload_n 2, 1) := by decide +kernel
theorem dX0_thaw_22 : decode cX0_thaw 22 = .ok (.aload_n 0, 1) := by decide +kernel
theorem dX0_thaw_23 : decode cX0_thaw 23 = .ok (.getfield 49, 3) := by decide +kernel
theorem dX0_thaw_26 : decode cX0_thaw 26 = .ok (.isub, 1) := by decide +kernel
theorem dX0_thaw_27 : decode cX0_thaw 27 = .ok (.iadd, 1) := by decide +kernel
theorem dX0_thaw_28 : decode cX0_thaw 28 = .ok (.putfield 31, 3) := by decide +kernel
theorem dX0_thaw_31 : decode cX0_thaw 31 = .ok (.aload_n 0, 1) := by decide +kernel
theorem dX0_thaw_32 : decode cX0_thaw 32 = .ok (.iload_n 1, 1) := by decide +kernel
theorem dX0_thaw_33 : decode cX0_thaw 33 = .ok (.ifCond .eq 10, 3) := by decide +kernel
theorem dX0_thaw_36 : decode cX0_thaw 36 = .ok (.aload_n 0, 1) := by decide +kernel
theorem dX0_thaw_37 : decode cX0_thaw 37 = .ok (.getfield 46, 3) := by decide +kernel
theorem dX0_thaw_40 : decode cX0_thaw 40 = .ok (.goto 7, 3) := by decide +kernel
theorem dX0_thaw_43 : decode cX0_thaw 43 = .ok (.aload_n 0, 1) := by decide +kernel
theorem dX0_thaw_44 : decode cX0_thaw 44 = .ok (.getfield 15, 3) := by decide +kernel
theorem dX0_thaw_47 : decode cX0_thaw 47 = .ok (.putfield 15, 3) := by decide +kernel
theorem dX0_thaw_50 : decode cX0_thaw 50 = .ok (.goto 23, 3) := by decide +kernel
theorem dX0_thaw_53 : decode cX0_thaw 53 = .ok (.iload_n 1, 1) := by decide +kernel
theorem dX0_thaw_54 : decode cX0_thaw 54 = .ok (.ifCond .eq 15, 3) := by decide +kernel
theorem dX0_thaw_57 : decode cX0_thaw 57 = .ok (.aload_n 0, 1) := by decide +kernel
theorem dX0_thaw_58 : decode cX0_thaw 58 = .ok (.aload_n 0, 1) := by decide +kernel
theorem dX0_thaw_59 : decode cX0_thaw 59 = .ok (.getfield 46, 3) := by decide +kernel
theorem dX0_thaw_62 : decode cX0_thaw 62 = .ok (.iload_n 2, 1) := by decide +kernel
theorem dX0_thaw_63 : decode cX0_thaw 63 = .ok (.invokevirtual 52, 3) := by decide +kernel
theorem dX0_thaw_66 : decode cX0_thaw 66 = .ok (.goto 7, 3) := by decide +kernel
theorem dX0_thaw_69 : decode cX0_thaw 69 = .ok (.aload_n 0, 1) := by decide +kernel
theorem dX0_thaw_70 : decode cX0_thaw 70 = .ok (.invokevirtual 40, 3) := by decide +kernel
theorem dX0_thaw_73 : decode cX0_thaw 73 = .ok (.return_, 1) := by decide +kernel
theorem dX0_countBids_0 : decode cX0_countBids 0 = .ok (.iconst 0, 1) := by decide +kernel
theorem dX0_countBids_1 : decode cX0_countBids 1 = .ok (.istore_n 1, 1) := by decide +kernel
theorem dX0_countBids_2 : decode cX0_countBids 2 = .ok (.iconst 0, 1) := by decide +kernel
theorem dX0_countBids_3 : decode cX0_countBids 3 = .ok (.istore_n 2, 1) := by decide +kernel
theorem dX0_countBids_4 : decode cX0_countBids 4 = .ok (.iload_n 2, 1) := by decide +kernel
theorem dX0_countBids_5 : decode cX0_countBids 5 = .ok (.bipush 6, 2) := by decide +kernel
theorem dX0_countBids_7 : decode cX0_countBids 7 = .ok (.if_icmp .ge 26, 3) := by decide +kernel
theorem dX0_countBids_10 : decode cX0_countBids 10 = .ok (.iload_n 1, 1) := by decide +kernel
theorem dX0_countBids_11 : decode cX0_countBids 11 = .ok (.aload_n 0, 1) := by decide +kernel
theorem dX0_countBids_12 : decode cX0_countBids 12 = .ok (.getfield 18, 3) := by decide +kernel
theorem dX0_countBids_15 : decode cX0_countBids 15 = .ok (.iload_n 2, 1) := by decide +kernel
theorem dX0_countBids_16 : decode cX0_countBids 16 = .ok (.iaload, 1) := by decide +kernel
theorem dX0_countBids_17 : decode cX0_countBids 17 = .ok (.ifCond .le 7, 3) := by decide +kernel
theorem dX0_countBids_20 : decode cX0_countBids 20 = .ok (.iconst 1, 1) := by decide +kernel
theorem dX0_countBids_21 : decode cX0_countBids 21 = .ok (.goto 4, 3) := by decide +kernel
theorem dX0_countBids_24 : decode cX0_countBids 24 = .ok (.iconst 0, 1) := by decide +kernel
theorem dX0_countBids_25 : decode cX0_countBids 25 = .ok (.iadd, 1) := by decide +kernel
theorem dX0_countBids_26 : decode cX0_countBids 26 = .ok (.istore_n 1, 1) := by decide +kernel
theorem dX0_countBids_27 : decode cX0_countBids 27 = .ok (.iinc 2 1, 3) := by decide +kernel
theorem dX0_countBids_30 : decode cX0_countBids 30 = .ok (.goto (-26), 3) := by decide +kernel
theorem dX0_countBids_33 : decode cX0_countBids 33 = .ok (.iload_n 1, 1) := by decide +kernel
theorem dX0_countBids_34 : decode cX0_countBids 34 = .ok (.ireturn, 1) := by decide +kernel
set_option maxRecDepth 20000 in
theorem ggX0_dropBids_J7_fill_53178 : GoodIn wsX0_dropBids wsJ7_fill_53178 := goodIn_r _ [5] (by decide +kernel) (by decide +kernel)
set_option maxRecDepth 20000 in
theorem gX0_dropBids_J7_fill_53178 : GoodIn wsX0_dropBids (va_wsS RX0 56 yJ7_fill_53178 wsJ7_fill_53178) := goodIn_app (goodIn_of _ (by decide +kernel)) ggX0_dropBids_J7_fill_53178
theorem dX0_dropBids_0 : decode cX0_dropBids 0 = .ok (.aload_n 0, 1) := by decide +kernel
theorem dX0_dropBids_1 : decode cX0_dropBids 1 = .ok (.getfield 18, 3) := by decide +kernel
theorem dX0_dropBids_4 : decode cX0_dropBids 4 = .ok (.iconst 0, 1) := by decide +kernel
theorem dX0_dropBids_5 : decode cX0_dropBids 5 = .ok (.invokestatic 56, 3) := by decide +kernel
theorem dX0_dropBids_8 : decode cX0_dropBids 8 = .ok (.return_, 1) := by decide +kernel
theorem dX0_isAhead_0 : decode cX0_isAhead 0 = .ok (.aload_n 0, 1) := by decide +kernel
theorem dX0_isAhead_1 : decode cX0_isAhead 1 = .ok (.getfield 18, 3) := by decide +kernel
theorem dX0_isAhead_4 : decode cX0_isAhead 4 = .ok (.iload_n 1, 1) := by decide +kernel
theorem dX0_isAhead_5 : decode cX0_isAhead 5 = .ok (.iaload, 1) := by decide +kernel
theorem dX0_isAhead_6 : decode cX0_isAhead 6 = .ok (.aload_n 0, 1) := by decide +kernel
theorem dX0_isAhead_7 : decode cX0_isAhead 7 = .ok (.getfield 18, 3) := by decide +kernel
theorem dX0_isAhead_10 : decode cX0_isAhead 10 = .ok (.iload_n 2, 1) := by decide +kernel
theorem dX0_isAhead_11 : decode cX0_isAhead 11 = .ok (.iaload, 1) := by decide +kernel
theorem dX0_isAhead_12 : decode cX0_isAhead 12 = .ok (.if_icmp .eq 24, 3) := by decide +kernel
theorem dX0_isAhead_15 : decode cX0_isAhead 15 = .ok (.aload_n 0, 1) := by decide +kernel
theorem dX0_isAhead_16 : decode cX0_isAhead 16 = .ok (.getfield 18, 3) := by decide +kernel
theorem dX0_isAhead_19 : decode cX0_isAhead 19 = .ok (.iload_n 1, 1) := by decide +kernel
theorem dX0_isAhead_20 : decode cX0_isAhead 20 = .ok (.iaload, 1) := by decide +kernel
theorem dX0_isAhead_21 : decode cX0_isAhead 21 = .ok (.aload_n 0, 1) := by decide +kernel
theorem dX0_isAhead_22 : decode cX0_isAhead 22 = .ok (.getfield 18, 3) := by decide +kernel
theorem dX0_isAhead_25 : decode cX0_isAhead 25 = .ok (.iload_n 2, 1) := by decide +kernel
theorem dX0_isAhead_26 : decode cX0_isAhead 26 = .ok (.iaload, 1) := by decide +kernel
theorem dX0_isAhead_27 : decode cX0_isAhead 27 = .ok (.if_icmp .le 7, 3) := by decide +kernel
theorem dX0_isAhead_30 : decode cX0_isAhead 30 = .ok (.iconst 1, 1) := by decide +kernel
theorem dX0_isAhead_31 : decode cX0_isAhead 31 = .ok (.goto 4, 3) := by decide +kernel
theorem dX0_isAhead_34 : decode cX0_isAhead 34 = .ok (.iconst 0, 1) := by decide +kernel
theorem dX0_isAhead_35 : decode cX0_isAhead 35 = .ok (.ireturn, 1) := by decide +kernel
theorem dX0_isAhead_36 : decode cX0_isAhead 36 = .ok (.aload_n 0, 1) := by decide +kernel
theorem dX0_isAhead_37 : decode cX0_isAhead 37 = .ok (.getfield 22, 3) := by decide +kernel
theorem dX0_isAhead_40 : decode cX0_isAhead 40 = .ok (.iload_n 1, 1) := by decide +kernel
theorem dX0_isAhead_41 : decode cX0_isAhead 41 = .ok (.iaload, 1) := by decide +kernel
theorem dX0_isAhead_42 : decode cX0_isAhead 42 = .ok (.aload_n 0, 1) := by decide +kernel
theorem dX0_isAhead_43 : decode cX0_isAhead 43 = .ok (.getfield 22, 3) := by decide +kernel
theorem dX0_isAhead_46 : decode cX0_isAhead 46 = .ok (.iload_n 2, 1) := by decide +kernel
theorem dX0_isAhead_47 : decode cX0_isAhead 47 = .ok (.iaload, 1) := by decide +kernel
theorem dX0_isAhead_48 : decode cX0_isAhead 48 = .ok (.if_icmp .ge 7, 3) := by decide +kernel
theorem dX0_isAhead_51 : decode cX0_isAhead 51 = .ok (.iconst 1, 1) := by decide +kernel
theorem dX0_isAhead_52 : decode cX0_isAhead 52 = .ok (.goto 4, 3) := by decide +kernel
theorem dX0_isAhead_55 : decode cX0_isAhead 55 = .ok (.iconst 0, 1) := by decide +kernel
theorem dX0_isAhead_56 : decode cX0_isAhead 56 = .ok (.ireturn, 1) := by decide +kernel
set_option maxRecDepth 20000 in
theorem ggX0_hasRecord_X2_isHeld : GoodIn wsX0_hasRecord wsX2_isHeld := goodIn_r _ [5] (by decide +kernel) (by decide +kernel)
set_option maxRecDepth 20000 in
theorem gX0_hasRecord_X2_isHeld_n62 : GoodIn wsX0_hasRecord (wsX2_isHeld) := ggX0_hasRecord_X2_isHeld
theorem dX0_hasRecord_0 : decode cX0_hasRecord 0 = .ok (.aload_n 0, 1) := by decide +kernel
theorem dX0_hasRecord_1 : decode cX0_hasRecord 1 = .ok (.getfield 9, 3) := by decide +kernel
theorem dX0_hasRecord_4 : decode cX0_hasRecord 4 = .ok (.iconst 5, 1) := by decide +kernel
theorem dX0_hasRecord_5 : decode cX0_hasRecord 5 = .ok (.if_icmp .ne 10, 3) := by decide +kernel
theorem dX0_hasRecord_8 : decode cX0_hasRecord 8 = .ok (.aload_n 0, 1) := by decide +kernel
theorem dX0_hasRecord_9 : decode cX0_hasRecord 9 = .ok (.getfield 43, 3) := by decide +kernel
theorem dX0_hasRecord_12 : decode cX0_hasRecord 12 = .ok (.goto 7, 3) := by decide +kernel
theorem dX0_hasRecord_15 : decode cX0_hasRecord 15 = .ok (.aload_n 0, 1) := by decide +kernel
theorem dX0_hasRecord_16 : decode cX0_hasRecord 16 = .ok (.getfield 9, 3) := by decide +kernel
theorem dX0_hasRecord_19 : decode cX0_hasRecord 19 = .ok (.invokestatic 62, 3) := by decide +kernel
theorem dX0_hasRecord_22 : decode cX0_hasRecord 22 = .ok (.ireturn, 1) := by decide +kernel
set_option maxRecDepth 20000 in
theorem ggX0_answer_X0_hasRecord : GoodIn wsX0_answer wsX0_hasRecord := goodIn_r _ [6, 7, 8, 9, 10, 11, 12, 13, 14, 15, 16, 17, 18, 19, 20, 21, 22] (by decide +kernel) (by decide +kernel)
set_option maxRecDepth 20000 in
theorem gX0_answer_X0_hasRecord : GoodIn wsX0_answer (wsV RX0 66 RX0 yX0_hasRecord wsX0_hasRecord) := goodIn_app (goodIn_of _ (by decide +kernel)) ggX0_answer_X0_hasRecord
theorem dX0_answer_0 : decode cX0_answer 0 = .ok (.aload_n 0, 1) := by decide +kernel
theorem dX0_answer_1 : decode cX0_answer 1 = .ok (.invokevirtual 66, 3) := by decide +kernel
theorem dX0_answer_4 : decode cX0_answer 4 = .ok (.ifCond .eq 10, 3) := by decide +kernel
theorem dX0_answer_7 : decode cX0_answer 7 = .ok (.aload_n 0, 1) := by decide +kernel
theorem dX0_answer_8 : decode cX0_answer 8 = .ok (.getfield 34, 3) := by decide +kernel
theorem dX0_answer_11 : decode cX0_answer 11 = .ok (.goto 4, 3) := by decide +kernel
theorem dX0_answer_14 : decode cX0_answer 14 = .ok (.iconst (-1), 1) := by decide +kernel
theorem dX0_answer_15 : decode cX0_answer 15 = .ok (.ireturn, 1) := by decide +kernel
set_option maxRecDepth 20000 in
theorem ggX0_answerLifetime_X0_hasRecord : GoodIn wsX0_answerLifetime wsX0_hasRecord := goodIn_r _ [6, 7, 8, 9, 10, 11, 12, 13, 14, 15, 16, 17, 18, 19, 20, 21, 22] (by decide +kernel) (by decide +kernel)
set_option maxRecDepth 20000 in
theorem gX0_answerLifetime_X0_hasRecord : GoodIn wsX0_answerLifetime (wsV RX0 66 RX0 yX0_hasRecord wsX0_hasRecord) := goodIn_app (goodIn_of _ (by decide +kernel)) ggX0_answerLifetime_X0_hasRecord
theorem dX0_answerLifetime_0 : decode cX0_answerLifetime 0 = .ok (.aload_n 0, 1) := by decide +kernel
theorem dX0_answerLifetime_1 : decode cX0_answerLifetime 1 = .ok (.invokevirtual 66, 3) := by decide +kernel
theorem dX0_answerLifetime_4 : decode cX0_answerLifetime 4 = .ok (.ifCond .eq 10, 3) := by decide +kernel
theorem dX0_answerLifetime_7 : decode cX0_answerLifetime 7 = .ok (.aload_n 0, 1) := by decide +kernel
theorem dX0_answerLifetime_8 : decode cX0_answerLifetime 8 = .ok (.getfield 37, 3) := by decide +kernel
theorem dX0_answerLifetime_11 : decode cX0_answerLifetime 11 = .ok (.goto 4, 3) := by decide +kernel
theorem dX0_answerLifetime_14 : decode cX0_answerLifetime 14 = .ok (.iconst 5, 1) := by decide +kernel
theorem dX0_answerLifetime_15 : decode cX0_answerLifetime 15 = .ok (.ireturn, 1) := by decide +kernel
theorem dX1_init_0 : decode cX1_init 0 = .ok (.aload_n 0, 1) := by decide +kernel
theorem dX1_init_1 : decode cX1_init 1 = .ok (.invokespecial 3, 3) := by decide +kernel
theorem dX1_init_4 : decode cX1_init 4 = .ok (.aload_n 0, 1) := by decide +kernel
theorem dX1_init_5 : decode cX1_init 5 = .ok (.bipush 16, 2) := by decide +kernel
theorem dX1_init_7 : decode cX1_init 7 = .ok (.newarray .boolean, 2) := by decide +kernel
theorem dX1_init_9 : decode cX1_init 9 = .ok (.putfield 9, 3) := by decide +kernel
theorem dX1_init_12 : decode cX1_init 12 = .ok (.aload_n 0, 1) := by decide +kernel
theorem dX1_init_13 : decode cX1_init 13 = .ok (.bipush 16, 2) := by decide +kernel
theorem dX1_init_15 : decode cX1_init 15 = .ok (.newarray .int, 2) := by decide +kernel
theorem dX1_init_17 : decode cX1_init 17 = .ok (.putfield 15, 3) := by decide +kernel
theorem dX1_init_20 : decode cX1_init 20 = .ok (.aload_n 0, 1) := by decide +kernel
theorem dX1_init_21 : decode cX1_init 21 = .ok (.bipush 16, 2) := by decide +kernel
theorem dX1_init_23 : decode cX1_init 23 = .ok (.newarray .int, 2) := by decide +kernel
theorem dX1_init_25 : decode cX1_init 25 = .ok (.putfield 19, 3) := by decide +kernel
theorem dX1_init_28 : decode cX1_init 28 = .ok (.aload_n 0, 1) := by decide +kernel
theorem dX1_init_29 : decode cX1_init 29 = .ok (.bipush 16, 2) := by decide +kernel
theorem dX1_init_31 : decode cX1_init 31 = .ok (.newarray .int, 2) := by decide +kernel
theorem dX1_init_33 : decode cX1_init 33 = .ok (.putfield 22, 3) := by decide +kernel
theorem dX1_init_36 : decode cX1_init 36 = .ok (.return_, 1) := by decide +kernel
theorem dX1_isFresh_0 : decode cX1_isFresh 0 = .ok (.aload_n 0, 1) := by decide +kernel
theorem dX1_isFresh_1 : decode cX1_isFresh 1 = .ok (.getfield 9, 3) := by decide +kernel
theorem dX1_isFresh_4 : decode cX1_isFresh 4 = .ok (.iload_n 1, 1) := by decide +kernel
theorem dX1_isFresh_5 : decode cX1_isFresh 5 = .ok (.baload, 1) := by decide +kernel
theorem dX1_isFresh_6 : decode cX1_isFresh 6 = .ok (.ifCond .eq 24, 3) := by decide +kernel
theorem dX1_isFresh_9 : decode cX1_isFresh 9 = .ok (.iload_n 2, 1) := by decide +kernel
theorem dX1_isFresh_10 : decode cX1_isFresh 10 = .ok (.aload_n 0, 1) := by decide +kernel
theorem dX1_isFresh_11 : decode cX1_isFresh 11 = .ok (.getfield 22, 3) := by decide +kernel
theorem dX1_isFresh_14 : decode cX1_isFresh 14 = .ok (.iload_n 1, 1) := by decide +kernel
theorem dX1_isFresh_15 : decode cX1_isFresh 15 = .ok (.iaload, 1) := by decide +kernel
theorem dX1_isFresh_16 : decode cX1_isFresh 16 = .ok (.isub, 1) := by decide +kernel
theorem dX1_isFresh_17 : decode cX1_isFresh 17 = .ok (.aload_n 0, 1) := by decide +kernel
theorem dX1_isFresh_18 : decode cX1_isFresh 18 = .ok (.getfield 19, 3) := by decide +kernel
theorem dX1_isFresh_21 : decode cX1_isFresh 21 = .ok (.iload_n 1, 1) := by decide +kernel
theorem dX1_isFresh_22 : decode cX1_isFresh 22 = .ok (.iaload, 1) := by decide +kernel
theorem dX1_isFresh_23 : decode cX1_isFresh 23 = .ok (.if_icmp .ge 7, 3) := by decide +kernel
theorem dX1_isFresh_26 : decode cX1_isFresh 26 = .ok (.iconst 1, 1) := by decide +kernel
theorem dX1_isFresh_27 : decode cX1_isFresh 27 = .ok (.goto 4, 3) := by decide +kernel
theorem dX1_isFresh_30 : decode cX1_isFresh 30 = .ok (.iconst 0, 1) := by decide +kernel
theorem dX1_isFresh_31 : decode cX1_isFresh 31 = .ok (.ireturn, 1) := by decide +kernel
theorem dX1_keep_0 : decode cX1_keep 0 = .ok (.aload_n 0, 1) := by decide +kernel
theorem dX1_keep_1 : decode cX1_keep 1 = .ok (.getfield 9, 3) := by decide +kernel
theorem dX1_keep_4 : decode cX1_keep 4 = .ok (.iload_n 1, 1) := by decide +kernel
theorem dX1_keep_5 : decode cX1_keep 5 = .ok (.iconst 1, 1) := by decide +kernel
theorem dX1_keep_6 : decode cX1_keep 6 = .ok (.bastore, 1) := by decide +kernel
theorem dX1_keep_7 : decode cX1_keep 7 = .ok (.aload_n 0, 1) := by decide +kernel
theorem dX1_keep_8 : decode cX1_keep 8 = .ok (.getfield 15, 3) := by decide +kernel
theorem dX1_keep_11 : decode cX1_keep 11 = .ok (.iload_n 1, 1) := by decide +kernel
theorem dX1_keep_12 : decode cX1_keep 12 = .ok (.iload_n 2, 1) := by decide +kernel
theorem dX1_keep_13 : decode cX1_keep 13 = .ok (.iastore, 1) := by decide +kernel
theorem dX1_keep_14 : decode cX1_keep 14 = .ok (.aload_n 0, 1) := by decide +kernel
theorem dX1_keep_15 : decode cX1_keep 15 = .ok (.getfield 19, 3) := by decide +kernel
theorem dX1_keep_18 : decode cX1_keep 18 = .ok (.iload_n 1, 1) := by decide +kernel
theorem dX1_keep_19 : decode cX1_keep 19 = .ok (.iload_n 3, 1) := by decide +kernel
theorem dX1_keep_20 : decode cX1_keep 20 = .ok (.iastore, 1) := by decide +kernel
theorem dX1_keep_21 : decode cX1_keep 21 = .ok (.aload_n 0, 1) := by decide +kernel
theorem dX1_keep_22 : decode cX1_keep 22 = .ok (.getfield 22, 3) := by decide +kernel
theorem dX1_keep_25 : decode cX1_keep 25 = .ok (.iload_n 1, 1) := by decide +kernel
theorem dX1_keep_26 : decode cX1_keep 26 = .ok (.iload 4, 2) := by decide +kernel
theorem dX1_keep_28 : decode cX1_keep 28 = .ok (.iastore, 1) := by decide +kernel
theorem dX1_keep_29 : decode cX1_keep 29 = .ok (.return_, 1) := by decide +kernel
theorem dX1_forgetAll_0 : decode cX1_forgetAll 0 = .ok (.iconst 0, 1) := by decide +kernel
theorem dX1_forgetAll_1 : decode cX1_forgetAll 1 = .ok (.istore_n 1, 1) := by decide +kernel
theorem dX1_forgetAll_2 : decode cX1_forgetAll 2 = .ok (.iconst 0, 1) := by decide +kernel
theorem dX1_forgetAll_3 : decode cX1_forgetAll 3 = .ok (.istore_n 2, 1) := by decide +kernel
theorem dX1_forgetAll_4 : decode cX1_forgetAll 4 = .ok (.iload_n 2, 1) := by decide +kernel
theorem dX1_forgetAll_5 : decode cX1_forgetAll 5 = .ok (.bipush 16, 2) := by decide +kernel
theorem dX1_forgetAll_7 : decode cX1_forgetAll 7 = .ok (.if_icmp .ge 33, 3) := by decide +kernel
theorem dX1_forgetAll_10 : decode cX1_forgetAll 10 = .ok (.iload_n 1, 1) := by decide +kernel
theorem dX1_forgetAll_11 : decode cX1_forgetAll 11 = .ok (.aload_n 0, 1) := by decide +kernel
theorem dX1_forgetAll_12 : decode cX1_forgetAll 12 = .ok (.getfield 9, 3) := by decide +kernel
theorem dX1_forgetAll_15 : decode cX1_forgetAll 15 = .ok (.iload_n 2, 1) := by decide +kernel
theorem dX1_forgetAll_16 : decode cX1_forgetAll 16 = .ok (.baload, 1) := by decide +kernel
theorem dX1_forgetAll_17 : decode cX1_forgetAll 17 = .ok (.ifCond .eq 7, 3) := by decide +kernel
theorem dX1_forgetAll_20 : decode cX1_forgetAll 20 = .ok (.iconst 1, 1) := by decide +kernel
theorem dX1_forgetAll_21 : decode cX1_forgetAll 21 = .ok (.goto 4, 3) := by decide +kernel
theorem dX1_forgetAll_24 : decode cX1_forgetAll 24 = .ok (.iconst 0, 1) := by decide +kernel
theorem dX1_forgetAll_25 : decode cX1_forgetAll 25 = .ok (.iadd, 1) := by decide +kernel
theorem dX1_forgetAll_26 : decode cX1_forgetAll 26 = .ok (.istore_n 1, 1) := by decide +kernel
theorem dX1_forgetAll_27 : decode cX1_forgetAll 27 = .ok (.aload_n 0, 1) := by decide +kernel
theorem dX1_forgetAll_28 : decode cX1_forgetAll 28 = .ok (.getfield 9, 3) := by decide +kernel
theorem dX1_forgetAll_31 : decode cX1_forgetAll 31 = .ok (.iload_n 2, 1) := by decide +kernel
theorem dX1_forgetAll_32 : decode cX1_forgetAll 32 = .ok (.iconst 0, 1) := by decide +kernel
theorem dX1_forgetAll_33 : decode cX1_forgetAll 33 = .ok (.bastore, 1) := by decide +kernel
theorem dX1_forgetAll_34 : decode cX1_forgetAll 34 = .ok (.iinc 2 1, 3) := by decide +kernel
theorem dX1_forgetAll_37 : decode cX1_forgetAll 37 = .ok (.goto (-33), 3) := by decide +kernel
theorem dX1_forgetAll_40 : decode cX1_forgetAll 40 = .ok (.iload_n 1, 1) := by decide +kernel
theorem dX1_forgetAll_41 : decode cX1_forgetAll 41 = .ok (.ireturn, 1) := by decide +kernel
set_option maxRecDepth 20000 in
theorem ggX2_init_X0_init : GoodIn wsX2_init wsX0_init := goodIn_r _ [15, 16, 2, 3, 17, 18, 4, 19, 20, 35, 36, 37, 38, 39, 40, 41, 42, 43, 44, 45] (by decide +kernel) (by decide +kernel)
set_option maxRecDepth 20000 in
theorem gX2_init_X0_init_n25 : GoodIn wsX2_init (wsX0_init) := ggX2_init_X0_init
set_option maxRecDepth 20000 in
theorem ggX2_init_X1_init : GoodIn wsX2_init wsX1_init := goodIn_r _ [22, 23, 2, 3, 24, 25, 4, 26, 27, 28, 46, 47, 48, 49] (by decide +kernel) (by decide +kernel)
set_option maxRecDepth 20000 in
theorem gX2_init_X1_init_n26 : GoodIn wsX2_init (wsX1_init) := ggX2_init_X1_init
theorem dX2_init_0 : decode cX2_init 0 = .ok (.aload_n 0, 1) := by decide +kernel
theorem dX2_init_1 : decode cX2_init 1 = .ok (.invokespecial 1, 3) := by decide +kernel
theorem dX2_init_4 : decode cX2_init 4 = .ok (.aload_n 0, 1) := by decide +kernel
theorem dX2_init_5 : decode cX2_init 5 = .ok (.bipush 6, 2) := by decide +kernel
theorem dX2_init_7 : decode cX2_init 7 = .ok (.newarray .int, 2) := by decide +kernel
theorem dX2_init_9 : decode cX2_init 9 = .ok (.putfield 9, 3) := by decide +kernel
theorem dX2_init_12 : decode cX2_init 12 = .ok (.aload_n 0, 1) := by decide +kernel
theorem dX2_init_13 : decode cX2_init 13 = .ok (.bipush 16, 2) := by decide +kernel
theorem dX2_init_15 : decode cX2_init 15 = .ok (.anewarray 13, 3) := by decide +kernel
theorem dX2_init_18 : decode cX2_init 18 = .ok (.putfield 15, 3) := by decide +kernel
theorem dX2_init_21 : decode cX2_init 21 = .ok (.aload_n 0, 1) := by decide +kernel
theorem dX2_init_22 : decode cX2_init 22 = .ok (.iconst 3, 1) := by decide +kernel
theorem dX2_init_23 : decode cX2_init 23 = .ok (.anewarray 19, 3) := by decide +kernel
theorem dX2_init_26 : decode cX2_init 26 = .ok (.putfield 21, 3) := by decide +kernel
theorem dX2_init_29 : decode cX2_init 29 = .ok (.iconst 0, 1) := by decide +kernel
theorem dX2_init_30 : decode cX2_init 30 = .ok (.istore_n 1, 1) := by decide +kernel
theorem dX2_init_31 : decode cX2_init 31 = .ok (.iload_n 1, 1) := by decide +kernel
theorem dX2_init_32 : decode cX2_init 32 = .ok (.bipush 16, 2) := by decide +kernel
theorem dX2_init_34 : decode cX2_init 34 = .ok (.if_icmp .ge 22, 3) := by decide +kernel
theorem dX2_init_37 : decode cX2_init 37 = .ok (.aload_n 0, 1) := by decide +kernel
theorem dX2_init_38 : decode cX2_init 38 = .ok (.getfield 15, 3) := by decide +kernel
theorem dX2_init_41 : decode cX2_init 41 = .ok (.iload_n 1, 1) := by decide +kernel
theorem dX2_init_42 : decode cX2_init 42 = .ok (.new 13, 3) := by decide +kernel
theorem dX2_init_45 : decode cX2_init 45 = .ok (.dup, 1) := by decide +kernel
theorem dX2_init_46 : decode cX2_init 46 = .ok (.invokespecial 25, 3) := by decide +kernel
theorem dX2_init_49 : decode cX2_init 49 = .ok (.aastore, 1) := by decide +kernel
theorem dX2_init_50 : decode cX2_init 50 = .ok (.iinc 1 1, 3) := by decide +kernel
theorem dX2_init_53 : decode cX2_init 53 = .ok (.goto (-22), 3) := by decide +kernel
theorem dX2_init_56 : decode cX2_init 56 = .ok (.iconst 0, 1) := by decide +kernel
theorem dX2_init_57 : decode cX2_init 57 = .ok (.istore_n 1, 1) := by decide +kernel
theorem dX2_init_58 : decode cX2_init 58 = .ok (.iload_n 1, 1) := by decide +kernel
theorem dX2_init_59 : decode cX2_init 59 = .ok (.iconst 3, 1) := by decide +kernel
theorem dX2_init_60 : decode cX2_init 60 = .ok (.if_icmp .ge 22, 3) := by decide +kernel
theorem dX2_init_63 : decode cX2_init 63 = .ok (.aload_n 0, 1) := by decide +kernel
theorem dX2_init_64 : decode cX2_init 64 = .ok (.getfield 21, 3) := by decide +kernel
theorem dX2_init_67 : decode cX2_init 67 = .ok (.iload_n 1, 1) := by decide +kernel
theorem dX2_init_68 : decode cX2_init 68 = .ok (.new 19, 3) := by decide +kernel
theorem dX2_init_71 : decode cX2_init 71 = .ok (.dup, 1) := by decide +kernel
theorem dX2_init_72 : decode cX2_init 72 = .ok (.invokespecial 26, 3) := by decide +kernel
theorem dX2_init_75 : decode cX2_init 75 = .ok (.aastore, 1) := by decide +kernel
theorem dX2_init_76 : decode cX2_init 76 = .ok (.iinc 1 1, 3) := by decide +kernel
theorem dX2_init_79 : decode cX2_init 79 = .ok (.goto (-21), 3) := by decide +kernel
theorem dX2_init_82 : decode cX2_init 82 = .ok (.return_, 1) := by decide +kernel
set_option maxRecDepth 20000 in
theorem ggX2_deposit_X2_checkIndex : GoodIn wsX2_deposit wsX2_checkIndex := goodIn_ca (goodIn_r _ [6, 7, 8] (by decide +kernel) (by decide +kernel)) (goodIn_sub (fun _ h => List.mem_cons_of_mem _ (List.mem_append_left _ (List.mem_append_right _ h))) (by decide +kernel))
set_option maxRecDepth 20000 in
theorem gX2_deposit_X2_checkIndex : GoodIn wsX2_deposit (va_wsS RX2 27 yX2_checkIndex wsX2_checkIndex) := goodIn_app (goodIn_of _ (by decide +kernel)) ggX2_deposit_X2_checkIndex
set_option maxRecDepth 20000 in
theorem ggX2_deposit_X2_checkRange : GoodIn wsX2_deposit wsX2_checkRange := goodIn_ca (goodIn_r _ [11, 12, 13] (by decide +kernel) (by decide +kernel)) (goodIn_sub (fun _ h => List.mem_cons_of_mem _ (List.mem_append_right _ h)) (by decide +kernel))
set_option maxRecDepth 20000 in
theorem gX2_deposit_X2_checkRange : GoodIn wsX2_deposit (va_wsS RX2 32 yX2_checkRange wsX2_checkRange) := goodIn_app (goodIn_of _ (by decide +kernel)) ggX2_deposit_X2_checkRange
theorem dX2_deposit_0 : decode cX2_deposit 0 = .ok (.iload_n 1, 1) := by decide +kernel
theorem dX2_deposit_1 : decode cX2_deposit 1 = .ok (.bipush 6, 2) := by decide +kernel
theorem dX2_deposit_3 : decode cX2_deposit 3 = .ok (.invokestatic 27, 3) := by decide +kernel
theorem dX2_deposit_6 : decode cX2_deposit 6 = .ok (.iload_n 2, 1) := by decide +kernel
theorem dX2_deposit_7 : decode cX2_deposit 7 = .ok (.iconst 1, 1) := by decide +kernel
theorem dX2_deposit_8 : decode cX2_deposit 8 = .ok (.ldc 31, 2) := by decide +kernel
theorem dX2_deposit_10 : decode cX2_deposit 10 = .ok (.invokestatic 32, 3) := by decide +kernel
theorem dX2_deposit_13 : decode cX2_deposit 13 = .ok (.aload_n 0, 1) := by decide +kernel
theorem dX2_deposit_14 : decode cX2_deposit 14 = .ok (.getfield 9, 3) := by decide +kernel
theorem dX2_deposit_17 : decode cX2_deposit 17 = .ok (.iload_n 1, 1) := by decide +kernel
theorem dX2_deposit_18 : decode cX2_deposit 18 = .ok (.dup2, 1) := by decide +kernel
theorem dX2_deposit_19 : decode cX2_deposit 19 = .ok (.iaload, 1) := by decide +kernel
theorem dX2_deposit_20 : decode cX2_deposit 20 = .ok (.iload_n 2, 1) := by decide +kernel
theorem dX2_deposit_21 : decode cX2_deposit 21 = .ok (.iadd, 1) := by decide +kernel
theorem dX2_deposit_22 : decode cX2_deposit 22 = .ok (.iastore, 1) := by decide +kernel
theorem dX2_deposit_23 : decode cX2_deposit 23 = .ok (.aload_n 0, 1) := by decide +kernel
theorem dX2_deposit_24 : decode cX2_deposit 24 = .ok (.getfield 9, 3) := by decide +kernel
theorem dX2_deposit_27 : decode cX2_deposit 27 = .ok (.iload_n 1, 1) := by decide +kernel
theorem dX2_deposit_28 : decode cX2_deposit 28 = .ok (.iaload, 1) := by decide +kernel
theorem dX2_deposit_29 : decode cX2_deposit 29 = .ok (.ireturn, 1) := by decide +kernel
set_option maxRecDepth 20000 in
theorem ggX2_funds_X2_checkIndex : GoodIn wsX2_funds wsX2_checkIndex := goodIn_ca (goodIn_r _ [5, 6, 7] (by decide +kernel) (by decide +kernel)) (goodIn_sub (fun _ h => List.mem_cons_of_mem _ (List.mem_append_right _ h)) (by decide +kernel))
set_option maxRecDepth 20000 in
theorem gX2_funds_X2_checkIndex : GoodIn wsX2_funds (va_wsS RX2 27 yX2_checkIndex wsX2_checkIndex) := goodIn_app (goodIn_of _ (by decide +kernel)) ggX2_funds_X2_checkIndex
theorem dX2_funds_0 : decode cX2_funds 0 = .ok (.iload_n 1, 1) := by decide +kernel
theorem dX2_funds_1 : decode cX2_funds 1 = .ok (.bipush 6, 2) := by decide +kernel
theorem dX2_funds_3 : decode cX2_funds 3 = .ok (.invokestatic 27, 3) := by decide +kernel
theorem dX2_funds_6 : decode cX2_funds 6 = .ok (.aload_n 0, 1) := by decide +kernel
theorem dX2_funds_7 : decode cX2_funds 7 = .ok (.getfield 9, 3) := by decide +kernel
theorem dX2_funds_10 : decode cX2_funds 10 = .ok (.iload_n 1, 1) := by decide +kernel
theorem dX2_funds_11 : decode cX2_funds 11 = .ok (.iaload, 1) := by decide +kernel
theorem dX2_funds_12 : decode cX2_funds 12 = .ok (.ireturn, 1) := by decide +kernel
set_option maxRecDepth 20000 in
theorem ggX2_bid_X2_checkIndex : GoodIn wsX2_bid wsX2_checkIndex := goodIn_ca (goodIn_r _ [8, 9, 10] (by decide +kernel) (by decide +kernel)) (goodIn_sub (fun _ h => List.mem_cons_of_mem _ (List.mem_append_left _ (List.mem_append_left _ (List.mem_append_right _ h)))) (by decide +kernel))
set_option maxRecDepth 20000 in
theorem gX2_bid_X2_checkIndex : GoodIn wsX2_bid (va_wsS RX2 27 yX2_checkIndex wsX2_checkIndex) := goodIn_app (goodIn_of _ (by decide +kernel)) ggX2_bid_X2_checkIndex
set_option maxRecDepth 20000 in
theorem ggX2_bid_X2_checkRange : GoodIn wsX2_bid wsX2_checkRange := goodIn_ca (goodIn_r _ [13, 14, 15] (by decide +kernel) (by decide +kernel)) (goodIn_sub (fun _ h => List.mem_cons_of_mem _ (List.mem_append_left _ (List.mem_append_right _ h))) (by decide +kernel))
set_option maxRecDepth 20000 in
theorem gX2_bid_X2_checkRange : GoodIn wsX2_bid (va_wsS RX2 32 yX2_checkRange wsX2_checkRange) := goodIn_app (goodIn_of _ (by decide +kernel)) ggX2_bid_X2_checkRange
set_option maxRecDepth 20000 in
theorem ggX2_bid_X2_checkPossible : GoodIn wsX2_bid wsX2_checkPossible := goodIn_ca (goodIn_r _ [18, 19, 20] (by decide +kernel) (by decide +kernel)) (goodIn_sub (fun _ h => List.mem_cons_of_mem _ (List.mem_append_right _ h)) (by decide +kernel))
set_option maxRecDepth 20000 in
theorem gX2_bid_X2_checkPossible : GoodIn wsX2_bid (va_wsS RX2 40 yX2_checkPossible wsX2_checkPossible) := goodIn_app (goodIn_of _ (by decide +kernel)) ggX2_bid_X2_checkPossible
set_option maxRecDepth 20000 in
theorem ggX2_bid_X0_beginAuction : GoodIn wsX2_bid wsX0_beginAuction := goodIn_r _ [24, 25, 26, 33, 34, 35, 36, 37, 38, 39, 40, 41, 42, 43] (by decide +kernel) (by decide +kernel)
set_option maxRecDepth 20000 in
theorem gX2_bid_X0_beginAuction_n47 : GoodIn wsX2_bid (wsX0_beginAuction) := ggX2_bid_X0_beginAuction
theorem dX2_bid_0 : decode cX2_bid 0 = .ok (.iload_n 1, 1) := by decide +kernel
theorem dX2_bid_1 : decode cX2_bid 1 = .ok (.bipush 6, 2) := by decide +kernel
theorem dX2_bid_3 : decode cX2_bid 3 = .ok (.invokestatic 27, 3) := by decide +kernel
theorem dX2_bid_6 : decode cX2_bid 6 = .ok (.iload_n 2, 1) := by decide +kernel
theorem dX2_bid_7 : decode cX2_bid 7 = .ok (.bipush 16, 2) := by decide +kernel
theorem dX2_bid_9 : decode cX2_bid 9 = .ok (.invokestatic 27, 3) := by decide +kernel
theorem dX2_bid_12 : decode cX2_bid 12 = .ok (.iload_n 3, 1) := by decide +kernel
theorem dX2_bid_13 : decode cX2_bid 13 = .ok (.bipush 10, 2) := by decide +kernel
theorem dX2_bid_15 : decode cX2_bid 15 = .ok (.ldc 31, 2) := by decide +kernel
theorem dX2_bid_17 : decode cX2_bid 17 = .ok (.invokestatic 32, 3) := by decide +kernel
theorem dX2_bid_20 : decode cX2_bid 20 = .ok (.aload_n 0, 1) := by decide +kernel
theorem dX2_bid_21 : decode cX2_bid 21 = .ok (.getfield 15, 3) := by decide +kernel
theorem dX2_bid_24 : decode cX2_bid 24 = .ok (.iload_n 2, 1) := by decide +kernel
theorem dX2_bid_25 : decode cX2_bid 25 = .ok (.aaload, 1) := by decide +kernel
theorem dX2_bid_26 : decode cX2_bid 26 = .ok (.astore 4, 2) := by decide +kernel
theorem dX2_bid_28 : decode cX2_bid 28 = .ok (.aload 4, 2) := by decide +kernel
theorem dX2_bid_30 : decode cX2_bid 30 = .ok (.getfield 36, 3) := by decide +kernel
theorem dX2_bid_33 : decode cX2_bid 33 = .ok (.ifCond .eq 12, 3) := by decide +kernel
theorem dX2_bid_36 : decode cX2_bid 36 = .ok (.aload 4, 2) := by decide +kernel
theorem dX2_bid_38 : decode cX2_bid 38 = .ok (.getfield 36, 3) := by decide +kernel
theorem dX2_bid_41 : decode cX2_bid 41 = .ok (.iconst 1, 1) := by decide +kernel
theorem dX2_bid_42 : decode cX2_bid 42 = .ok (.if_icmp .ne 7, 3) := by decide +kernel
theorem dX2_bid_45 : decode cX2_bid 45 = .ok (.iconst 1, 1) := by decide +kernel
theorem dX2_bid_46 : decode cX2_bid 46 = .ok (.goto 4, 3) := by decide +kernel
theorem dX2_bid_49 : decode cX2_bid 49 = .ok (.iconst 0, 1) := by decide +kernel
theorem dX2_bid_50 : decode cX2_bid 50 = .ok (.invokestatic 40, 3) := by decide +kernel
theorem dX2_bid_53 : decode cX2_bid 53 = .ok (.aload 4, 2) := by decide +kernel
theorem dX2_bid_55 : decode cX2_bid 55 = .ok (.getfield 36, 3) := by decide +kernel
theorem dX2_bid_58 : decode cX2_bid 58 = .ok (.ifCond .ne 12, 3) := by decide +kernel
theorem dX2_bid_61 : decode cX2_bid 61 = .ok (.aload 4, 2) := by decide +kernel
theorem dX2_bid_63 : decode cX2_bid 63 = .ok (.aload_n 0, 1) := by decide +kernel
theorem dX2_bid_64 : decode cX2_bid 64 = .ok (.getfield 44, 3) := by decide +kernel
theorem dX2_bid_67 : decode cX2_bid 67 = .ok (.invokevirtual 47, 3) := by decide +kernel
theorem dX2_bid_70 : decode cX2_bid 70 = .ok (.aload_n 0, 1) := by decide +kernel
theorem dX2_bid_71 : decode cX2_bid 71 = .ok (.dup, 1) := by decide +kernel
theorem dX2_bid_72 : decode cX2_bid 72 = .ok (.getfield 51, 3) := by decide +kernel
theorem dX2_bid_75 : decode cX2_bid 75 = .ok (.iconst 1, 1) := by decide +kernel
theorem dX2_bid_76 : decode cX2_bid 76 = .ok (.iadd, 1) := by decide +kernel
theorem dX2_bid_77 : decode cX2_bid 77 = .ok (.putfield 51, 3) := by decide +kernel
theorem dX2_bid_80 : decode cX2_bid 80 = .ok (.aload 4, 2) := by decide +kernel
theorem dX2_bid_82 : decode cX2_bid 82 = .ok (.getfield 54, 3) := by decide +kernel
theorem dX2_bid_85 : decode cX2_bid 85 = .ok (.iload_n 1, 1) := by decide +kernel
theorem dX2_bid_86 : decode cX2_bid 86 = .ok (.iload_n 3, 1) := by decide +kernel
theorem dX2_bid_87 : decode cX2_bid 87 = .ok (.iastore, 1) := by decide +kernel
theorem dX2_bid_88 : decode cX2_bid 88 = .ok (.aload 4, 2) := by decide +kernel
theorem dX2_bid_90 : decode cX2_bid 90 = .ok (.getfield 57, 3) := by decide +kernel
theorem dX2_bid_93 : decode cX2_bid 93 = .ok (.iload_n 1, 1) := by decide +kernel
theorem dX2_bid_94 : decode cX2_bid 94 = .ok (.aload_n 0, 1) := by decide +kernel
theorem dX2_bid_95 : decode cX2_bid 95 = .ok (.getfield 51, 3) := by decide +kernel
theorem dX2_bid_98 : decode cX2_bid 98 = .ok (.iastore, 1) := by decide +kernel
theorem dX2_bid_99 : decode cX2_bid 99 = .ok (.aload 4, 2) := by decide +kernel
theorem dX2_bid_101 : decode cX2_bid 101 = .ok (.getfield 60, 3) := by decide +kernel
theorem dX2_bid_104 : decode cX2_bid 104 = .ok (.ireturn, 1) := by decide +kernel
set_option maxRecDepth 20000 in
theorem ggX2_bids_X2_checkIndex : GoodIn wsX2_bids wsX2_checkIndex := goodIn_ca (goodIn_r _ [5, 6, 7] (by decide +kernel) (by decide +kernel)) (goodIn_sub (fun _ h => List.mem_cons_of_mem _ (List.mem_append_right _ h)) (by decide +kernel))
set_option maxRecDepth 20000 in
theorem gX2_bids_X2_checkIndex : GoodIn wsX2_bids (va_wsS RX2 27 yX2_checkIndex wsX2_checkIndex) := goodIn_app (goodIn_of _ (by decide +kernel)) ggX2_bids_X2_checkIndex
set_option maxRecDepth 20000 in
theorem ggX2_bids_X0_countBids : GoodIn wsX2_bids wsX0_countBids := goodIn_r _ [11, 12, 19, 20, 21, 22, 23, 24, 25, 26, 27, 28, 29] (by decide +kernel) (by decide +kernel)
set_option maxRecDepth 20000 in
theorem gX2_bids_X0_countBids_n63 : GoodIn wsX2_bids (wsX0_countBids) := ggX2_bids_X0_countBids
theorem dX2_bids_0 : decode cX2_bids 0 = .ok (.iload_n 1, 1) := by decide +kernel
theorem dX2_bids_1 : decode cX2_bids 1 = .ok (.bipush 16, 2) := by decide +kernel
theorem dX2_bids_3 : decode cX2_bids 3 = .ok (.invokestatic 27, 3) := by decide +kernel
theorem dX2_bids_6 : decode cX2_bids 6 = .ok (.aload_n 0, 1) := by decide +kernel
theorem dX2_bids_7 : decode cX2_bids 7 = .ok (.getfield 15, 3) := by decide +kernel
theorem dX2_bids_10 : decode cX2_bids 10 = .ok (.iload_n 1, 1) := by decide +kernel
theorem dX2_bids_11 : decode cX2_bids 11 = .ok (.aaload, 1) := by decide +kernel
theorem dX2_bids_12 : decode cX2_bids 12 = .ok (.invokevirtual 63, 3) := by decide +kernel
theorem dX2_bids_15 : decode cX2_bids 15 = .ok (.ireturn, 1) := by decide +kernel
set_option maxRecDepth 20000 in
theorem ggX2_renew_X2_checkIndex : GoodIn wsX2_renew wsX2_checkIndex := goodIn_ca (goodIn_r _ [6, 7, 8] (by decide +kernel) (by decide +kernel)) (goodIn_sub (fun _ h => List.mem_cons_of_mem _ (List.mem_append_left _ (List.mem_append_left _ (List.mem_append_right _ h)))) (by decide +kernel))
set_option maxRecDepth 20000 in
theorem gX2_renew_X2_checkIndex : GoodIn wsX2_renew (va_wsS RX2 27 yX2_checkIndex wsX2_checkIndex) := goodIn_app (goodIn_of _ (by decide +kernel)) ggX2_renew_X2_checkIndex
set_option maxRecDepth 20000 in
theorem ggX2_renew_X2_checkRange : GoodIn wsX2_renew wsX2_checkRange := goodIn_ca (goodIn_r _ [11, 12, 13] (by decide +kernel) (by decide +kernel)) (goodIn_sub (fun _ h => List.mem_cons_of_mem _ (List.mem_append_left _ (List.mem_append_right _ h))) (by decide +kernel))
set_option maxRecDepth 20000 in
theorem gX2_renew_X2_checkRange : GoodIn wsX2_renew (va_wsS RX2 32 yX2_checkRange wsX2_checkRange) := goodIn_app (goodIn_of _ (by decide +kernel)) ggX2_renew_X2_checkRange
set_option maxRecDepth 20000 in
theorem ggX2_renew_X2_isHeld : GoodIn wsX2_renew wsX2_isHeld := goodIn_r _ [16] (by decide +kernel) (by decide +kernel)
set_option maxRecDepth 20000 in
theorem gX2_renew_X2_isHeld : GoodIn wsX2_renew (va_wsS RX2 70 yX2_isHeld wsX2_isHeld) := goodIn_app (goodIn_of _ (by decide +kernel)) ggX2_renew_X2_isHeld
set_option maxRecDepth 20000 in
theorem ggX2_renew_X2_canPay : GoodIn wsX2_renew wsX2_canPay := goodIn_r _ [20, 21, 32, 33, 34, 35, 36, 37] (by decide +kernel) (by decide +kernel)
set_option maxRecDepth 20000 in
theorem gX2_renew_X2_canPay : GoodIn wsX2_renew (wsV RX2 77 RX2 yX2_canPay wsX2_canPay) := goodIn_app (goodIn_of _ (by decide +kernel)) ggX2_renew_X2_canPay
set_option maxRecDepth 20000 in
theorem ggX2_renew_X2_checkPossible : GoodIn wsX2_renew wsX2_checkPossible := goodIn_ca (goodIn_r _ [24, 25, 26] (by decide +kernel) (by decide +kernel)) (goodIn_sub (fun _ h => List.mem_cons_of_mem _ (List.mem_append_right _ h)) (by decide +kernel))
set_option maxRecDepth 20000 in
theorem gX2_renew_X2_checkPossible : GoodIn wsX2_renew (va_wsS RX2 40 yX2_checkPossible wsX2_checkPossible) := goodIn_app (goodIn_of _ (by decide +kernel)) ggX2_renew_X2_checkPossible
set_option maxRecDepth 20000 in
theorem ggX2_renew_X2_pay : GoodIn wsX2_renew wsX2_pay := goodIn_r _ [30, 21, 31, 17, 18, 19, 5, 20, 32, 33, 34, 35, 36, 37] (by decide +kernel) (by decide +kernel)
set_option maxRecDepth 20000 in
theorem gX2_renew_X2_pay : GoodIn wsX2_renew (wsV RX2 81 RX2 yX2_pay wsX2_pay) := goodIn_app (goodIn_of _ (by decide +kernel)) ggX2_renew_X2_pay
theorem dX2_renew_0 : decode cX2_renew 0 = .ok (.iload_n 1, 1) := by decide +kernel
theorem dX2_renew_1 : decode cX2_renew 1 = .ok (.bipush 16, 2) := by decide +kernel
theorem dX2_renew_3 : decode cX2_renew 3 = .ok (.invokestatic 27, 3) := by decide +kernel
theorem dX2_renew_6 : decode cX2_renew 6 = .ok (.iload_n 2, 1) := by decide +kernel
theorem dX2_renew_7 : decode cX2_renew 7 = .ok (.iconst 1, 1) := by decide +kernel
theorem dX2_renew_8 : decode cX2_renew 8 = .ok (.iconst 5, 1) := by decide +kernel
theorem dX2_renew_9 : decode cX2_renew 9 = .ok (.invokestatic 32, 3) := by decide +kernel
theorem dX2_renew_12 : decode cX2_renew 12 = .ok (.aload_n 0, 1) := by decide +kernel
theorem dX2_renew_13 : decode cX2_renew 13 = .ok (.getfield 15, 3) := by decide +kernel
theorem dX2_renew_16 : decode cX2_renew 16 = .ok (.iload_n 1, 1) := by decide +kernel
theorem dX2_renew_17 : decode cX2_renew 17 = .ok (.aaload, 1) := by decide +kernel
theorem dX2_renew_18 : decode cX2_renew 18 = .ok (.astore_n 3, 1) := by decide +kernel
theorem dX2_renew_19 : decode cX2_renew 19 = .ok (.aload_n 3, 1) := by decide +kernel
theorem dX2_renew_20 : decode cX2_renew 20 = .ok (.getfield 67, 3) := by decide +kernel
theorem dX2_renew_23 : decode cX2_renew 23 = .ok (.iload_n 2, 1) := by decide +kernel
theorem dX2_renew_24 : decode cX2_renew 24 = .ok (.bipush 100, 2) := by decide +kernel
theorem dX2_renew_26 : decode cX2_renew 26 = .ok (.imul, 1) := by decide +kernel
theorem dX2_renew_27 : decode cX2_renew 27 = .ok (.iadd, 1) := by decide +kernel
theorem dX2_renew_28 : decode cX2_renew 28 = .ok (.istore 4, 2) := by decide +kernel
theorem dX2_renew_30 : decode cX2_renew 30 = .ok (.iload_n 2, 1) := by decide +kernel
theorem dX2_renew_31 : decode cX2_renew 31 = .ok (.bipush 20, 2) := by decide +kernel
theorem dX2_renew_33 : decode cX2_renew 33 = .ok (.imul, 1) := by decide +kernel
theorem dX2_renew_34 : decode cX2_renew 34 = .ok (.istore 5, 2) := by decide +kernel
theorem dX2_renew_36 : decode cX2_renew 36 = .ok (.aload_n 3, 1) := by decide +kernel
theorem dX2_renew_37 : decode cX2_renew 37 = .ok (.getfield 36, 3) := by decide +kernel
theorem dX2_renew_40 : decode cX2_renew 40 = .ok (.invokestatic 70, 3) := by decide +kernel
theorem dX2_renew_43 : decode cX2_renew 43 = .ok (.ifCond .eq 33, 3) := by decide +kernel
theorem dX2_renew_46 : decode cX2_renew 46 = .ok (.iload 4, 2) := by decide +kernel
theorem dX2_renew_48 : decode cX2_renew 48 = .ok (.aload_n 0, 1) := by decide +kernel
theorem dX2_renew_49 : decode cX2_renew 49 = .ok (.getfield 44, 3) := by decide +kernel
theorem dX2_renew_52 : decode cX2_renew 52 = .ok (.sipush 600, 3) := by decide +kernel
theorem dX2_renew_55 : decode cX2_renew 55 = .ok (.iadd, 1) := by decide +kernel
theorem dX2_renew_56 : decode cX2_renew 56 = .ok (.if_icmp .gt 20, 3) := by decide +kernel
theorem dX2_renew_59 : decode cX2_renew 59 = .ok (.aload_n 0, 1) := by decide +kernel
theorem dX2_renew_60 : decode cX2_renew 60 = .ok (.aload_n 3, 1) := by decide +kernel
theorem dX2_renew_61 : decode cX2_renew 61 = .ok (.getfield 74, 3) := by decide +kernel
theorem dX2_renew_64 : decode cX2_renew 64 = .ok (.iload 5, 2) := by decide +kernel
theorem dX2_renew_66 : decode cX2_renew 66 = .ok (.invokevirtual 77, 3) := by decide +kernel
theorem dX2_renew_69 : decode cX2_renew 69 = .ok (.ifCond .eq 7, 3) := by decide +kernel
theorem dX2_renew_72 : decode cX2_renew 72 = .ok (.iconst 1, 1) := by decide +kernel
theorem dX2_renew_73 : decode cX2_renew 73 = .ok (.goto 4, 3) := by decide +kernel
theorem dX2_renew_76 : decode cX2_renew 76 = .ok (.iconst 0, 1) := by decide +kernel
theorem dX2_renew_77 : decode cX2_renew 77 = .ok (.invokestatic 40, 3) := by decide +kernel
theorem dX2_renew_80 : decode cX2_renew 80 = .ok (.aload_n 0, 1) := by decide +kernel
theorem dX2_renew_81 : decode cX2_renew 81 = .ok (.aload_n 3, 1) := by decide +kernel
theorem dX2_renew_82 : decode cX2_renew 82 = .ok (.getfield 74, 3) := by decide +kernel
theorem dX2_renew_85 : decode cX2_renew 85 = .ok (.iload 5, 2) := by decide +kernel
theorem dX2_renew_87 : decode cX2_renew 87 = .ok (.invokevirtual 81, 3) := by decide +kernel
theorem dX2_renew_90 : decode cX2_renew 90 = .ok (.aload_n 3, 1) := by decide +kernel
theorem dX2_renew_91 : decode cX2_renew 91 = .ok (.iload 4, 2) := by decide +kernel
theorem dX2_renew_93 : decode cX2_renew 93 = .ok (.putfield 67, 3) := by decide +kernel
theorem dX2_renew_96 : decode cX2_renew 96 = .ok (.aload_n 3, 1) := by decide +kernel
theorem dX2_renew_97 : decode cX2_renew 97 = .ok (.iconst 2, 1) := by decide +kernel
theorem dX2_renew_98 : decode cX2_renew 98 = .ok (.putfield 36, 3) := by decide +kernel
theorem dX2_renew_101 : decode cX2_renew 101 = .ok (.iload 4, 2) := by decide +kernel
theorem dX2_renew_103 : decode cX2_renew 103 = .ok (.ireturn, 1) := by decide +kernel
set_option maxRecDepth 20000 in
theorem ggX2_redeem_X2_checkIndex : GoodIn wsX2_redeem wsX2_checkIndex := goodIn_ca (goodIn_r _ [6, 7, 8] (by decide +kernel) (by decide +kernel)) (goodIn_sub (fun _ h => List.mem_cons_of_mem _ (List.mem_append_left _ (List.mem_append_right _ h))) (by decide +kernel))
set_option maxRecDepth 20000 in
theorem gX2_redeem_X2_checkIndex : GoodIn wsX2_redeem (va_wsS RX2 27 yX2_checkIndex wsX2_checkIndex) := goodIn_app (goodIn_of _ (by decide +kernel)) ggX2_redeem_X2_checkIndex
set_option maxRecDepth 20000 in
theorem ggX2_redeem_X2_canPay : GoodIn wsX2_redeem wsX2_canPay := goodIn_r _ [12, 13, 42, 43, 44, 45, 46, 47] (by decide +kernel) (by decide +kernel)
set_option maxRecDepth 20000 in
theorem gX2_redeem_X2_canPay : GoodIn wsX2_redeem (wsV RX2 77 RX2 yX2_canPay wsX2_canPay) := goodIn_app (goodIn_of _ (by decide +kernel)) ggX2_redeem_X2_canPay
set_option maxRecDepth 20000 in
theorem ggX2_redeem_X2_checkPossible : GoodIn wsX2_redeem wsX2_checkPossible := goodIn_ca (goodIn_r _ [16, 17, 18] (by decide +kernel) (by decide +kernel)) (goodIn_sub (fun _ h => List.mem_cons_of_mem _ (List.mem_append_right _ h)) (by decide +kernel))
set_option maxRecDepth 20000 in
theorem gX2_redeem_X2_checkPossible : GoodIn wsX2_redeem (va_wsS RX2 40 yX2_checkPossible wsX2_checkPossible) := goodIn_app (goodIn_of _ (by decide +kernel)) ggX2_redeem_X2_checkPossible
set_option maxRecDepth 20000 in
theorem ggX2_redeem_X2_pay : GoodIn wsX2_redeem wsX2_pay := goodIn_r _ [22, 13, 23, 9, 10, 11, 5, 12, 42, 43, 44, 45, 46, 47] (by decide +kernel) (by decide +kernel)
set_option maxRecDepth 20000 in
theorem gX2_redeem_X2_pay : GoodIn wsX2_redeem (wsV RX2 81 RX2 yX2_pay wsX2_pay) := goodIn_app (goodIn_of _ (by decide +kernel)) ggX2_redeem_X2_pay
set_option maxRecDepth 20000 in
theorem ggX2_redeem_X0_leaseTo : GoodIn wsX2_redeem wsX0_leaseTo := goodIn_r _ [27, 28, 29, 30, 31, 32, 33, 34, 35, 25, 36, 37, 38, 39, 40, 41, 48, 49, 50, 51, 52, 53, 54, 55, 56, 57, 58] (by decide +kernel) (by decide +kernel)
set_option maxRecDepth 20000 in
theorem gX2_redeem_X0_leaseTo_n84 : GoodIn wsX2_redeem (wsX0_leaseTo) := ggX2_redeem_X0_leaseTo
theorem dX2_redeem_0 : decode cX2_redeem 0 = .ok (.iload_n 1, 1) := by decide +kernel
theorem dX2_redeem_1 : decode cX2_redeem 1 = .ok (.bipush 16, 2) := by decide +kernel
theorem dX2_redeem_3 : decode cX2_redeem 3 = .ok (.invokestatic 27, 3) := by decide +kernel
theorem dX2_redeem_6 : decode cX2_redeem 6 = .ok (.aload_n 0, 1) := by decide +kernel
theorem dX2_redeem_7 : decode cX2_redeem 7 = .ok (.getfield 15, 3) := by decide +kernel
theorem dX2_redeem_10 : decode cX2_redeem 10 = .ok (.iload_n 1, 1) := by decide +kernel
theorem dX2_redeem_11 : decode cX2_redeem 11 = .ok (.aaload, 1) := by decide +kernel
theorem dX2_redeem_12 : decode cX2_redeem 12 = .ok (.astore_n 2, 1) := by decide +kernel
theorem dX2_redeem_13 : decode cX2_redeem 13 = .ok (.aload_n 2, 1) := by decide +kernel
theorem dX2_redeem_14 : decode cX2_redeem 14 = .ok (.getfield 36, 3) := by decide +kernel
theorem dX2_redeem_17 : decode cX2_redeem 17 = .ok (.iconst 4, 1) := by decide +kernel
theorem dX2_redeem_18 : decode cX2_redeem 18 = .ok (.if_icmp .ne 20, 3) := by decide +kernel
theorem dX2_redeem_21 : decode cX2_redeem 21 = .ok (.aload_n 0, 1) := by decide +kernel
theorem dX2_redeem_22 : decode cX2_redeem 22 = .ok (.aload_n 2, 1) := by decide +kernel
theorem dX2_redeem_23 : decode cX2_redeem 23 = .ok (.getfield 74, 3) := by decide +kernel
theorem dX2_redeem_26 : decode cX2_redeem 26 = .ok (.bipush 50, 2) := by decide +kernel
theorem dX2_redeem_28 : decode cX2_redeem 28 = .ok (.invokevirtual 77, 3) := by decide +kernel
theorem dX2_redeem_31 : decode cX2_redeem 31 = .ok (.ifCond .eq 7, 3) := by decide +kernel
theorem dX2_redeem_34 : decode cX2_redeem 34 = .ok (.iconst 1, 1) := by decide +kernel
theorem dX2_redeem_35 : decode cX2_redeem 35 = .ok (.goto 4, 3) := by decide +kernel
theorem dX2_redeem_38 : decode cX2_redeem 38 = .ok (.iconst 0, 1) := by decide +kernel
theorem dX2_redeem_39 : decode cX2_redeem 39 = .ok (.invokestatic 40, 3) := by decide +kernel
theorem dX2_redeem_42 : decode cX2_redeem 42 = .ok (.aload_n 0, 1) := by decide +kernel
theorem dX2_redeem_43 : decode cX2_redeem 43 = .ok (.aload_n 2, 1) := by decide +kernel
theorem dX2_redeem_44 : decode cX2_redeem 44 = .ok (.getfield 74, 3) := by decide +kernel
theorem dX2_redeem_47 : decode cX2_redeem 47 = .ok (.bipush 50, 2) := by decide +kernel
theorem dX2_redeem_49 : decode cX2_redeem 49 = .ok (.invokevirtual 81, 3) := by decide +kernel
theorem dX2_redeem_52 : decode cX2_redeem 52 = .ok (.aload_n 2, 1) := by decide +kernel
theorem dX2_redeem_53 : decode cX2_redeem 53 = .ok (.aload_n 2, 1) := by decide +kernel
theorem dX2_redeem_54 : decode cX2_redeem 54 = .ok (.getfield 74, 3) := by decide +kernel
theorem dX2_redeem_57 : decode cX2_redeem 57 = .ok (.aload_n 0, 1) := by decide +kernel
theorem dX2_redeem_58 : decode cX2_redeem 58 = .ok (.getfield 44, 3) := by decide +kernel
theorem dX2_redeem_61 : decode cX2_redeem 61 = .ok (.invokevirtual 84, 3) := by decide +kernel
theorem dX2_redeem_64 : decode cX2_redeem 64 = .ok (.aload_n 2, 1) := by decide +kernel
theorem dX2_redeem_65 : decode cX2_redeem 65 = .ok (.getfield 67, 3) := by decide +kernel
theorem dX2_redeem_68 : decode cX2_redeem 68 = .ok (.ireturn, 1) := by decide +kernel
set_option maxRecDepth 20000 in
theorem ggX2_setRecord_X2_checkIndex : GoodIn wsX2_setRecord wsX2_checkIndex := goodIn_ca (goodIn_r _ [5, 6, 7] (by decide +kernel) (by decide +kernel)) (goodIn_sub (fun _ h => List.mem_cons_of_mem _ (List.mem_append_left _ (List.mem_append_left _ (List.mem_append_right _ h)))) (by decide +kernel))
set_option maxRecDepth 20000 in
theorem gX2_setRecord_X2_checkIndex : GoodIn wsX2_setRecord (va_wsS RX2 27 yX2_checkIndex wsX2_checkIndex) := goodIn_app (goodIn_of _ (by decide +kernel)) ggX2_setRecord_X2_checkIndex
set_option maxRecDepth 20000 in
theorem ggX2_setRecord_X2_checkRange : GoodIn wsX2_setRecord wsX2_checkRange := goodIn_ca (goodIn_r _ [10, 11, 12] (by decide +kernel) (by decide +kernel)) (goodIn_sub (fun _ h => List.mem_cons_of_mem _ (List.mem_append_left _ (List.mem_append_right _ h))) (by decide +kernel))
set_option maxRecDepth 20000 in
theorem gX2_setRecord_X2_checkRange : GoodIn wsX2_setRecord (va_wsS RX2 32 yX2_checkRange wsX2_checkRange) := goodIn_app (goodIn_of _ (by decide +kernel)) ggX2_setRecord_X2_checkRange
set_option maxRecDepth 20000 in
theorem ggX2_setRecord_X2_checkPossible : GoodIn wsX2_setRecord wsX2_checkPossible := goodIn_ca (goodIn_r _ [15, 16, 17] (by decide +kernel) (by decide +kernel)) (goodIn_sub (fun _ h => List.mem_cons_of_mem _ (List.mem_append_right _ h)) (by decide +kernel))
set_option maxRecDepth 20000 in
theorem gX2_setRecord_X2_checkPossible : GoodIn wsX2_setRecord (va_wsS RX2 40 yX2_checkPossible wsX2_checkPossible) := goodIn_app (goodIn_of _ (by decide +kernel)) ggX2_setRecord_X2_checkPossible
theorem dX2_setRecord_0 : decode cX2_setRecord 0 = .ok (.iload_n 1, 1) := by decide +kernel
theorem dX2_setRecord_1 : decode cX2_setRecord 1 = .ok (.bipush 16, 2) := by decide +kernel
theorem dX2_setRecord_3 : decode cX2_setRecord 3 = .ok (.invokestatic 27, 3) := by decide +kernel
theorem dX2_setRecord_6 : decode cX2_setRecord 6 = .ok (.iload_n 2, 1) := by decide +kernel
theorem dX2_setRecord_7 : decode cX2_setRecord 7 = .ok (.iconst 0, 1) := by decide +kernel
theorem dX2_setRecord_8 : decode cX2_setRecord 8 = .ok (.sipush 999, 3) := by decide +kernel
theorem dX2_setRecord_11 : decode cX2_setRecord 11 = .ok (.invokestatic 32, 3) := by decide +kernel
theorem dX2_setRecord_14 : decode cX2_setRecord 14 = .ok (.iload_n 3, 1) := by decide +kernel
theorem dX2_setRecord_15 : decode cX2_setRecord 15 = .ok (.iconst 1, 1) := by decide +kernel
theorem dX2_setRecord_16 : decode cX2_setRecord 16 = .ok (.bipush 50, 2) := by decide +kernel
theorem dX2_setRecord_18 : decode cX2_setRecord 18 = .ok (.invokestatic 32, 3) := by decide +kernel
theorem dX2_setRecord_21 : decode cX2_setRecord 21 = .ok (.aload_n 0, 1) := by decide +kernel
theorem dX2_setRecord_22 : decode cX2_setRecord 22 = .ok (.getfield 15, 3) := by decide +kernel
theorem dX2_setRecord_25 : decode cX2_setRecord 25 = .ok (.iload_n 1, 1) := by decide +kernel
theorem dX2_setRecord_26 : decode cX2_setRecord 26 = .ok (.aaload, 1) := by decide +kernel
theorem dX2_setRecord_27 : decode cX2_setRecord 27 = .ok (.astore 4, 2) := by decide +kernel
theorem dX2_setRecord_29 : decode cX2_setRecord 29 = .ok (.aload 4, 2) := by decide +kernel
theorem dX2_setRecord_31 : decode cX2_setRecord 31 = .ok (.getfield 36, 3) := by decide +kernel
theorem dX2_setRecord_34 : decode cX2_setRecord 34 = .ok (.iconst 2, 1) := by decide +kernel
theorem dX2_setRecord_35 : decode cX2_setRecord 35 = .ok (.if_icmp .ne 7, 3) := by decide +kernel
theorem dX2_setRecord_38 : decode cX2_setRecord 38 = .ok (.iconst 1, 1) := by decide +kernel
theorem dX2_setRecord_39 : decode cX2_setRecord 39 = .ok (.goto 4, 3) := by decide +kernel
theorem dX2_setRecord_42 : decode cX2_setRecord 42 = .ok (.iconst 0, 1) := by decide +kernel
theorem dX2_setRecord_43 : decode cX2_setRecord 43 = .ok (.invokestatic 40, 3) := by decide +kernel
theorem dX2_setRecord_46 : decode cX2_setRecord 46 = .ok (.aload 4, 2) := by decide +kernel
theorem dX2_setRecord_48 : decode cX2_setRecord 48 = .ok (.getfield 87, 3) := by decide +kernel
theorem dX2_setRecord_51 : decode cX2_setRecord 51 = .ok (.istore 5, 2) := by decide +kernel
theorem dX2_setRecord_53 : decode cX2_setRecord 53 = .ok (.aload 4, 2) := by decide +kernel
theorem dX2_setRecord_55 : decode cX2_setRecord 55 = .ok (.iload_n 2, 1) := by decide +kernel
theorem dX2_setRecord_56 : decode cX2_setRecord 56 = .ok (.putfield 87, 3) := by decide +kernel
theorem dX2_setRecord_59 : decode cX2_setRecord 59 = .ok (.aload 4, 2) := by decide +kernel
theorem dX2_setRecord_61 : decode cX2_setRecord 61 = .ok (.iload_n 3, 1) := by decide +kernel
theorem dX2_setRecord_62 : decode cX2_setRecord 62 = .ok (.putfield 90, 3) := by decide +kernel
theorem dX2_setRecord_65 : decode cX2_setRecord 65 = .ok (.iload 5, 2) := by decide +kernel
theorem dX2_setRecord_67 : decode cX2_setRecord 67 = .ok (.ireturn, 1) := by decide +kernel
set_option maxRecDepth 20000 in
theorem ggX2_state_X2_checkIndex : GoodIn wsX2_state wsX2_checkIndex := goodIn_ca (goodIn_r _ [5, 6, 7] (by decide +kernel) (by decide +kernel)) (goodIn_sub (fun _ h => List.mem_cons_of_mem _ (List.mem_append_right _ h)) (by decide +kernel))
set_option maxRecDepth 20000 in
theorem gX2_state_X2_checkIndex : GoodIn wsX2_state (va_wsS RX2 27 yX2_checkIndex wsX2_checkIndex) := goodIn_app (goodIn_of _ (by decide +kernel)) ggX2_state_X2_checkIndex
theorem dX2_state_0 : decode cX2_state 0 = .ok (.iload_n 1, 1) := by decide +kernel
theorem dX2_state_1 : decode cX2_state 1 = .ok (.bipush 16, 2) := by decide +kernel
theorem dX2_state_3 : decode cX2_state 3 = .ok (.invokestatic 27, 3) := by decide +kernel
theorem dX2_state_6 : decode cX2_state 6 = .ok (.aload_n 0, 1) := by decide +kernel
theorem dX2_state_7 : decode cX2_state 7 = .ok (.getfield 15, 3) := by decide +kernel
theorem dX2_state_10 : decode cX2_state 10 = .ok (.iload_n 1, 1) := by decide +kernel
theorem dX2_state_11 : decode cX2_state 11 = .ok (.aaload, 1) := by decide +kernel
theorem dX2_state_12 : decode cX2_state 12 = .ok (.getfield 36, 3) := by decide +kernel
theorem dX2_state_15 : decode cX2_state 15 = .ok (.ireturn, 1) := by decide +kernel
set_option maxRecDepth 20000 in
theorem ggX2_sign_X2_checkIndex : GoodIn wsX2_sign wsX2_checkIndex := goodIn_ca (goodIn_r _ [5, 6, 7] (by decide +kernel) (by decide +kernel)) (goodIn_sub (fun _ h => List.mem_cons_of_mem _ (List.mem_append_right _ h)) (by decide +kernel))
set_option maxRecDepth 20000 in
theorem gX2_sign_X2_checkIndex : GoodIn wsX2_sign (va_wsS RX2 27 yX2_checkIndex wsX2_checkIndex) := goodIn_app (goodIn_of _ (by decide +kernel)) ggX2_sign_X2_checkIndex
set_option maxRecDepth 20000 in
theorem ggX2_sign_X2_wordOf : GoodIn wsX2_sign wsX2_wordOf := goodIn_r _ [10] (by decide +kernel) (by decide +kernel)
set_option maxRecDepth 20000 in
theorem gX2_sign_X2_wordOf : GoodIn wsX2_sign (va_wsS RX2 93 yX2_wordOf wsX2_wordOf) := goodIn_app (goodIn_of _ (by decide +kernel)) ggX2_sign_X2_wordOf
set_option maxRecDepth 20000 in
theorem ggX2_sign_J0_length_8abf5 : GoodIn wsX2_sign wsJ0_length_8abf5 := goodIn_r _ [15, 16, 17, 18, 19, 14, 20, 21, 22] (by decide +kernel) (by decide +kernel)
set_option maxRecDepth 20000 in
theorem gX2_sign_J0_length_8abf5 : GoodIn wsX2_sign (wsV RX2 97 RJ0 yJ0_length_8abf5 wsJ0_length_8abf5) := goodIn_app (goodIn_of _ (by decide +kernel)) ggX2_sign_J0_length_8abf5
set_option maxRecDepth 20000 in
theorem ggX2_sign_J0_charAt_5068e : GoodIn wsX2_sign wsJ0_charAt_5068e := goodIn_r _ [26, 16, 27, 28, 29, 14, 30, 21, 22, 31, 32, 33, 34, 35, 36, 37, 38, 39, 40, 41, 42, 43, 44, 45, 46, 47, 48, 49, 50, 51, 52, 53, 54, 55, 56, 57, 58, 59] (by decide +kernel) (by decide +kernel)
set_option maxRecDepth 20000 in
theorem gX2_sign_J0_charAt_5068e : GoodIn wsX2_sign (wsV RX2 102 RJ0 yJ0_charAt_5068e wsJ0_charAt_5068e) := goodIn_app (goodIn_of _ (by decide +kernel)) ggX2_sign_J0_charAt_5068e
theorem dX2_sign_0 : decode cX2_sign 0 = .ok (.iload_n 1, 1) := by decide +kernel
theorem dX2_sign_1 : decode cX2_sign 1 = .ok (.bipush 16, 2) := by decide +kernel
theorem dX2_sign_3 : decode cX2_sign 3 = .ok (.invokestatic 27, 3) := by decide +kernel
theorem dX2_sign_6 : decode cX2_sign 6 = .ok (.aload_n 0, 1) := by decide +kernel
theorem dX2_sign_7 : decode cX2_sign 7 = .ok (.getfield 15, 3) := by decide +kernel
theorem dX2_sign_10 : decode cX2_sign 10 = .ok (.iload_n 1, 1) := by decide +kernel
theorem dX2_sign_11 : decode cX2_sign 11 = .ok (.aaload, 1) := by decide +kernel
theorem dX2_sign_12 : decode cX2_sign 12 = .ok (.astore_n 3, 1) := by decide +kernel
theorem dX2_sign_13 : decode cX2_sign 13 = .ok (.aload_n 3, 1) := by decide +kernel
theorem dX2_sign_14 : decode cX2_sign 14 = .ok (.getfield 36, 3) := by decide +kernel
theorem dX2_sign_17 : decode cX2_sign 17 = .ok (.invokestatic 93, 3) := by decide +kernel
theorem dX2_sign_20 : decode cX2_sign 20 = .ok (.astore 4, 2) := by decide +kernel
theorem dX2_sign_22 : decode cX2_sign 22 = .ok (.aload 4, 2) := by decide +kernel
theorem dX2_sign_24 : decode cX2_sign 24 = .ok (.invokevirtual 97, 3) := by decide +kernel
theorem dX2_sign_27 : decode cX2_sign 27 = .ok (.iconst 1, 1) := by decide +kernel
theorem dX2_sign_28 : decode cX2_sign 28 = .ok (.iadd, 1) := by decide +kernel
theorem dX2_sign_29 : decode cX2_sign 29 = .ok (.istore 5, 2) := by decide +kernel
theorem dX2_sign_31 : decode cX2_sign 31 = .ok (.iload_n 2, 1) := by decide +kernel
theorem dX2_sign_32 : decode cX2_sign 32 = .ok (.aload_n 3, 1) := by decide +kernel
theorem dX2_sign_33 : decode cX2_sign 33 = .ok (.getfield 74, 3) := by decide +kernel
theorem dX2_sign_36 : decode cX2_sign 36 = .ok (.iconst (-1), 1) := by decide +kernel
theorem dX2_sign_37 : decode cX2_sign 37 = .ok (.if_icmp .ne 11, 3) := by decide +kernel
theorem dX2_sign_40 : decode cX2_sign 40 = .ok (.aload 4, 2) := by decide +kernel
theorem dX2_sign_42 : decode cX2_sign 42 = .ok (.invokevirtual 97, 3) := by decide +kernel
theorem dX2_sign_45 : decode cX2_sign 45 = .ok (.goto 7, 3) := by decide +kernel
theorem dX2_sign_48 : decode cX2_sign 48 = .ok (.iload 5, 2) := by decide +kernel
theorem dX2_sign_50 : decode cX2_sign 50 = .ok (.iconst 1, 1) := by decide +kernel
theorem dX2_sign_51 : decode cX2_sign 51 = .ok (.iadd, 1) := by decide +kernel
theorem dX2_sign_52 : decode cX2_sign 52 = .ok (.invokestatic 27, 3) := by decide +kernel
theorem dX2_sign_55 : decode cX2_sign 55 = .ok (.iload_n 2, 1) := by decide +kernel
theorem dX2_sign_56 : decode cX2_sign 56 = .ok (.aload 4, 2) := by decide +kernel
theorem dX2_sign_58 : decode cX2_sign 58 = .ok (.invokevirtual 97, 3) := by decide +kernel
theorem dX2_sign_61 : decode cX2_sign 61 = .ok (.if_icmp .ge 10, 3) := by decide +kernel
theorem dX2_sign_64 : decode cX2_sign 64 = .ok (.aload 4, 2) := by decide +kernel
theorem dX2_sign_66 : decode cX2_sign 66 = .ok (.iload_n 2, 1) := by decide +kernel
theorem dX2_sign_67 : decode cX2_sign 67 = .ok (.invokevirtual 102, 3) := by decide +kernel
theorem dX2_sign_70 : decode cX2_sign 70 = .ok (.ireturn, 1) := by decide +kernel
theorem dX2_sign_71 : decode cX2_sign 71 = .ok (.iload_n 2, 1) := by decide +kernel
theorem dX2_sign_72 : decode cX2_sign 72 = .ok (.iload 5, 2) := by decide +kernel
theorem dX2_sign_74 : decode cX2_sign 74 = .ok (.if_icmp .ne 14, 3) := by decide +kernel
theorem dX2_sign_77 : decode cX2_sign 77 = .ok (.bipush 48, 2) := by decide +kernel
theorem dX2_sign_79 : decode cX2_sign 79 = .ok (.aload_n 3, 1) := by decide +kernel
theorem dX2_sign_80 : decode cX2_sign 80 = .ok (.getfield 74, 3) := by decide +kernel
theorem dX2_sign_83 : decode cX2_sign 83 = .ok (.iadd, 1) := by decide +kernel
theorem dX2_sign_84 : decode cX2_sign 84 = .ok (.i2c, 1) := by decide +kernel
theorem dX2_sign_85 : decode cX2_sign 85 = .ok (.goto 5, 3) := by decide +kernel
theorem dX2_sign_88 : decode cX2_sign 88 = .ok (.bipush 58, 2) := by decide +kernel
theorem dX2_sign_90 : decode cX2_sign 90 = .ok (.ireturn, 1) := by decide +kernel
set_option maxRecDepth 20000 in
theorem ggX2_owner_X2_checkIndex : GoodIn wsX2_owner wsX2_checkIndex := goodIn_ca (goodIn_r _ [5, 6, 7] (by decide +kernel) (by decide +kernel)) (goodIn_sub (fun _ h => List.mem_cons_of_mem _ (List.mem_append_right _ h)) (by decide +kernel))
set_option maxRecDepth 20000 in
theorem gX2_owner_X2_checkIndex : GoodIn wsX2_owner (va_wsS RX2 27 yX2_checkIndex wsX2_checkIndex) := goodIn_app (goodIn_of _ (by decide +kernel)) ggX2_owner_X2_checkIndex
theorem dX2_owner_0 : decode cX2_owner 0 = .ok (.iload_n 1, 1) := by decide +kernel
theorem dX2_owner_1 : decode cX2_owner 1 = .ok (.bipush 16, 2) := by decide +kernel
theorem dX2_owner_3 : decode cX2_owner 3 = .ok (.invokestatic 27, 3) := by decide +kernel
theorem dX2_owner_6 : decode cX2_owner 6 = .ok (.aload_n 0, 1) := by decide +kernel
theorem dX2_owner_7 : decode cX2_owner 7 = .ok (.getfield 15, 3) := by decide +kernel
theorem dX2_owner_10 : decode cX2_owner 10 = .ok (.iload_n 1, 1) := by decide +kernel
theorem dX2_owner_11 : decode cX2_owner 11 = .ok (.aaload, 1) := by decide +kernel
theorem dX2_owner_12 : decode cX2_owner 12 = .ok (.getfield 74, 3) := by decide +kernel
theorem dX2_owner_15 : decode cX2_owner 15 = .ok (.ireturn, 1) := by decide +kernel
set_option maxRecDepth 20000 in
theorem ggX2_next_X2_checkIndex : GoodIn wsX2_next wsX2_checkIndex := goodIn_ca (goodIn_r _ [5, 6, 7] (by decide +kernel) (by decide +kernel)) (goodIn_sub (fun _ h => List.mem_cons_of_mem _ (List.mem_append_right _ h)) (by decide +kernel))
set_option maxRecDepth 20000 in
theorem gX2_next_X2_checkIndex : GoodIn wsX2_next (va_wsS RX2 27 yX2_checkIndex wsX2_checkIndex) := goodIn_app (goodIn_of _ (by decide +kernel)) ggX2_next_X2_checkIndex
set_option maxRecDepth 20000 in
theorem ggX2_next_X0_dayOfChange : GoodIn wsX2_next wsX0_dayOfChange := goodIn_r _ [11, 12, 13, 14, 21, 22, 23, 24, 25, 26, 27, 28, 29, 30, 31] (by decide +kernel) (by decide +kernel)
set_option maxRecDepth 20000 in
theorem gX2_next_X0_dayOfChange_n106 : GoodIn wsX2_next (wsX0_dayOfChange) := ggX2_next_X0_dayOfChange
theorem dX2_next_0 : decode cX2_next 0 = .ok (.iload_n 1, 1) := by decide +kernel
theorem dX2_next_1 : decode cX2_next 1 = .ok (.bipush 16, 2) := by decide +kernel
theorem dX2_next_3 : decode cX2_next 3 = .ok (.invokestatic 27, 3) := by decide +kernel
theorem dX2_next_6 : decode cX2_next 6 = .ok (.aload_n 0, 1) := by decide +kernel
theorem dX2_next_7 : decode cX2_next 7 = .ok (.getfield 15, 3) := by decide +kernel
theorem dX2_next_10 : decode cX2_next 10 = .ok (.iload_n 1, 1) := by decide +kernel
theorem dX2_next_11 : decode cX2_next 11 = .ok (.aaload, 1) := by decide +kernel
theorem dX2_next_12 : decode cX2_next 12 = .ok (.invokevirtual 106, 3) := by decide +kernel
theorem dX2_next_15 : decode cX2_next 15 = .ok (.ireturn, 1) := by decide +kernel
set_option maxRecDepth 20000 in
theorem ggX2_dispute_X2_checkIndex : GoodIn wsX2_dispute wsX2_checkIndex := goodIn_ca (goodIn_r _ [6, 7, 8] (by decide +kernel) (by decide +kernel)) (goodIn_sub (fun _ h => List.mem_cons_of_mem _ (List.mem_append_left _ (List.mem_append_right _ h))) (by decide +kernel))
set_option maxRecDepth 20000 in
theorem gX2_dispute_X2_checkIndex : GoodIn wsX2_dispute (va_wsS RX2 27 yX2_checkIndex wsX2_checkIndex) := goodIn_app (goodIn_of _ (by decide +kernel)) ggX2_dispute_X2_checkIndex
set_option maxRecDepth 20000 in
theorem ggX2_dispute_X2_isHeld : GoodIn wsX2_dispute wsX2_isHeld := goodIn_r _ [11] (by decide +kernel) (by decide +kernel)
set_option maxRecDepth 20000 in
theorem gX2_dispute_X2_isHeld : GoodIn wsX2_dispute (va_wsS RX2 70 yX2_isHeld wsX2_isHeld) := goodIn_app (goodIn_of _ (by decide +kernel)) ggX2_dispute_X2_isHeld
set_option maxRecDepth 20000 in
theorem ggX2_dispute_X2_checkPossible : GoodIn wsX2_dispute wsX2_checkPossible := goodIn_ca (goodIn_r _ [14, 15, 16] (by decide +kernel) (by decide +kernel)) (goodIn_sub (fun _ h => List.mem_cons_of_mem _ (List.mem_append_right _ h)) (by decide +kernel))
set_option maxRecDepth 20000 in
theorem gX2_dispute_X2_checkPossible : GoodIn wsX2_dispute (va_wsS RX2 40 yX2_checkPossible wsX2_checkPossible) := goodIn_app (goodIn_of _ (by decide +kernel)) ggX2_dispute_X2_checkPossible
set_option maxRecDepth 20000 in
theorem ggX2_dispute_X0_freeze : GoodIn wsX2_dispute wsX0_freeze := goodIn_r _ [20, 21, 22, 23, 24, 25, 26, 27, 18, 28, 29, 30, 31, 32, 33, 40, 41, 42, 43, 44, 45, 46, 47, 48, 49, 50] (by decide +kernel) (by decide +kernel)
set_option maxRecDepth 20000 in
theorem gX2_dispute_X0_freeze_n109 : GoodIn wsX2_dispute (wsX0_freeze) := ggX2_dispute_X0_freeze
theorem dX2_dispute_0 : decode cX2_dispute 0 = .ok (.iload_n 1, 1) := by decide +kernel
theorem dX2_dispute_1 : decode cX2_dispute 1 = .ok (.bipush 6, 2) := by decide +kernel
theorem dX2_dispute_3 : decode cX2_dispute 3 = .ok (.invokestatic 27, 3) := by decide +kernel
theorem dX2_dispute_6 : decode cX2_dispute 6 = .ok (.iload_n 2, 1) := by decide +kernel
theorem dX2_dispute_7 : decode cX2_dispute 7 = .ok (.bipush 16, 2) := by decide +kernel
theorem dX2_dispute_9 : decode cX2_dispute 9 = .ok (.invokestatic 27, 3) := by decide +kernel
theorem dX2_dispute_12 : decode cX2_dispute 12 = .ok (.aload_n 0, 1) := by decide +kernel
theorem dX2_dispute_13 : decode cX2_dispute 13 = .ok (.getfield 15, 3) := by decide +kernel
theorem dX2_dispute_16 : decode cX2_dispute 16 = .ok (.iload_n 2, 1) := by decide +kernel
theorem dX2_dispute_17 : decode cX2_dispute 17 = .ok (.aaload, 1) := by decide +kernel
theorem dX2_dispute_18 : decode cX2_dispute 18 = .ok (.astore_n 3, 1) := by decide +kernel
theorem dX2_dispute_19 : decode cX2_dispute 19 = .ok (.aload_n 3, 1) := by decide +kernel
theorem dX2_dispute_20 : decode cX2_dispute 20 = .ok (.getfield 36, 3) := by decide +kernel
theorem dX2_dispute_23 : decode cX2_dispute 23 = .ok (.istore 4, 2) := by decide +kernel
theorem dX2_dispute_25 : decode cX2_dispute 25 = .ok (.iload 4, 2) := by decide +kernel
theorem dX2_dispute_27 : decode cX2_dispute 27 = .ok (.iconst 1, 1) := by decide +kernel
theorem dX2_dispute_28 : decode cX2_dispute 28 = .ok (.if_icmp .eq 11, 3) := by decide +kernel
theorem dX2_dispute_31 : decode cX2_dispute 31 = .ok (.iload 4, 2) := by decide +kernel
theorem dX2_dispute_33 : decode cX2_dispute 33 = .ok (.invokestatic 70, 3) := by decide +kernel
theorem dX2_dispute_36 : decode cX2_dispute 36 = .ok (.ifCond .eq 15, 3) := by decide +kernel
theorem dX2_dispute_39 : decode cX2_dispute 39 = .ok (.aload_n 3, 1) := by decide +kernel
theorem dX2_dispute_40 : decode cX2_dispute 40 = .ok (.getfield 74, 3) := by decide +kernel
theorem dX2_dispute_43 : decode cX2_dispute 43 = .ok (.iload_n 1, 1) := by decide +kernel
theorem dX2_dispute_44 : decode cX2_dispute 44 = .ok (.if_icmp .eq 7, 3) := by decide +kernel
theorem dX2_dispute_47 : decode cX2_dispute 47 = .ok (.iconst 1, 1) := by decide +kernel
theorem dX2_dispute_48 : decode cX2_dispute 48 = .ok (.goto 4, 3) := by decide +kernel
theorem dX2_dispute_51 : decode cX2_dispute 51 = .ok (.iconst 0, 1) := by decide +kernel
theorem dX2_dispute_52 : decode cX2_dispute 52 = .ok (.invokestatic 40, 3) := by decide +kernel
theorem dX2_dispute_55 : decode cX2_dispute 55 = .ok (.aload_n 3, 1) := by decide +kernel
theorem dX2_dispute_56 : decode cX2_dispute 56 = .ok (.iload_n 1, 1) := by decide +kernel
theorem dX2_dispute_57 : decode cX2_dispute 57 = .ok (.aload_n 0, 1) := by decide +kernel
theorem dX2_dispute_58 : decode cX2_dispute 58 = .ok (.getfield 44, 3) := by decide +kernel
theorem dX2_dispute_61 : decode cX2_dispute 61 = .ok (.invokevirtual 109, 3) := by decide +kernel
theorem dX2_dispute_64 : decode cX2_dispute 64 = .ok (.iload 4, 2) := by decide +kernel
theorem dX2_dispute_66 : decode cX2_dispute 66 = .ok (.ireturn, 1) := by decide +kernel
set_option maxRecDepth 20000 in
theorem ggX2_decide_X2_checkIndex : GoodIn wsX2_decide wsX2_checkIndex := goodIn_ca (goodIn_r _ [6, 7, 8] (by decide +kernel) (by decide +kernel)) (goodIn_sub (fun _ h => List.mem_cons_of_mem _ (List.mem_append_left _ (List.mem_append_right _ h))) (by decide +kernel))
set_option maxRecDepth 20000 in
theorem gX2_decide_X2_checkIndex : GoodIn wsX2_decide (va_wsS RX2 27 yX2_checkIndex wsX2_checkIndex) := goodIn_app (goodIn_of _ (by decide +kernel)) ggX2_decide_X2_checkIndex
set_option maxRecDepth 20000 in
theorem ggX2_decide_X2_checkPossible : GoodIn wsX2_decide wsX2_checkPossible := goodIn_ca (goodIn_r _ [11, 12, 13] (by decide +kernel) (by decide +kernel)) (goodIn_sub (fun _ h => List.mem_cons_of_mem _ (List.mem_append_right _ h)) (by decide +kernel))
set_option maxRecDepth 20000 in
theorem gX2_decide_X2_checkPossible : GoodIn wsX2_decide (va_wsS RX2 40 yX2_checkPossible wsX2_checkPossible) := goodIn_app (goodIn_of _ (by decide +kernel)) ggX2_decide_X2_checkPossible
set_option maxRecDepth 20000 in
theorem ggX2_decide_X0_thaw : GoodIn wsX2_decide wsX0_thaw := goodIn_r _ [17, 18, 19, 20, 21, 22, 23, 24, 25, 26, 15, 27, 28, 29, 30, 31, 32, 33, 34, 35, 36, 37, 38, 39, 40, 41, 42, 49, 50, 51, 52, 53, 54, 55, 56, 57, 58, 59] (by decide +kernel) (by decide +kernel)
set_option maxRecDepth 20000 in
theorem gX2_decide_X0_thaw_n112 : GoodIn wsX2_decide (wsX0_thaw) := ggX2_decide_X0_thaw
theorem dX2_decide_0 : decode cX2_decide 0 = .ok (.iload_n 1, 1) := by decide +kernel
theorem dX2_decide_1 : decode cX2_decide 1 = .ok (.bipush 16, 2) := by decide +kernel
theorem dX2_decide_3 : decode cX2_decide 3 = .ok (.invokestatic 27, 3) := by decide +kernel
theorem dX2_decide_6 : decode cX2_decide 6 = .ok (.aload_n 0, 1) := by decide +kernel
theorem dX2_decide_7 : decode cX2_decide 7 = .ok (.getfield 15, 3) := by decide +kernel
theorem dX2_decide_10 : decode cX2_decide 10 = .ok (.iload_n 1, 1) := by decide +kernel
theorem dX2_decide_11 : decode cX2_decide 11 = .ok (.aaload, 1) := by decide +kernel
theorem dX2_decide_12 : decode cX2_decide 12 = .ok (.astore_n 3, 1) := by decide +kernel
theorem dX2_decide_13 : decode cX2_decide 13 = .ok (.aload_n 3, 1) := by decide +kernel
theorem dX2_decide_14 : decode cX2_decide 14 = .ok (.getfield 36, 3) := by decide +kernel
theorem dX2_decide_17 : decode cX2_decide 17 = .ok (.iconst 5, 1) := by decide +kernel
theorem dX2_decide_18 : decode cX2_decide 18 = .ok (.if_icmp .ne 7, 3) := by decide +kernel
theorem dX2_decide_21 : decode cX2_decide 21 = .ok (.iconst 1, 1) := by decide +kernel
theorem dX2_decide_22 : decode cX2_decide 22 = .ok (.goto 4, 3) := by decide +kernel
theorem dX2_decide_25 : decode cX2_decide 25 = .ok (.iconst 0, 1) := by decide +kernel
theorem dX2_decide_26 : decode cX2_decide 26 = .ok (.invokestatic 40, 3) := by decide +kernel
theorem dX2_decide_29 : decode cX2_decide 29 = .ok (.aload_n 3, 1) := by decide +kernel
theorem dX2_decide_30 : decode cX2_decide 30 = .ok (.iload_n 2, 1) := by decide +kernel
theorem dX2_decide_31 : decode cX2_decide 31 = .ok (.aload_n 0, 1) := by decide +kernel
theorem dX2_decide_32 : decode cX2_decide 32 = .ok (.getfield 44, 3) := by decide +kernel
theorem dX2_decide_35 : decode cX2_decide 35 = .ok (.invokevirtual 112, 3) := by decide +kernel
theorem dX2_decide_38 : decode cX2_decide 38 = .ok (.aload_n 3, 1) := by decide +kernel
theorem dX2_decide_39 : decode cX2_decide 39 = .ok (.getfield 36, 3) := by decide +kernel
theorem dX2_decide_42 : decode cX2_decide 42 = .ok (.ireturn, 1) := by decide +kernel
set_option maxRecDepth 20000 in
theorem ggX2_pass_X2_checkRange : GoodIn wsX2_pass wsX2_checkRange := goodIn_ca (goodIn_r _ [5, 6, 7] (by decide +kernel) (by decide +kernel)) (goodIn_sub (fun _ h => List.mem_cons_of_mem _ (List.mem_append_right _ h)) (by decide +kernel))
set_option maxRecDepth 20000 in
theorem gX2_pass_X2_checkRange : GoodIn wsX2_pass (va_wsS RX2 32 yX2_checkRange wsX2_checkRange) := goodIn_app (goodIn_of _ (by decide +kernel)) ggX2_pass_X2_checkRange
set_option maxRecDepth 20000 in
theorem ggX2_pass_X2_changeNames : GoodIn wsX2_pass wsX2_changeNames := goodIn_r _ [11, 12, 1, 13, 14, 15, 16, 17, 18, 19, 20, 21, 22, 23, 24, 25, 26, 27, 28, 29, 30, 31, 32, 33, 34, 35, 36, 37, 38, 39, 4, 40, 41, 42, 43, 44, 45, 46, 47, 48, 49, 50, 51, 52, 53, 54, 55, 56, 57, 58, 59, 60, 61, 62, 63, 64, 65, 66, 67, 68, 69, 70, 71, 72, 73, 74, 75, 76, 77, 78, 79, 80] (by decide +kernel) (by decide +kernel)
set_option maxRecDepth 20000 in
theorem gX2_pass_X2_changeNames : GoodIn wsX2_pass (wsV RX2 116 RX2 yX2_changeNames wsX2_changeNames) := goodIn_app (goodIn_of _ (by decide +kernel)) ggX2_pass_X2_changeNames
theorem dX2_pass_0 : decode cX2_pass 0 = .ok (.iload_n 1, 1) := by decide +kernel
theorem dX2_pass_1 : decode cX2_pass 1 = .ok (.iconst 1, 1) := by decide +kernel
theorem dX2_pass_2 : decode cX2_pass 2 = .ok (.sipush 200, 3) := by decide +kernel
theorem dX2_pass_5 : decode cX2_pass 5 = .ok (.invokestatic 32, 3) := by decide +kernel
theorem dX2_pass_8 : decode cX2_pass 8 = .ok (.iconst 0, 1) := by decide +kernel
theorem dX2_pass_9 : decode cX2_pass 9 = .ok (.istore_n 2, 1) := by decide +kernel
theorem dX2_pass_10 : decode cX2_pass 10 = .ok (.iconst 0, 1) := by decide +kernel
theorem dX2_pass_11 : decode cX2_pass 11 = .ok (.istore_n 3, 1) := by decide +kernel
theorem dX2_pass_12 : decode cX2_pass 12 = .ok (.iload_n 3, 1) := by decide +kernel
theorem dX2_pass_13 : decode cX2_pass 13 = .ok (.iload_n 1, 1) := by decide +kernel
theorem dX2_pass_14 : decode cX2_pass 14 = .ok (.if_icmp .ge 26, 3) := by decide +kernel
theorem dX2_pass_17 : decode cX2_pass 17 = .ok (.aload_n 0, 1) := by decide +kernel
theorem dX2_pass_18 : decode cX2_pass 18 = .ok (.dup, 1) := by decide +kernel
theorem dX2_pass_19 : decode cX2_pass 19 = .ok (.getfield 44, 3) := by decide +kernel
theorem dX2_pass_22 : decode cX2_pass 22 = .ok (.iconst 1, 1) := by decide +kernel
theorem dX2_pass_23 : decode cX2_pass 23 = .ok (.iadd, 1) := by decide +kernel
theorem dX2_pass_24 : decode cX2_pass 24 = .ok (.putfield 44, 3) := by decide +kernel
theorem dX2_pass_27 : decode cX2_pass 27 = .ok (.iload_n 2, 1) := by decide +kernel
theorem dX2_pass_28 : decode cX2_pass 28 = .ok (.aload_n 0, 1) := by decide +kernel
theorem dX2_pass_29 : decode cX2_pass 29 = .ok (.invokevirtual 116, 3) := by decide +kernel
theorem dX2_pass_32 : decode cX2_pass 32 = .ok (.iadd, 1) := by decide +kernel
theorem dX2_pass_33 : decode cX2_pass 33 = .ok (.istore_n 2, 1) := by decide +kernel
theorem dX2_pass_34 : decode cX2_pass 34 = .ok (.iinc 3 1, 3) := by decide +kernel
theorem dX2_pass_37 : decode cX2_pass 37 = .ok (.goto (-25), 3) := by decide +kernel
theorem dX2_pass_40 : decode cX2_pass 40 = .ok (.iload_n 2, 1) := by decide +kernel
theorem dX2_pass_41 : decode cX2_pass 41 = .ok (.ireturn, 1) := by decide +kernel
theorem dX2_today_0 : decode cX2_today 0 = .ok (.aload_n 0, 1) := by decide +kernel
theorem dX2_today_1 : decode cX2_today 1 = .ok (.getfield 44, 3) := by decide +kernel
theorem dX2_today_4 : decode cX2_today 4 = .ok (.ireturn, 1) := by decide +kernel
theorem dX2_takings_0 : decode cX2_takings 0 = .ok (.aload_n 0, 1) := by decide +kernel
theorem dX2_takings_1 : decode cX2_takings 1 = .ok (.getfield 119, 3) := by decide +kernel
theorem dX2_takings_4 : decode cX2_takings 4 = .ok (.ireturn, 1) := by decide +kernel
set_option maxRecDepth 20000 in
theorem ggX2_lookUp_X2_checkIndex : GoodIn wsX2_lookUp wsX2_checkIndex := goodIn_ca (goodIn_r _ [7, 8, 9] (by decide +kernel) (by decide +kernel)) (goodIn_sub (fun _ h => List.mem_cons_of_mem _ (List.mem_append_right _ h)) (by decide +kernel))
set_option maxRecDepth 20000 in
theorem gX2_lookUp_X2_checkIndex : GoodIn wsX2_lookUp (va_wsS RX2 27 yX2_checkIndex wsX2_checkIndex) := goodIn_app (goodIn_of _ (by decide +kernel)) ggX2_lookUp_X2_checkIndex
set_option maxRecDepth 20000 in
theorem ggX2_lookUp_X1_isFresh : GoodIn wsX2_lookUp wsX1_isFresh := goodIn_r _ [13, 14, 15, 16, 44, 45, 46, 47] (by decide +kernel) (by decide +kernel)
set_option maxRecDepth 20000 in
theorem gX2_lookUp_X1_isFresh_n122 : GoodIn wsX2_lookUp (wsX1_isFresh) := ggX2_lookUp_X1_isFresh
set_option maxRecDepth 20000 in
theorem ggX2_lookUp_X0_answer : GoodIn wsX2_lookUp wsX0_answer := goodIn_r _ [20, 21, 22, 23, 24, 18, 25, 26, 27, 28, 6, 29, 48, 49, 50, 51, 52, 53, 54, 55, 56, 57, 58] (by decide +kernel) (by decide +kernel)
set_option maxRecDepth 20000 in
theorem gX2_lookUp_X0_answer_n125 : GoodIn wsX2_lookUp (wsX0_answer) := ggX2_lookUp_X0_answer
set_option maxRecDepth 20000 in
theorem ggX2_lookUp_X0_answerLifetime : GoodIn wsX2_lookUp wsX0_answerLifetime := goodIn_r _ [32, 33, 22, 23, 24, 18, 25, 26, 27, 28, 6, 29, 48, 49, 50, 51, 52, 53, 54, 55, 56, 57, 58] (by decide +kernel) (by decide +kernel)
set_option maxRecDepth 20000 in
theorem gX2_lookUp_X0_answerLifetime_n128 : GoodIn wsX2_lookUp (wsX0_answerLifetime) := ggX2_lookUp_X0_answerLifetime
set_option maxRecDepth 20000 in
theorem ggX2_lookUp_X1_keep : GoodIn wsX2_lookUp wsX1_keep := goodIn_r _ [36, 14, 37, 16, 15, 44, 45, 46, 47] (by decide +kernel) (by decide +kernel)
set_option maxRecDepth 20000 in
theorem gX2_lookUp_X1_keep_n131 : GoodIn wsX2_lookUp (wsX1_keep) := ggX2_lookUp_X1_keep
theorem dX2_lookUp_0 : decode cX2_lookUp 0 = .ok (.iload_n 1, 1) := by decide +kernel
theorem dX2_lookUp_1 : decode cX2_lookUp 1 = .ok (.iconst 3, 1) := by decide +kernel
theorem dX2_lookUp_2 : decode cX2_lookUp 2 = .ok (.invokestatic 27, 3) := by decide +kernel
theorem dX2_lookUp_5 : decode cX2_lookUp 5 = .ok (.iload_n 2, 1) := by decide +kernel
theorem dX2_lookUp_6 : decode cX2_lookUp 6 = .ok (.bipush 16, 2) := by decide +kernel
theorem dX2_lookUp_8 : decode cX2_lookUp 8 = .ok (.invokestatic 27, 3) := by decide +kernel
theorem dX2_lookUp_11 : decode cX2_lookUp 11 = .ok (.aload_n 0, 1) := by decide +kernel
theorem dX2_lookUp_12 : decode cX2_lookUp 12 = .ok (.getfield 21, 3) := by decide +kernel
theorem dX2_lookUp_15 : decode cX2_lookUp 15 = .ok (.iload_n 1, 1) := by decide +kernel
theorem dX2_lookUp_16 : decode cX2_lookUp 16 = .ok (.aaload, 1) := by decide +kernel
theorem dX2_lookUp_17 : decode cX2_lookUp 17 = .ok (.astore_n 3, 1) := by decide +kernel
theorem dX2_lookUp_18 : decode cX2_lookUp 18 = .ok (.aload_n 3, 1) := by decide +kernel
theorem dX2_lookUp_19 : decode cX2_lookUp 19 = .ok (.iload_n 2, 1) := by decide +kernel
theorem dX2_lookUp_20 : decode cX2_lookUp 20 = .ok (.aload_n 0, 1) := by decide +kernel
theorem dX2_lookUp_21 : decode cX2_lookUp 21 = .ok (.getfield 44, 3) := by decide +kernel
theorem dX2_lookUp_24 : decode cX2_lookUp 24 = .ok (.invokevirtual 122, 3) := by decide +kernel
theorem dX2_lookUp_27 : decode cX2_lookUp 27 = .ok (.ifCond .ne 30, 3) := by decide +kernel
theorem dX2_lookUp_30 : decode cX2_lookUp 30 = .ok (.aload_n 3, 1) := by decide +kernel
theorem dX2_lookUp_31 : decode cX2_lookUp 31 = .ok (.iload_n 2, 1) := by decide +kernel
theorem dX2_lookUp_32 : decode cX2_lookUp 32 = .ok (.aload_n 0, 1) := by decide +kernel
theorem dX2_lookUp_33 : decode cX2_lookUp 33 = .ok (.getfield 15, 3) := by decide +kernel
theorem dX2_lookUp_36 : decode cX2_lookUp 36 = .ok (.iload_n 2, 1) := by decide +kernel
theorem dX2_lookUp_37 : decode cX2_lookUp 37 = .ok (.aaload, 1) := by decide +kernel
theorem dX2_lookUp_38 : decode cX2_lookUp 38 = .ok (.invokevirtual 125, 3) := by decide +kernel
theorem dX2_lookUp_41 : decode cX2_lookUp 41 = .ok (.aload_n 0, 1) := by decide +kernel
theorem dX2_lookUp_42 : decode cX2_lookUp 42 = .ok (.getfield 15, 3) := by decide +kernel
theorem dX2_lookUp_45 : decode cX2_lookUp 45 = .ok (.iload_n 2, 1) := by decide +kernel
theorem dX2_lookUp_46 : decode cX2_lookUp 46 = .ok (.aaload, 1) := by decide +kernel
theorem dX2_lookUp_47 : decode cX2_lookUp 47 = .ok (.invokevirtual 128, 3) := by decide +kernel
theorem dX2_lookUp_50 : decode cX2_lookUp 50 = .ok (.aload_n 0, 1) := by decide +kernel
theorem dX2_lookUp_51 : decode cX2_lookUp 51 = .ok (.getfield 44, 3) := by decide +kernel
theorem dX2_lookUp_54 : decode cX2_lookUp 54 = .ok (.invokevirtual 131, 3) := by decide +kernel
theorem dX2_lookUp_57 : decode cX2_lookUp 57 = .ok (.aload_n 3, 1) := by decide +kernel
theorem dX2_lookUp_58 : decode cX2_lookUp 58 = .ok (.getfield 135, 3) := by decide +kernel
theorem dX2_lookUp_61 : decode cX2_lookUp 61 = .ok (.iload_n 2, 1) := by decide +kernel
theorem dX2_lookUp_62 : decode cX2_lookUp 62 = .ok (.iaload, 1) := by decide +kernel
theorem dX2_lookUp_63 : decode cX2_lookUp 63 = .ok (.ireturn, 1) := by decide +kernel
set_option maxRecDepth 20000 in
theorem ggX2_isStale_X2_checkIndex : GoodIn wsX2_isStale wsX2_checkIndex := goodIn_ca (goodIn_r _ [7, 8, 9] (by decide +kernel) (by decide +kernel)) (goodIn_sub (fun _ h => List.mem_cons_of_mem _ (List.mem_append_right _ h)) (by decide +kernel))
set_option maxRecDepth 20000 in
theorem gX2_isStale_X2_checkIndex : GoodIn wsX2_isStale (va_wsS RX2 27 yX2_checkIndex wsX2_checkIndex) := goodIn_app (goodIn_of _ (by decide +kernel)) ggX2_isStale_X2_checkIndex
set_option maxRecDepth 20000 in
theorem ggX2_isStale_X1_isFresh : GoodIn wsX2_isStale wsX1_isFresh := goodIn_r _ [13, 14, 15, 16, 36, 37, 38, 39] (by decide +kernel) (by decide +kernel)
set_option maxRecDepth 20000 in
theorem gX2_isStale_X1_isFresh_n122 : GoodIn wsX2_isStale (wsX1_isFresh) := ggX2_isStale_X1_isFresh
set_option maxRecDepth 20000 in
theorem ggX2_isStale_X0_answer : GoodIn wsX2_isStale wsX0_answer := goodIn_r _ [20, 21, 22, 23, 24, 18, 25, 26, 27, 28, 6, 29, 40, 41, 42, 43, 44, 45, 46, 47, 48, 49, 50] (by decide +kernel) (by decide +kernel)
set_option maxRecDepth 20000 in
theorem gX2_isStale_X0_answer_n125 : GoodIn wsX2_isStale (wsX0_answer) := ggX2_isStale_X0_answer
theorem dX2_isStale_0 : decode cX2_isStale 0 = .ok (.iload_n 1, 1) := by decide +kernel
theorem dX2_isStale_1 : decode cX2_isStale 1 = .ok (.iconst 3, 1) := by decide +kernel
theorem dX2_isStale_2 : decode cX2_isStale 2 = .ok (.invokestatic 27, 3) := by decide +kernel
theorem dX2_isStale_5 : decode cX2_isStale 5 = .ok (.iload_n 2, 1) := by decide +kernel
theorem dX2_isStale_6 : decode cX2_isStale 6 = .ok (.bipush 16, 2) := by decide +kernel
theorem dX2_isStale_8 : decode cX2_isStale 8 = .ok (.invokestatic 27, 3) := by decide +kernel
theorem dX2_isStale_11 : decode cX2_isStale 11 = .ok (.aload_n 0, 1) := by decide +kernel
theorem dX2_isStale_12 : decode cX2_isStale 12 = .ok (.getfield 21, 3) := by decide +kernel
theorem dX2_isStale_15 : decode cX2_isStale 15 = .ok (.iload_n 1, 1) := by decide +kernel
theorem dX2_isStale_16 : decode cX2_isStale 16 = .ok (.aaload, 1) := by decide +kernel
theorem dX2_isStale_17 : decode cX2_isStale 17 = .ok (.astore_n 3, 1) := by decide +kernel
theorem dX2_isStale_18 : decode cX2_isStale 18 = .ok (.aload_n 3, 1) := by decide +kernel
theorem dX2_isStale_19 : decode cX2_isStale 19 = .ok (.iload_n 2, 1) := by decide +kernel
theorem dX2_isStale_20 : decode cX2_isStale 20 = .ok (.aload_n 0, 1) := by decide +kernel
theorem dX2_isStale_21 : decode cX2_isStale 21 = .ok (.getfield 44, 3) := by decide +kernel
theorem dX2_isStale_24 : decode cX2_isStale 24 = .ok (.invokevirtual 122, 3) := by decide +kernel
theorem dX2_isStale_27 : decode cX2_isStale 27 = .ok (.ifCond .eq 25, 3) := by decide +kernel
theorem dX2_isStale_30 : decode cX2_isStale 30 = .ok (.aload_n 3, 1) := by decide +kernel
theorem dX2_isStale_31 : decode cX2_isStale 31 = .ok (.getfield 135, 3) := by decide +kernel
theorem dX2_isStale_34 : decode cX2_isStale 34 = .ok (.iload_n 2, 1) := by decide +kernel
theorem dX2_isStale_35 : decode cX2_isStale 35 = .ok (.iaload, 1) := by decide +kernel
theorem dX2_isStale_36 : decode cX2_isStale 36 = .ok (.aload_n 0, 1) := by decide +kernel
theorem dX2_isStale_37 : decode cX2_isStale 37 = .ok (.getfield 15, 3) := by decide +kernel
theorem dX2_isStale_40 : decode cX2_isStale 40 = .ok (.iload_n 2, 1) := by decide +kernel
theorem dX2_isStale_41 : decode cX2_isStale 41 = .ok (.aaload, 1) := by decide +kernel
theorem dX2_isStale_42 : decode cX2_isStale 42 = .ok (.invokevirtual 125, 3) := by decide +kernel
theorem dX2_isStale_45 : decode cX2_isStale 45 = .ok (.if_icmp .eq 7, 3) := by decide +kernel
theorem dX2_isStale_48 : decode cX2_isStale 48 = .ok (.iconst 1, 1) := by decide +kernel
theorem dX2_isStale_49 : decode cX2_isStale 49 = .ok (.goto 4, 3) := by decide +kernel
theorem dX2_isStale_52 : decode cX2_isStale 52 = .ok (.iconst 0, 1) := by decide +kernel
theorem dX2_isStale_53 : decode cX2_isStale 53 = .ok (.ireturn, 1) := by decide +kernel
set_option maxRecDepth 20000 in
theorem ggX2_flush_X2_checkIndex : GoodIn wsX2_flush wsX2_checkIndex := goodIn_ca (goodIn_r _ [5, 6, 7] (by decide +kernel) (by decide +kernel)) (goodIn_sub (fun _ h => List.mem_cons_of_mem _ (List.mem_append_right _ h)) (by decide +kernel))
set_option maxRecDepth 20000 in
theorem gX2_flush_X2_checkIndex : GoodIn wsX2_flush (va_wsS RX2 27 yX2_checkIndex wsX2_checkIndex) := goodIn_app (goodIn_of _ (by decide +kernel)) ggX2_flush_X2_checkIndex
set_option maxRecDepth 20000 in
theorem ggX2_flush_X1_forgetAll : GoodIn wsX2_flush wsX1_forgetAll := goodIn_r _ [11, 12, 19, 20, 21, 22] (by decide +kernel) (by decide +kernel)
set_option maxRecDepth 20000 in
theorem gX2_flush_X1_forgetAll_n138 : GoodIn wsX2_flush (wsX1_forgetAll) := ggX2_flush_X1_forgetAll
theorem dX2_flush_0 : decode cX2_flush 0 = .ok (.iload_n 1, 1) := by decide +kernel
theorem dX2_flush_1 : decode cX2_flush 1 = .ok (.iconst 3, 1) := by decide +kernel
theorem dX2_flush_2 : decode cX2_flush 2 = .ok (.invokestatic 27, 3) := by decide +kernel
theorem dX2_flush_5 : decode cX2_flush 5 = .ok (.aload_n 0, 1) := by decide +kernel
theorem dX2_flush_6 : decode cX2_flush 6 = .ok (.getfield 21, 3) := by decide +kernel
theorem dX2_flush_9 : decode cX2_flush 9 = .ok (.iload_n 1, 1) := by decide +kernel
theorem dX2_flush_10 : decode cX2_flush 10 = .ok (.aaload, 1) := by decide +kernel
theorem dX2_flush_11 : decode cX2_flush 11 = .ok (.invokevirtual 138, 3) := by decide +kernel
theorem dX2_flush_14 : decode cX2_flush 14 = .ok (.ireturn, 1) := by decide +kernel
theorem dX2_checkIndex_0 : decode cX2_checkIndex 0 = .ok (.iload_n 0, 1) := by decide +kernel
theorem dX2_checkIndex_1 : decode cX2_checkIndex 1 = .ok (.ifCond .lt 8, 3) := by decide +kernel
theorem dX2_checkIndex_4 : decode cX2_checkIndex 4 = .ok (.iload_n 0, 1) := by decide +kernel
theorem dX2_checkIndex_5 : decode cX2_checkIndex 5 = .ok (.iload_n 1, 1) := by decide +kernel
theorem dX2_checkIndex_6 : decode cX2_checkIndex 6 = .ok (.if_icmp .lt 11, 3) := by decide +kernel
theorem dX2_checkIndex_9 : decode cX2_checkIndex 9 = .ok (.new 141, 3) := by decide +kernel
theorem dX2_checkIndex_12 : decode cX2_checkIndex 12 = .ok (.dup, 1) := by decide +kernel
theorem dX2_checkIndex_13 : decode cX2_checkIndex 13 = .ok (.invokespecial 143, 3) := by decide +kernel
theorem dX2_checkIndex_16 : decode cX2_checkIndex 16 = .ok (.athrow, 1) := by decide +kernel
theorem dX2_checkIndex_17 : decode cX2_checkIndex 17 = .ok (.return_, 1) := by decide +kernel
theorem dX2_checkRange_0 : decode cX2_checkRange 0 = .ok (.iload_n 0, 1) := by decide +kernel
theorem dX2_checkRange_1 : decode cX2_checkRange 1 = .ok (.iload_n 1, 1) := by decide +kernel
theorem dX2_checkRange_2 : decode cX2_checkRange 2 = .ok (.if_icmp .lt 8, 3) := by decide +kernel
theorem dX2_checkRange_5 : decode cX2_checkRange 5 = .ok (.iload_n 0, 1) := by decide +kernel
theorem dX2_checkRange_6 : decode cX2_checkRange 6 = .ok (.iload_n 2, 1) := by decide +kernel
theorem dX2_checkRange_7 : decode cX2_checkRange 7 = .ok (.if_icmp .le 11, 3) := by decide +kernel
theorem dX2_checkRange_10 : decode cX2_checkRange 10 = .ok (.new 144, 3) := by decide +kernel
theorem dX2_checkRange_13 : decode cX2_checkRange 13 = .ok (.dup, 1) := by decide +kernel
theorem dX2_checkRange_14 : decode cX2_checkRange 14 = .ok (.invokespecial 146, 3) := by decide +kernel
theorem dX2_checkRange_17 : decode cX2_checkRange 17 = .ok (.athrow, 1) := by decide +kernel
theorem dX2_checkRange_18 : decode cX2_checkRange 18 = .ok (.return_, 1) := by decide +kernel
theorem dX2_checkPossible_0 : decode cX2_checkPossible 0 = .ok (.iload_n 0, 1) := by decide +kernel
theorem dX2_checkPossible_1 : decode cX2_checkPossible 1 = .ok (.ifCond .ne 11, 3) := by decide +kernel
theorem dX2_checkPossible_4 : decode cX2_checkPossible 4 = .ok (.new 147, 3) := by decide +kernel
theorem dX2_checkPossible_7 : decode cX2_checkPossible 7 = .ok (.dup, 1) := by decide +kernel
theorem dX2_checkPossible_8 : decode cX2_checkPossible 8 = .ok (.invokespecial 149, 3) := by decide +kernel
theorem dX2_checkPossible_11 : decode cX2_checkPossible 11 = .ok (.athrow, 1) := by decide +kernel
theorem dX2_checkPossible_12 : decode cX2_checkPossible 12 = .ok (.return_, 1) := by decide +kernel
theorem dX2_isHeld_0 : decode cX2_isHeld 0 = .ok (.iload_n 0, 1) := by decide +kernel
theorem dX2_isHeld_1 : decode cX2_isHeld 1 = .ok (.iconst 2, 1) := by decide +kernel
theorem dX2_isHeld_2 : decode cX2_isHeld 2 = .ok (.if_icmp .eq 8, 3) := by decide +kernel
theorem dX2_isHeld_5 : decode cX2_isHeld 5 = .ok (.iload_n 0, 1) := by decide +kernel
theorem dX2_isHeld_6 : decode cX2_isHeld 6 = .ok (.iconst 3, 1) := by decide +kernel
theorem dX2_isHeld_7 : decode cX2_isHeld 7 = .ok (.if_icmp .ne 7, 3) := by decide +kernel
theorem dX2_isHeld_10 : decode cX2_isHeld 10 = .ok (.iconst 1, 1) := by decide +kernel
theorem dX2_isHeld_11 : decode cX2_isHeld 11 = .ok (.goto 4, 3) := by decide +kernel
theorem dX2_isHeld_14 : decode cX2_isHeld 14 = .ok (.iconst 0, 1) := by decide +kernel
theorem dX2_isHeld_15 : decode cX2_isHeld 15 = .ok (.ireturn, 1) := by decide +kernel
theorem dX2_wordOf_0 : decode cX2_wordOf 0 = .ok (.iload_n 0, 1) := by decide +kernel
theorem dX2_wordOf_1 : decode cX2_wordOf 1 = .ok (.tableswitch 50 1 5 #[35, 38, 41, 44, 47], 35) := by decide +kernel
theorem dX2_wordOf_36 : decode cX2_wordOf 36 = .ok (.ldc 150, 2) := by decide +kernel
theorem dX2_wordOf_38 : decode cX2_wordOf 38 = .ok (.areturn, 1) := by decide +kernel
theorem dX2_wordOf_39 : decode cX2_wordOf 39 = .ok (.ldc 152, 2) := by decide +kernel
theorem dX2_wordOf_41 : decode cX2_wordOf 41 = .ok (.areturn, 1) := by decide +kernel
theorem dX2_wordOf_42 : decode cX2_wordOf 42 = .ok (.ldc 154, 2) := by decide +kernel
theorem dX2_wordOf_44 : decode cX2_wordOf 44 = .ok (.areturn, 1) := by decide +kernel
theorem dX2_wordOf_45 : decode cX2_wordOf 45 = .ok (.ldc 156, 2) := by decide +kernel
theorem dX2_wordOf_47 : decode cX2_wordOf 47 = .ok (.areturn, 1) := by decide +kernel
theorem dX2_wordOf_48 : decode cX2_wordOf 48 = .ok (.ldc 158, 2) := by decide +kernel
theorem dX2_wordOf_50 : decode cX2_wordOf 50 = .ok (.areturn, 1) := by decide +kernel
theorem dX2_wordOf_51 : decode cX2_wordOf 51 = .ok (.ldc 160, 2) := by decide +kernel
theorem dX2_wordOf_53 : decode cX2_wordOf 53 = .ok (.areturn, 1) := by decide +kernel
theorem dX2_canPay_0 : decode cX2_canPay 0 = .ok (.iload_n 1, 1) := by decide +kernel
theorem dX2_canPay_1 : decode cX2_canPay 1 = .ok (.ifCond .lt 23, 3) := by decide +kernel
theorem dX2_canPay_4 : decode cX2_canPay 4 = .ok (.iload_n 1, 1) := by decide +kernel
theorem dX2_canPay_5 : decode cX2_canPay 5 = .ok (.bipush 6, 2) := by decide +kernel
theorem dX2_canPay_7 : decode cX2_canPay 7 = .ok (.if_icmp .ge 17, 3) := by decide +kernel
theorem dX2_canPay_10 : decode cX2_canPay 10 = .ok (.aload_n 0, 1) := by decide +kernel
theorem dX2_canPay_11 : decode cX2_canPay 11 = .ok (.getfield 9, 3) := by decide +kernel
theorem dX2_canPay_14 : decode cX2_canPay 14 = .ok (.iload_n 1, 1) := by decide +kernel
theorem dX2_canPay_15 : decode cX2_canPay 15 = .ok (.iaload, 1) := by decide +kernel
theorem dX2_canPay_16 : decode cX2_canPay 16 = .ok (.iload_n 2, 1) := by decide +kernel
theorem dX2_canPay_17 : decode cX2_canPay 17 = .ok (.if_icmp .lt 7, 3) := by decide +kernel
theorem dX2_canPay_20 : decode cX2_canPay 20 = .ok (.iconst 1, 1) := by decide +kernel
theorem dX2_canPay_21 : decode cX2_canPay 21 = .ok (.goto 4, 3) := by decide +kernel
theorem dX2_canPay_24 : decode cX2_canPay 24 = .ok (.iconst 0, 1) := by decide +kernel
theorem dX2_canPay_25 : decode cX2_canPay 25 = .ok (.ireturn, 1) := by decide +kernel
set_option maxRecDepth 20000 in
theorem ggX2_pay_X2_canPay : GoodIn wsX2_pay wsX2_canPay := goodIn_r _ [7, 1, 8, 9, 10, 11, 12, 13] (by decide +kernel) (by decide +kernel)
set_option maxRecDepth 20000 in
theorem gX2_pay_X2_canPay : GoodIn wsX2_pay (wsV RX2 77 RX2 yX2_canPay wsX2_canPay) := goodIn_app (goodIn_of _ (by decide +kernel)) ggX2_pay_X2_canPay
theorem dX2_pay_0 : decode cX2_pay 0 = .ok (.aload_n 0, 1) := by decide +kernel
theorem dX2_pay_1 : decode cX2_pay 1 = .ok (.iload_n 1, 1) := by decide +kernel
theorem dX2_pay_2 : decode cX2_pay 2 = .ok (.iload_n 2, 1) := by decide +kernel
theorem dX2_pay_3 : decode cX2_pay 3 = .ok (.invokevirtual 77, 3) := by decide +kernel
theorem dX2_pay_6 : decode cX2_pay 6 = .ok (.ifCond .eq 23, 3) := by decide +kernel
theorem dX2_pay_9 : decode cX2_pay 9 = .ok (.aload_n 0, 1) := by decide +kernel
theorem dX2_pay_10 : decode cX2_pay 10 = .ok (.getfield 9, 3) := by decide +kernel
theorem dX2_pay_13 : decode cX2_pay 13 = .ok (.iload_n 1, 1) := by decide +kernel
theorem dX2_pay_14 : decode cX2_pay 14 = .ok (.dup2, 1) := by decide +kernel
theorem dX2_pay_15 : decode cX2_pay 15 = .ok (.iaload, 1) := by decide +kernel
theorem dX2_pay_16 : decode cX2_pay 16 = .ok (.iload_n 2, 1) := by decide +kernel
theorem dX2_pay_17 : decode cX2_pay 17 = .ok (.isub, 1) := by decide +kernel
theorem dX2_pay_18 : decode cX2_pay 18 = .ok (.iastore, 1) := by decide +kernel
theorem dX2_pay_19 : decode cX2_pay 19 = .ok (.aload_n 0, 1) := by decide +kernel
theorem dX2_pay_20 : decode cX2_pay 20 = .ok (.dup, 1) := by decide +kernel
theorem dX2_pay_21 : decode cX2_pay 21 = .ok (.getfield 119, 3) := by decide +kernel
theorem dX2_pay_24 : decode cX2_pay 24 = .ok (.iload_n 2, 1) := by decide +kernel
theorem dX2_pay_25 : decode cX2_pay 25 = .ok (.iadd, 1) := by decide +kernel
theorem dX2_pay_26 : decode cX2_pay 26 = .ok (.putfield 119, 3) := by decide +kernel
theorem dX2_pay_29 : decode cX2_pay 29 = .ok (.return_, 1) := by decide +kernel
set_option maxRecDepth 20000 in
theorem ggX2_changeNames_X0_dayOfChange : GoodIn wsX2_changeNames wsX0_dayOfChange := goodIn_r _ [6, 7, 8, 9, 61, 62, 63, 64, 65, 66, 67, 68, 69, 70, 71] (by decide +kernel) (by decide +kernel)
set_option maxRecDepth 20000 in
theorem gX2_changeNames_X0_dayOfChange_n106 : GoodIn wsX2_changeNames (wsX0_dayOfChange) := ggX2_changeNames_X0_dayOfChange
set_option maxRecDepth 20000 in
theorem ggX2_changeNames_X0_goOn : GoodIn wsX2_changeNames wsX0_goOn := goodIn_r _ [12, 7, 13, 14, 15, 4, 16, 17, 18, 19, 20, 21, 22, 23, 24, 25, 26, 61, 62, 63, 64, 65, 66, 67, 68, 69, 70, 71] (by decide +kernel) (by decide +kernel)
set_option maxRecDepth 20000 in
theorem gX2_changeNames_X0_goOn_n162 : GoodIn wsX2_changeNames (wsX0_goOn) := ggX2_changeNames_X0_goOn
set_option maxRecDepth 20000 in
theorem ggX2_changeNames_X2_closeAuction : GoodIn wsX2_changeNames wsX2_closeAuction := goodIn_r _ [31, 2, 32, 33, 34, 30, 35, 36, 37, 38, 39, 40, 41, 4, 42, 43, 22, 44, 14, 15, 16, 7, 17, 18, 19, 20, 21, 23, 24, 25, 26, 45, 46, 47, 48, 49, 50, 51, 52, 9, 53, 54, 61, 62, 63, 64, 65, 66, 67, 68, 69, 70, 71, 55, 56, 57, 58, 59, 60] (by decide +kernel) (by decide +kernel)
set_option maxRecDepth 20000 in
theorem gX2_changeNames_X2_closeAuction : GoodIn wsX2_changeNames (wsV RX2 165 RX2 yX2_closeAuction wsX2_closeAuction) := goodIn_app (goodIn_of _ (by decide +kernel)) ggX2_changeNames_X2_closeAuction
theorem dX2_changeNames_0 : decode cX2_changeNames 0 = .ok (.iconst 0, 1) := by decide +kernel
theorem dX2_changeNames_1 : decode cX2_changeNames 1 = .ok (.istore_n 1, 1) := by decide +kernel
theorem dX2_changeNames_2 : decode cX2_changeNames 2 = .ok (.iconst 0, 1) := by decide +kernel
theorem dX2_changeNames_3 : decode cX2_changeNames 3 = .ok (.istore_n 2, 1) := by decide +kernel
theorem dX2_changeNames_4 : decode cX2_changeNames 4 = .ok (.iload_n 2, 1) := by decide +kernel
theorem dX2_changeNames_5 : decode cX2_changeNames 5 = .ok (.bipush 16, 2) := by decide +kernel
theorem dX2_changeNames_7 : decode cX2_changeNames 7 = .ok (.if_icmp .ge 56, 3) := by decide +kernel
theorem dX2_changeNames_10 : decode cX2_changeNames 10 = .ok (.aload_n 0, 1) := by decide +kernel
theorem dX2_changeNames_11 : decode cX2_changeNames 11 = .ok (.getfield 15, 3) := by decide +kernel
theorem dX2_changeNames_14 : decode cX2_changeNames 14 = .ok (.iload_n 2, 1) := by decide +kernel
theorem dX2_changeNames_15 : decode cX2_changeNames 15 = .ok (.aaload, 1) := by decide +kernel
theorem dX2_changeNames_16 : decode cX2_changeNames 16 = .ok (.astore_n 3, 1) := by decide +kernel
theorem dX2_changeNames_17 : decode cX2_changeNames 17 = .ok (.aload_n 3, 1) := by decide +kernel
theorem dX2_changeNames_18 : decode cX2_changeNames 18 = .ok (.invokevirtual 106, 3) := by decide +kernel
theorem dX2_changeNames_21 : decode cX2_changeNames 21 = .ok (.aload_n 0, 1) := by decide +kernel
theorem dX2_changeNames_22 : decode cX2_changeNames 22 = .ok (.getfield 44, 3) := by decide +kernel
theorem dX2_changeNames_25 : decode cX2_changeNames 25 = .ok (.if_icmp .eq 6, 3) := by decide +kernel
theorem dX2_changeNames_28 : decode cX2_changeNames 28 = .ok (.goto 29, 3) := by decide +kernel
theorem dX2_changeNames_31 : decode cX2_changeNames 31 = .ok (.aload_n 3, 1) := by decide +kernel
theorem dX2_changeNames_32 : decode cX2_changeNames 32 = .ok (.getfield 36, 3) := by decide +kernel
theorem dX2_changeNames_35 : decode cX2_changeNames 35 = .ok (.iconst 1, 1) := by decide +kernel
theorem dX2_changeNames_36 : decode cX2_changeNames 36 = .ok (.if_icmp .eq 10, 3) := by decide +kernel
theorem dX2_changeNames_39 : decode cX2_changeNames 39 = .ok (.aload_n 3, 1) := by decide +kernel
theorem dX2_changeNames_40 : decode cX2_changeNames 40 = .ok (.invokevirtual 162, 3) := by decide +kernel
theorem dX2_changeNames_43 : decode cX2_changeNames 43 = .ok (.goto 14, 3) := by decide +kernel
theorem dX2_changeNames_46 : decode cX2_changeNames 46 = .ok (.aload_n 0, 1) := by decide +kernel
theorem dX2_changeNames_47 : decode cX2_changeNames 47 = .ok (.aload_n 3, 1) := by decide +kernel
theorem dX2_changeNames_48 : decode cX2_changeNames 48 = .ok (.invokevirtual 165, 3) := by decide +kernel
theorem dX2_changeNames_51 : decode cX2_changeNames 51 = .ok (.ifCond .eq 6, 3) := by decide +kernel
theorem dX2_changeNames_54 : decode cX2_changeNames 54 = .ok (.iinc 1 1, 3) := by decide +kernel
theorem dX2_changeNames_57 : decode cX2_changeNames 57 = .ok (.iinc 2 1, 3) := by decide +kernel
theorem dX2_changeNames_60 : decode cX2_changeNames 60 = .ok (.goto (-56), 3) := by decide +kernel
theorem dX2_changeNames_63 : decode cX2_changeNames 63 = .ok (.iload_n 1, 1) := by decide +kernel
theorem dX2_changeNames_64 : decode cX2_changeNames 64 = .ok (.ireturn, 1) := by decide +kernel
set_option maxRecDepth 20000 in
theorem ggX2_closeAuction_X2_bestBidder : GoodIn wsX2_closeAuction wsX2_bestBidder := goodIn_r _ [6, 7, 8, 9, 5, 10, 11, 12, 13, 14, 15, 16, 17, 42, 43, 44, 45, 46, 47, 48, 49, 50, 51, 52, 53, 54, 55, 56, 57, 58] (by decide +kernel) (by decide +kernel)
set_option maxRecDepth 20000 in
theorem gX2_closeAuction_X2_bestBidder : GoodIn wsX2_closeAuction (wsV RX2 169 RX2 yX2_bestBidder wsX2_bestBidder) := goodIn_app (goodIn_of _ (by decide +kernel)) ggX2_closeAuction_X2_bestBidder
set_option maxRecDepth 20000 in
theorem ggX2_closeAuction_X0_release : GoodIn wsX2_closeAuction wsX0_release := goodIn_r _ [20, 21, 22, 23, 24, 25, 13, 26, 16, 27, 28, 29, 30, 42, 43, 44, 45, 46, 47, 48, 49, 50, 51, 52] (by decide +kernel) (by decide +kernel)
set_option maxRecDepth 20000 in
theorem gX2_closeAuction_X0_release_n173 : GoodIn wsX2_closeAuction (wsX0_release) := ggX2_closeAuction_X0_release
set_option maxRecDepth 20000 in
theorem ggX2_closeAuction_X2_pay : GoodIn wsX2_closeAuction wsX2_pay := goodIn_r _ [34, 11, 35, 7, 8, 9, 5, 10, 53, 54, 55, 56, 57, 58] (by decide +kernel) (by decide +kernel)
set_option maxRecDepth 20000 in
theorem gX2_closeAuction_X2_pay : GoodIn wsX2_closeAuction (wsV RX2 81 RX2 yX2_pay wsX2_pay) := goodIn_app (goodIn_of _ (by decide +kernel)) ggX2_closeAuction_X2_pay
set_option maxRecDepth 20000 in
theorem ggX2_closeAuction_X0_leaseTo : GoodIn wsX2_closeAuction wsX0_leaseTo := goodIn_r _ [38, 21, 22, 39, 40, 41, 23, 24, 25, 13, 26, 16, 27, 28, 29, 30, 42, 43, 44, 45, 46, 47, 48, 49, 50, 51, 52] (by decide +kernel) (by decide +kernel)
set_option maxRecDepth 20000 in
theorem gX2_closeAuction_X0_leaseTo_n84 : GoodIn wsX2_closeAuction (wsX0_leaseTo) := ggX2_closeAuction_X0_leaseTo
