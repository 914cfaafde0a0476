theorem dX3_bestBut_122 : decode cX3_bestBut 122 = .ok (.imul, 1) := by decide +kernel
theorem dX3_bestBut_123 : decode cX3_bestBut 123 = .ok (.iload_n 3, 1) := by decide +kernel
theorem dX3_bestBut_124 : decode cX3_bestBut 124 = .ok (.iadd, 1) := by decide +kernel
theorem dX3_bestBut_125 : decode cX3_bestBut 125 = .ok (.iaload, 1) := by decide +kernel
theorem dX3_bestBut_126 : decode cX3_bestBut 126 = .ok (.if_icmp .ge 7, 3) := by decide +kernel
theorem dX3_bestBut_129 : decode cX3_bestBut 129 = .ok (.iconst 1, 1) := by decide +kernel
theorem dX3_bestBut_130 : decode cX3_bestBut 130 = .ok (.goto 4, 3) := by decide +kernel
theorem dX3_bestBut_133 : decode cX3_bestBut 133 = .ok (.iconst 0, 1) := by decide +kernel
theorem dX3_bestBut_134 : decode cX3_bestBut 134 = .ok (.istore 7, 2) := by decide +kernel
theorem dX3_bestBut_136 : decode cX3_bestBut 136 = .ok (.iload 6, 2) := by decide +kernel
theorem dX3_bestBut_138 : decode cX3_bestBut 138 = .ok (.ifCond .eq 13, 3) := by decide +kernel
theorem dX3_bestBut_141 : decode cX3_bestBut 141 = .ok (.iload 7, 2) := by decide +kernel
theorem dX3_bestBut_143 : decode cX3_bestBut 143 = .ok (.ifCond .eq 8, 3) := by decide +kernel
theorem dX3_bestBut_146 : decode cX3_bestBut 146 = .ok (.iload 4, 2) := by decide +kernel
theorem dX3_bestBut_148 : decode cX3_bestBut 148 = .ok (.goto 4, 3) := by decide +kernel
theorem dX3_bestBut_151 : decode cX3_bestBut 151 = .ok (.iload_n 3, 1) := by decide +kernel
theorem dX3_bestBut_152 : decode cX3_bestBut 152 = .ok (.istore_n 3, 1) := by decide +kernel
theorem dX3_bestBut_153 : decode cX3_bestBut 153 = .ok (.iinc 4 1, 3) := by decide +kernel
theorem dX3_bestBut_156 : decode cX3_bestBut 156 = .ok (.goto (-151), 3) := by decide +kernel
theorem dX3_bestBut_159 : decode cX3_bestBut 159 = .ok (.iload_n 3, 1) := by decide +kernel
theorem dX3_bestBut_160 : decode cX3_bestBut 160 = .ok (.ireturn, 1) := by decide +kernel
theorem dX3_pays_0 : decode cX3_pays 0 = .ok (.aload_n 0, 1) := by decide +kernel
theorem dX3_pays_1 : decode cX3_pays 1 = .ok (.getfield 7, 3) := by decide +kernel
theorem dX3_pays_4 : decode cX3_pays 4 = .ok (.iload_n 1, 1) := by decide +kernel
theorem dX3_pays_5 : decode cX3_pays 5 = .ok (.dup2, 1) := by decide +kernel
theorem dX3_pays_6 : decode cX3_pays 6 = .ok (.iaload, 1) := by decide +kernel
theorem dX3_pays_7 : decode cX3_pays 7 = .ok (.iload_n 2, 1) := by decide +kernel
theorem dX3_pays_8 : decode cX3_pays 8 = .ok (.isub, 1) := by decide +kernel
theorem dX3_pays_9 : decode cX3_pays 9 = .ok (.iastore, 1) := by decide +kernel
theorem dX3_pays_10 : decode cX3_pays 10 = .ok (.aload_n 0, 1) := by decide +kernel
theorem dX3_pays_11 : decode cX3_pays 11 = .ok (.dup, 1) := by decide +kernel
theorem dX3_pays_12 : decode cX3_pays 12 = .ok (.getfield 77, 3) := by decide +kernel
theorem dX3_pays_15 : decode cX3_pays 15 = .ok (.iload_n 2, 1) := by decide +kernel
theorem dX3_pays_16 : decode cX3_pays 16 = .ok (.iadd, 1) := by decide +kernel
theorem dX3_pays_17 : decode cX3_pays 17 = .ok (.putfield 77, 3) := by decide +kernel
theorem dX3_pays_20 : decode cX3_pays 20 = .ok (.return_, 1) := by decide +kernel
set_option maxRecDepth 20000 in
theorem ggX3_closes_X3_bestBut : GoodIn wsX3_closes wsX3_bestBut := goodIn_r _ [7, 1, 8, 9, 28, 29, 30, 31, 32, 33, 34, 35, 36, 37, 38, 39, 40, 41, 42, 43, 44, 45] (by decide +kernel) (by decide +kernel)
set_option maxRecDepth 20000 in
theorem gX3_closes_X3_bestBut : GoodIn wsX3_closes (wsV RX3 80 RX3 yX3_bestBut wsX3_bestBut) := goodIn_app (goodIn_of _ (by decide +kernel)) ggX3_closes_X3_bestBut
set_option maxRecDepth 20000 in
theorem ggX3_closes_X3_clears : GoodIn wsX3_closes wsX3_clears := goodIn_r _ [13, 1, 28, 29, 30, 31, 32, 33, 34, 35, 36, 37, 38, 39, 40, 41, 42, 43, 44, 45] (by decide +kernel) (by decide +kernel)
set_option maxRecDepth 20000 in
theorem gX3_closes_X3_clears : GoodIn wsX3_closes (wsV RX3 84 RX3 yX3_clears wsX3_clears) := goodIn_app (goodIn_of _ (by decide +kernel)) ggX3_closes_X3_clears
set_option maxRecDepth 20000 in
theorem ggX3_closes_X3_pays : GoodIn wsX3_closes wsX3_pays := goodIn_r _ [17, 8, 18, 28, 29, 30, 31, 32, 33, 34, 35, 36, 37, 38, 39, 40, 41, 42, 43, 44, 45] (by decide +kernel) (by decide +kernel)
set_option maxRecDepth 20000 in
theorem gX3_closes_X3_pays : GoodIn wsX3_closes (wsV RX3 88 RX3 yX3_pays wsX3_pays) := goodIn_app (goodIn_of _ (by decide +kernel)) ggX3_closes_X3_pays
set_option maxRecDepth 20000 in
theorem ggX3_closes_X3_leases : GoodIn wsX3_closes wsX3_leases := goodIn_r _ [22, 2, 23, 24, 25, 26, 27, 28, 29, 30, 31, 32, 33, 34, 35, 36, 37, 38, 39, 40, 41, 42, 43, 44, 45] (by decide +kernel) (by decide +kernel)
set_option maxRecDepth 20000 in
theorem gX3_closes_X3_leases : GoodIn wsX3_closes (wsV RX3 92 RX3 yX3_leases wsX3_leases) := goodIn_app (goodIn_of _ (by decide +kernel)) ggX3_closes_X3_leases
theorem dX3_closes_0 : decode cX3_closes 0 = .ok (.aload_n 0, 1) := by decide +kernel
theorem dX3_closes_1 : decode cX3_closes 1 = .ok (.iload_n 1, 1) := by decide +kernel
theorem dX3_closes_2 : decode cX3_closes 2 = .ok (.iconst (-1), 1) := by decide +kernel
theorem dX3_closes_3 : decode cX3_closes 3 = .ok (.invokevirtual 80, 3) := by decide +kernel
theorem dX3_closes_6 : decode cX3_closes 6 = .ok (.istore_n 2, 1) := by decide +kernel
theorem dX3_closes_7 : decode cX3_closes 7 = .ok (.iload_n 2, 1) := by decide +kernel
theorem dX3_closes_8 : decode cX3_closes 8 = .ok (.iconst (-1), 1) := by decide +kernel
theorem dX3_closes_9 : decode cX3_closes 9 = .ok (.if_icmp .ne 7, 3) := by decide +kernel
theorem dX3_closes_12 : decode cX3_closes 12 = .ok (.iconst (-1), 1) := by decide +kernel
theorem dX3_closes_13 : decode cX3_closes 13 = .ok (.goto 9, 3) := by decide +kernel
theorem dX3_closes_16 : decode cX3_closes 16 = .ok (.aload_n 0, 1) := by decide +kernel
theorem dX3_closes_17 : decode cX3_closes 17 = .ok (.iload_n 1, 1) := by decide +kernel
theorem dX3_closes_18 : decode cX3_closes 18 = .ok (.iload_n 2, 1) := by decide +kernel
theorem dX3_closes_19 : decode cX3_closes 19 = .ok (.invokevirtual 80, 3) := by decide +kernel
theorem dX3_closes_22 : decode cX3_closes 22 = .ok (.istore_n 3, 1) := by decide +kernel
theorem dX3_closes_23 : decode cX3_closes 23 = .ok (.iload_n 3, 1) := by decide +kernel
theorem dX3_closes_24 : decode cX3_closes 24 = .ok (.iconst (-1), 1) := by decide +kernel
theorem dX3_closes_25 : decode cX3_closes 25 = .ok (.if_icmp .ne 8, 3) := by decide +kernel
theorem dX3_closes_28 : decode cX3_closes 28 = .ok (.bipush 10, 2) := by decide +kernel
theorem dX3_closes_30 : decode cX3_closes 30 = .ok (.goto 14, 3) := by decide +kernel
theorem dX3_closes_33 : decode cX3_closes 33 = .ok (.aload_n 0, 1) := by decide +kernel
theorem dX3_closes_34 : decode cX3_closes 34 = .ok (.getfield 37, 3) := by decide +kernel
theorem dX3_closes_37 : decode cX3_closes 37 = .ok (.bipush 6, 2) := by decide +kernel
theorem dX3_closes_39 : decode cX3_closes 39 = .ok (.iload_n 1, 1) := by decide +kernel
theorem dX3_closes_40 : decode cX3_closes 40 = .ok (.imul, 1) := by decide +kernel
theorem dX3_closes_41 : decode cX3_closes 41 = .ok (.iload_n 3, 1) := by decide +kernel
theorem dX3_closes_42 : decode cX3_closes 42 = .ok (.iadd, 1) := by decide +kernel
theorem dX3_closes_43 : decode cX3_closes 43 = .ok (.iaload, 1) := by decide +kernel
theorem dX3_closes_44 : decode cX3_closes 44 = .ok (.istore 4, 2) := by decide +kernel
theorem dX3_closes_46 : decode cX3_closes 46 = .ok (.aload_n 0, 1) := by decide +kernel
theorem dX3_closes_47 : decode cX3_closes 47 = .ok (.iload_n 1, 1) := by decide +kernel
theorem dX3_closes_48 : decode cX3_closes 48 = .ok (.invokevirtual 84, 3) := by decide +kernel
theorem dX3_closes_51 : decode cX3_closes 51 = .ok (.aload_n 0, 1) := by decide +kernel
theorem dX3_closes_52 : decode cX3_closes 52 = .ok (.getfield 13, 3) := by decide +kernel
theorem dX3_closes_55 : decode cX3_closes 55 = .ok (.iload_n 1, 1) := by decide +kernel
theorem dX3_closes_56 : decode cX3_closes 56 = .ok (.iconst 0, 1) := by decide +kernel
theorem dX3_closes_57 : decode cX3_closes 57 = .ok (.iastore, 1) := by decide +kernel
theorem dX3_closes_58 : decode cX3_closes 58 = .ok (.iload_n 2, 1) := by decide +kernel
theorem dX3_closes_59 : decode cX3_closes 59 = .ok (.iconst (-1), 1) := by decide +kernel
theorem dX3_closes_60 : decode cX3_closes 60 = .ok (.if_icmp .eq 16, 3) := by decide +kernel
theorem dX3_closes_63 : decode cX3_closes 63 = .ok (.aload_n 0, 1) := by decide +kernel
theorem dX3_closes_64 : decode cX3_closes 64 = .ok (.iload_n 2, 1) := by decide +kernel
theorem dX3_closes_65 : decode cX3_closes 65 = .ok (.iload 4, 2) := by decide +kernel
theorem dX3_closes_67 : decode cX3_closes 67 = .ok (.invokevirtual 88, 3) := by decide +kernel
theorem dX3_closes_70 : decode cX3_closes 70 = .ok (.aload_n 0, 1) := by decide +kernel
theorem dX3_closes_71 : decode cX3_closes 71 = .ok (.iload_n 1, 1) := by decide +kernel
theorem dX3_closes_72 : decode cX3_closes 72 = .ok (.iload_n 2, 1) := by decide +kernel
theorem dX3_closes_73 : decode cX3_closes 73 = .ok (.invokevirtual 92, 3) := by decide +kernel
theorem dX3_closes_76 : decode cX3_closes 76 = .ok (.iload_n 2, 1) := by decide +kernel
theorem dX3_closes_77 : decode cX3_closes 77 = .ok (.iconst (-1), 1) := by decide +kernel
theorem dX3_closes_78 : decode cX3_closes 78 = .ok (.if_icmp .ne 7, 3) := by decide +kernel
theorem dX3_closes_81 : decode cX3_closes 81 = .ok (.iconst 0, 1) := by decide +kernel
theorem dX3_closes_82 : decode cX3_closes 82 = .ok (.goto 4, 3) := by decide +kernel
theorem dX3_closes_85 : decode cX3_closes 85 = .ok (.iconst 1, 1) := by decide +kernel
theorem dX3_closes_86 : decode cX3_closes 86 = .ok (.ireturn, 1) := by decide +kernel
set_option maxRecDepth 20000 in
theorem ggX3_renew_X3_isName : GoodIn wsX3_renew wsX3_isName := goodIn_r _ [9, 10, 11, 8, 12] (by decide +kernel) (by decide +kernel)
set_option maxRecDepth 20000 in
theorem gX3_renew_X3_isName : GoodIn wsX3_renew (va_wsS RX3 68 yX3_isName wsX3_isName) := goodIn_app (goodIn_of _ (by decide +kernel)) ggX3_renew_X3_isName
set_option maxRecDepth 20000 in
theorem ggX3_renew_X3_isIn : GoodIn wsX3_renew wsX3_isIn := goodIn_r _ [12] (by decide +kernel) (by decide +kernel)
set_option maxRecDepth 20000 in
theorem gX3_renew_X3_isIn : GoodIn wsX3_renew (va_wsS RX3 56 yX3_isIn wsX3_isIn) := goodIn_app (goodIn_of _ (by decide +kernel)) ggX3_renew_X3_isIn
set_option maxRecDepth 20000 in
theorem ggX3_renew_X3_fails : GoodIn wsX3_renew wsX3_fails := goodIn_r _ [16, 17, 23, 24, 25, 26, 27, 28, 29, 30, 31, 32, 33, 34, 35, 36, 37, 38, 39, 40] (by decide +kernel) (by decide +kernel)
set_option maxRecDepth 20000 in
theorem gX3_renew_X3_fails : GoodIn wsX3_renew (wsV RX3 65 RX3 yX3_fails wsX3_fails) := goodIn_app (goodIn_of _ (by decide +kernel)) ggX3_renew_X3_fails
set_option maxRecDepth 20000 in
theorem ggX3_renew_X3_pays : GoodIn wsX3_renew wsX3_pays := goodIn_r _ [21, 4, 22, 23, 24, 25, 26, 27, 28, 29, 30, 31, 32, 33, 34, 35, 36, 37, 38, 39, 40] (by decide +kernel) (by decide +kernel)
set_option maxRecDepth 20000 in
theorem gX3_renew_X3_pays : GoodIn wsX3_renew (wsV RX3 88 RX3 yX3_pays wsX3_pays) := goodIn_app (goodIn_of _ (by decide +kernel)) ggX3_renew_X3_pays
theorem dX3_renew_0 : decode cX3_renew 0 = .ok (.iload_n 1, 1) := by decide +kernel
theorem dX3_renew_1 : decode cX3_renew 1 = .ok (.invokestatic 68, 3) := by decide +kernel
theorem dX3_renew_4 : decode cX3_renew 4 = .ok (.istore_n 3, 1) := by decide +kernel
theorem dX3_renew_5 : decode cX3_renew 5 = .ok (.iload_n 2, 1) := by decide +kernel
theorem dX3_renew_6 : decode cX3_renew 6 = .ok (.iconst 1, 1) := by decide +kernel
theorem dX3_renew_7 : decode cX3_renew 7 = .ok (.iconst 5, 1) := by decide +kernel
theorem dX3_renew_8 : decode cX3_renew 8 = .ok (.invokestatic 56, 3) := by decide +kernel
theorem dX3_renew_11 : decode cX3_renew 11 = .ok (.istore 4, 2) := by decide +kernel
theorem dX3_renew_13 : decode cX3_renew 13 = .ok (.iload_n 3, 1) := by decide +kernel
theorem dX3_renew_14 : decode cX3_renew 14 = .ok (.ifCond .eq 66, 3) := by decide +kernel
theorem dX3_renew_17 : decode cX3_renew 17 = .ok (.iload 4, 2) := by decide +kernel
theorem dX3_renew_19 : decode cX3_renew 19 = .ok (.ifCond .eq 61, 3) := by decide +kernel
theorem dX3_renew_22 : decode cX3_renew 22 = .ok (.aload_n 0, 1) := by decide +kernel
theorem dX3_renew_23 : decode cX3_renew 23 = .ok (.getfield 13, 3) := by decide +kernel
theorem dX3_renew_26 : decode cX3_renew 26 = .ok (.iload_n 1, 1) := by decide +kernel
theorem dX3_renew_27 : decode cX3_renew 27 = .ok (.iaload, 1) := by decide +kernel
theorem dX3_renew_28 : decode cX3_renew 28 = .ok (.iconst 2, 1) := by decide +kernel
theorem dX3_renew_29 : decode cX3_renew 29 = .ok (.iconst 3, 1) := by decide +kernel
theorem dX3_renew_30 : decode cX3_renew 30 = .ok (.invokestatic 56, 3) := by decide +kernel
theorem dX3_renew_33 : decode cX3_renew 33 = .ok (.ifCond .eq 47, 3) := by decide +kernel
theorem dX3_renew_36 : decode cX3_renew 36 = .ok (.aload_n 0, 1) := by decide +kernel
theorem dX3_renew_37 : decode cX3_renew 37 = .ok (.getfield 19, 3) := by decide +kernel
theorem dX3_renew_40 : decode cX3_renew 40 = .ok (.iload_n 1, 1) := by decide +kernel
theorem dX3_renew_41 : decode cX3_renew 41 = .ok (.iaload, 1) := by decide +kernel
theorem dX3_renew_42 : decode cX3_renew 42 = .ok (.bipush 100, 2) := by decide +kernel
theorem dX3_renew_44 : decode cX3_renew 44 = .ok (.iload_n 2, 1) := by decide +kernel
theorem dX3_renew_45 : decode cX3_renew 45 = .ok (.imul, 1) := by decide +kernel
theorem dX3_renew_46 : decode cX3_renew 46 = .ok (.iadd, 1) := by decide +kernel
theorem dX3_renew_47 : decode cX3_renew 47 = .ok (.aload_n 0, 1) := by decide +kernel
theorem dX3_renew_48 : decode cX3_renew 48 = .ok (.getfield 71, 3) := by decide +kernel
theorem dX3_renew_51 : decode cX3_renew 51 = .ok (.sipush 600, 3) := by decide +kernel
theorem dX3_renew_54 : decode cX3_renew 54 = .ok (.iadd, 1) := by decide +kernel
theorem dX3_renew_55 : decode cX3_renew 55 = .ok (.if_icmp .gt 25, 3) := by decide +kernel
theorem dX3_renew_58 : decode cX3_renew 58 = .ok (.aload_n 0, 1) := by decide +kernel
theorem dX3_renew_59 : decode cX3_renew 59 = .ok (.getfield 7, 3) := by decide +kernel
theorem dX3_renew_62 : decode cX3_renew 62 = .ok (.aload_n 0, 1) := by decide +kernel
theorem dX3_renew_63 : decode cX3_renew 63 = .ok (.getfield 16, 3) := by decide +kernel
theorem dX3_renew_66 : decode cX3_renew 66 = .ok (.iload_n 1, 1) := by decide +kernel
theorem dX3_renew_67 : decode cX3_renew 67 = .ok (.iaload, 1) := by decide +kernel
theorem dX3_renew_68 : decode cX3_renew 68 = .ok (.iaload, 1) := by decide +kernel
theorem dX3_renew_69 : decode cX3_renew 69 = .ok (.bipush 20, 2) := by decide +kernel
theorem dX3_renew_71 : decode cX3_renew 71 = .ok (.iload_n 2, 1) := by decide +kernel
theorem dX3_renew_72 : decode cX3_renew 72 = .ok (.imul, 1) := by decide +kernel
theorem dX3_renew_73 : decode cX3_renew 73 = .ok (.if_icmp .lt 7, 3) := by decide +kernel
theorem dX3_renew_76 : decode cX3_renew 76 = .ok (.iconst 1, 1) := by decide +kernel
theorem dX3_renew_77 : decode cX3_renew 77 = .ok (.goto 4, 3) := by decide +kernel
theorem dX3_renew_80 : decode cX3_renew 80 = .ok (.iconst 0, 1) := by decide +kernel
theorem dX3_renew_81 : decode cX3_renew 81 = .ok (.istore 5, 2) := by decide +kernel
theorem dX3_renew_83 : decode cX3_renew 83 = .ok (.aload_n 0, 1) := by decide +kernel
theorem dX3_renew_84 : decode cX3_renew 84 = .ok (.iload_n 3, 1) := by decide +kernel
theorem dX3_renew_85 : decode cX3_renew 85 = .ok (.ifCond .ne 7, 3) := by decide +kernel
theorem dX3_renew_88 : decode cX3_renew 88 = .ok (.iconst 1, 1) := by decide +kernel
theorem dX3_renew_89 : decode cX3_renew 89 = .ok (.goto 22, 3) := by decide +kernel
theorem dX3_renew_92 : decode cX3_renew 92 = .ok (.iload 4, 2) := by decide +kernel
theorem dX3_renew_94 : decode cX3_renew 94 = .ok (.ifCond .ne 7, 3) := by decide +kernel
theorem dX3_renew_97 : decode cX3_renew 97 = .ok (.iconst 2, 1) := by decide +kernel
theorem dX3_renew_98 : decode cX3_renew 98 = .ok (.goto 13, 3) := by decide +kernel
theorem dX3_renew_101 : decode cX3_renew 101 = .ok (.iload 5, 2) := by decide +kernel
theorem dX3_renew_103 : decode cX3_renew 103 = .ok (.ifCond .eq 7, 3) := by decide +kernel
theorem dX3_renew_106 : decode cX3_renew 106 = .ok (.iconst 0, 1) := by decide +kernel
theorem dX3_renew_107 : decode cX3_renew 107 = .ok (.goto 4, 3) := by decide +kernel
theorem dX3_renew_110 : decode cX3_renew 110 = .ok (.iconst 3, 1) := by decide +kernel
theorem dX3_renew_111 : decode cX3_renew 111 = .ok (.invokevirtual 65, 3) := by decide +kernel
theorem dX3_renew_114 : decode cX3_renew 114 = .ok (.ifCond .eq 5, 3) := by decide +kernel
theorem dX3_renew_117 : decode cX3_renew 117 = .ok (.iconst 0, 1) := by decide +kernel
theorem dX3_renew_118 : decode cX3_renew 118 = .ok (.ireturn, 1) := by decide +kernel
theorem dX3_renew_119 : decode cX3_renew 119 = .ok (.aload_n 0, 1) := by decide +kernel
theorem dX3_renew_120 : decode cX3_renew 120 = .ok (.aload_n 0, 1) := by decide +kernel
theorem dX3_renew_121 : decode cX3_renew 121 = .ok (.getfield 16, 3) := by decide +kernel
theorem dX3_renew_124 : decode cX3_renew 124 = .ok (.iload_n 1, 1) := by decide +kernel
theorem dX3_renew_125 : decode cX3_renew 125 = .ok (.iaload, 1) := by decide +kernel
theorem dX3_renew_126 : decode cX3_renew 126 = .ok (.bipush 20, 2) := by decide +kernel
theorem dX3_renew_128 : decode cX3_renew 128 = .ok (.iload_n 2, 1) := by decide +kernel
theorem dX3_renew_129 : decode cX3_renew 129 = .ok (.imul, 1) := by decide +kernel
theorem dX3_renew_130 : decode cX3_renew 130 = .ok (.invokevirtual 88, 3) := by decide +kernel
theorem dX3_renew_133 : decode cX3_renew 133 = .ok (.aload_n 0, 1) := by decide +kernel
theorem dX3_renew_134 : decode cX3_renew 134 = .ok (.getfield 19, 3) := by decide +kernel
theorem dX3_renew_137 : decode cX3_renew 137 = .ok (.iload_n 1, 1) := by decide +kernel
theorem dX3_renew_138 : decode cX3_renew 138 = .ok (.dup2, 1) := by decide +kernel
theorem dX3_renew_139 : decode cX3_renew 139 = .ok (.iaload, 1) := by decide +kernel
theorem dX3_renew_140 : decode cX3_renew 140 = .ok (.bipush 100, 2) := by decide +kernel
theorem dX3_renew_142 : decode cX3_renew 142 = .ok (.iload_n 2, 1) := by decide +kernel
theorem dX3_renew_143 : decode cX3_renew 143 = .ok (.imul, 1) := by decide +kernel
theorem dX3_renew_144 : decode cX3_renew 144 = .ok (.iadd, 1) := by decide +kernel
theorem dX3_renew_145 : decode cX3_renew 145 = .ok (.iastore, 1) := by decide +kernel
theorem dX3_renew_146 : decode cX3_renew 146 = .ok (.aload_n 0, 1) := by decide +kernel
theorem dX3_renew_147 : decode cX3_renew 147 = .ok (.getfield 13, 3) := by decide +kernel
theorem dX3_renew_150 : decode cX3_renew 150 = .ok (.iload_n 1, 1) := by decide +kernel
theorem dX3_renew_151 : decode cX3_renew 151 = .ok (.iconst 2, 1) := by decide +kernel
theorem dX3_renew_152 : decode cX3_renew 152 = .ok (.iastore, 1) := by decide +kernel
theorem dX3_renew_153 : decode cX3_renew 153 = .ok (.aload_n 0, 1) := by decide +kernel
theorem dX3_renew_154 : decode cX3_renew 154 = .ok (.getfield 19, 3) := by decide +kernel
theorem dX3_renew_157 : decode cX3_renew 157 = .ok (.iload_n 1, 1) := by decide +kernel
theorem dX3_renew_158 : decode cX3_renew 158 = .ok (.iaload, 1) := by decide +kernel
theorem dX3_renew_159 : decode cX3_renew 159 = .ok (.ireturn, 1) := by decide +kernel
set_option maxRecDepth 20000 in
theorem ggX3_redeem_X3_isName : GoodIn wsX3_redeem wsX3_isName := goodIn_r _ [8, 9, 10, 7, 11] (by decide +kernel) (by decide +kernel)
set_option maxRecDepth 20000 in
theorem gX3_redeem_X3_isName : GoodIn wsX3_redeem (va_wsS RX3 68 yX3_isName wsX3_isName) := goodIn_app (goodIn_of _ (by decide +kernel)) ggX3_redeem_X3_isName
set_option maxRecDepth 20000 in
theorem ggX3_redeem_X3_fails : GoodIn wsX3_redeem wsX3_fails := goodIn_r _ [15, 16, 29, 30, 31, 32, 33, 34, 35, 36, 37, 38, 39, 40, 41, 42, 43, 44, 45, 46] (by decide +kernel) (by decide +kernel)
set_option maxRecDepth 20000 in
theorem gX3_redeem_X3_fails : GoodIn wsX3_redeem (wsV RX3 65 RX3 yX3_fails wsX3_fails) := goodIn_app (goodIn_of _ (by decide +kernel)) ggX3_redeem_X3_fails
set_option maxRecDepth 20000 in
theorem ggX3_redeem_X3_pays : GoodIn wsX3_redeem wsX3_pays := goodIn_r _ [20, 2, 21, 29, 30, 31, 32, 33, 34, 35, 36, 37, 38, 39, 40, 41, 42, 43, 44, 45, 46] (by decide +kernel) (by decide +kernel)
set_option maxRecDepth 20000 in
theorem gX3_redeem_X3_pays : GoodIn wsX3_redeem (wsV RX3 88 RX3 yX3_pays wsX3_pays) := goodIn_app (goodIn_of _ (by decide +kernel)) ggX3_redeem_X3_pays
set_option maxRecDepth 20000 in
theorem ggX3_redeem_X3_leases : GoodIn wsX3_redeem wsX3_leases := goodIn_r _ [25, 1, 3, 4, 26, 27, 28, 29, 30, 31, 32, 33, 34, 35, 36, 37, 38, 39, 40, 41, 42, 43, 44, 45, 46] (by decide +kernel) (by decide +kernel)
set_option maxRecDepth 20000 in
theorem gX3_redeem_X3_leases : GoodIn wsX3_redeem (wsV RX3 92 RX3 yX3_leases wsX3_leases) := goodIn_app (goodIn_of _ (by decide +kernel)) ggX3_redeem_X3_leases
theorem dX3_redeem_0 : decode cX3_redeem 0 = .ok (.iload_n 1, 1) := by decide +kernel
theorem dX3_redeem_1 : decode cX3_redeem 1 = .ok (.invokestatic 68, 3) := by decide +kernel
theorem dX3_redeem_4 : decode cX3_redeem 4 = .ok (.istore_n 2, 1) := by decide +kernel
theorem dX3_redeem_5 : decode cX3_redeem 5 = .ok (.iload_n 2, 1) := by decide +kernel
theorem dX3_redeem_6 : decode cX3_redeem 6 = .ok (.ifCond .eq 33, 3) := by decide +kernel
theorem dX3_redeem_9 : decode cX3_redeem 9 = .ok (.aload_n 0, 1) := by decide +kernel
theorem dX3_redeem_10 : decode cX3_redeem 10 = .ok (.getfield 13, 3) := by decide +kernel
theorem dX3_redeem_13 : decode cX3_redeem 13 = .ok (.iload_n 1, 1) := by decide +kernel
theorem dX3_redeem_14 : decode cX3_redeem 14 = .ok (.iaload, 1) := by decide +kernel
theorem dX3_redeem_15 : decode cX3_redeem 15 = .ok (.iconst 4, 1) := by decide +kernel
theorem dX3_redeem_16 : decode cX3_redeem 16 = .ok (.if_icmp .ne 23, 3) := by decide +kernel
theorem dX3_redeem_19 : decode cX3_redeem 19 = .ok (.aload_n 0, 1) := by decide +kernel
theorem dX3_redeem_20 : decode cX3_redeem 20 = .ok (.getfield 7, 3) := by decide +kernel
theorem dX3_redeem_23 : decode cX3_redeem 23 = .ok (.aload_n 0, 1) := by decide +kernel
theorem dX3_redeem_24 : decode cX3_redeem 24 = .ok (.getfield 16, 3) := by decide +kernel
theorem dX3_redeem_27 : decode cX3_redeem 27 = .ok (.iload_n 1, 1) := by decide +kernel
theorem dX3_redeem_28 : decode cX3_redeem 28 = .ok (.iaload, 1) := by decide +kernel
theorem dX3_redeem_29 : decode cX3_redeem 29 = .ok (.iaload, 1) := by decide +kernel
theorem dX3_redeem_30 : decode cX3_redeem 30 = .ok (.bipush 50, 2) := by decide +kernel
theorem dX3_redeem_32 : decode cX3_redeem 32 = .ok (.if_icmp .lt 7, 3) := by decide +kernel
theorem dX3_redeem_35 : decode cX3_redeem 35 = .ok (.iconst 1, 1) := by decide +kernel
theorem dX3_redeem_36 : decode cX3_redeem 36 = .ok (.goto 4, 3) := by decide +kernel
theorem dX3_redeem_39 : decode cX3_redeem 39 = .ok (.iconst 0, 1) := by decide +kernel
theorem dX3_redeem_40 : decode cX3_redeem 40 = .ok (.istore_n 3, 1) := by decide +kernel
theorem dX3_redeem_41 : decode cX3_redeem 41 = .ok (.aload_n 0, 1) := by decide +kernel
theorem dX3_redeem_42 : decode cX3_redeem 42 = .ok (.iload_n 2, 1) := by decide +kernel
theorem dX3_redeem_43 : decode cX3_redeem 43 = .ok (.ifCond .ne 7, 3) := by decide +kernel
theorem dX3_redeem_46 : decode cX3_redeem 46 = .ok (.iconst 1, 1) := by decide +kernel
theorem dX3_redeem_47 : decode cX3_redeem 47 = .ok (.goto 12, 3) := by decide +kernel
theorem dX3_redeem_50 : decode cX3_redeem 50 = .ok (.iload_n 3, 1) := by decide +kernel
theorem dX3_redeem_51 : decode cX3_redeem 51 = .ok (.ifCond .eq 7, 3) := by decide +kernel
theorem dX3_redeem_54 : decode cX3_redeem 54 = .ok (.iconst 0, 1) := by decide +kernel
theorem dX3_redeem_55 : decode cX3_redeem 55 = .ok (.goto 4, 3) := by decide +kernel
theorem dX3_redeem_58 : decode cX3_redeem 58 = .ok (.iconst 2, 1) := by decide +kernel
theorem dX3_redeem_59 : decode cX3_redeem 59 = .ok (.invokevirtual 65, 3) := by decide +kernel
theorem dX3_redeem_62 : decode cX3_redeem 62 = .ok (.ifCond .eq 5, 3) := by decide +kernel
theorem dX3_redeem_65 : decode cX3_redeem 65 = .ok (.iconst 0, 1) := by decide +kernel
theorem dX3_redeem_66 : decode cX3_redeem 66 = .ok (.ireturn, 1) := by decide +kernel
theorem dX3_redeem_67 : decode cX3_redeem 67 = .ok (.aload_n 0, 1) := by decide +kernel
theorem dX3_redeem_68 : decode cX3_redeem 68 = .ok (.aload_n 0, 1) := by decide +kernel
theorem dX3_redeem_69 : decode cX3_redeem 69 = .ok (.getfield 16, 3) := by decide +kernel
theorem dX3_redeem_72 : decode cX3_redeem 72 = .ok (.iload_n 1, 1) := by decide +kernel
theorem dX3_redeem_73 : decode cX3_redeem 73 = .ok (.iaload, 1) := by decide +kernel
theorem dX3_redeem_74 : decode cX3_redeem 74 = .ok (.bipush 50, 2) := by decide +kernel
theorem dX3_redeem_76 : decode cX3_redeem 76 = .ok (.invokevirtual 88, 3) := by decide +kernel
theorem dX3_redeem_79 : decode cX3_redeem 79 = .ok (.aload_n 0, 1) := by decide +kernel
theorem dX3_redeem_80 : decode cX3_redeem 80 = .ok (.iload_n 1, 1) := by decide +kernel
theorem dX3_redeem_81 : decode cX3_redeem 81 = .ok (.aload_n 0, 1) := by decide +kernel
theorem dX3_redeem_82 : decode cX3_redeem 82 = .ok (.getfield 16, 3) := by decide +kernel
theorem dX3_redeem_85 : decode cX3_redeem 85 = .ok (.iload_n 1, 1) := by decide +kernel
theorem dX3_redeem_86 : decode cX3_redeem 86 = .ok (.iaload, 1) := by decide +kernel
theorem dX3_redeem_87 : decode cX3_redeem 87 = .ok (.invokevirtual 92, 3) := by decide +kernel
theorem dX3_redeem_90 : decode cX3_redeem 90 = .ok (.aload_n 0, 1) := by decide +kernel
theorem dX3_redeem_91 : decode cX3_redeem 91 = .ok (.getfield 19, 3) := by decide +kernel
theorem dX3_redeem_94 : decode cX3_redeem 94 = .ok (.iload_n 1, 1) := by decide +kernel
theorem dX3_redeem_95 : decode cX3_redeem 95 = .ok (.iaload, 1) := by decide +kernel
theorem dX3_redeem_96 : decode cX3_redeem 96 = .ok (.ireturn, 1) := by decide +kernel
set_option maxRecDepth 20000 in
theorem ggX3_setRecord_X3_isName : GoodIn wsX3_setRecord wsX3_isName := goodIn_r _ [7, 8, 9, 6, 10] (by decide +kernel) (by decide +kernel)
set_option maxRecDepth 20000 in
theorem gX3_setRecord_X3_isName : GoodIn wsX3_setRecord (va_wsS RX3 68 yX3_isName wsX3_isName) := goodIn_app (goodIn_of _ (by decide +kernel)) ggX3_setRecord_X3_isName
set_option maxRecDepth 20000 in
theorem ggX3_setRecord_X3_isIn : GoodIn wsX3_setRecord wsX3_isIn := goodIn_r _ [10] (by decide +kernel) (by decide +kernel)
set_option maxRecDepth 20000 in
theorem gX3_setRecord_X3_isIn : GoodIn wsX3_setRecord (va_wsS RX3 56 yX3_isIn wsX3_isIn) := goodIn_app (goodIn_of _ (by decide +kernel)) ggX3_setRecord_X3_isIn
set_option maxRecDepth 20000 in
theorem ggX3_setRecord_X3_fails : GoodIn wsX3_setRecord wsX3_fails := goodIn_r _ [14, 15, 16, 17, 18, 19, 20, 21, 22, 23, 24, 25, 26, 27, 28, 29, 30, 31, 32, 33] (by decide +kernel) (by decide +kernel)
set_option maxRecDepth 20000 in
theorem gX3_setRecord_X3_fails : GoodIn wsX3_setRecord (wsV RX3 65 RX3 yX3_fails wsX3_fails) := goodIn_app (goodIn_of _ (by decide +kernel)) ggX3_setRecord_X3_fails
theorem dX3_setRecord_0 : decode cX3_setRecord 0 = .ok (.iload_n 1, 1) := by decide +kernel
theorem dX3_setRecord_1 : decode cX3_setRecord 1 = .ok (.invokestatic 68, 3) := by decide +kernel
theorem dX3_setRecord_4 : decode cX3_setRecord 4 = .ok (.istore 4, 2) := by decide +kernel
theorem dX3_setRecord_6 : decode cX3_setRecord 6 = .ok (.iload_n 2, 1) := by decide +kernel
theorem dX3_setRecord_7 : decode cX3_setRecord 7 = .ok (.iconst 0, 1) := by decide +kernel
theorem dX3_setRecord_8 : decode cX3_setRecord 8 = .ok (.sipush 999, 3) := by decide +kernel
theorem dX3_setRecord_11 : decode cX3_setRecord 11 = .ok (.invokestatic 56, 3) := by decide +kernel
theorem dX3_setRecord_14 : decode cX3_setRecord 14 = .ok (.ifCond .eq 17, 3) := by decide +kernel
theorem dX3_setRecord_17 : decode cX3_setRecord 17 = .ok (.iload_n 3, 1) := by decide +kernel
theorem dX3_setRecord_18 : decode cX3_setRecord 18 = .ok (.iconst 1, 1) := by decide +kernel
theorem dX3_setRecord_19 : decode cX3_setRecord 19 = .ok (.bipush 50, 2) := by decide +kernel
theorem dX3_setRecord_21 : decode cX3_setRecord 21 = .ok (.invokestatic 56, 3) := by decide +kernel
theorem dX3_setRecord_24 : decode cX3_setRecord 24 = .ok (.ifCond .eq 7, 3) := by decide +kernel
theorem dX3_setRecord_27 : decode cX3_setRecord 27 = .ok (.iconst 1, 1) := by decide +kernel
theorem dX3_setRecord_28 : decode cX3_setRecord 28 = .ok (.goto 4, 3) := by decide +kernel
theorem dX3_setRecord_31 : decode cX3_setRecord 31 = .ok (.iconst 0, 1) := by decide +kernel
theorem dX3_setRecord_32 : decode cX3_setRecord 32 = .ok (.istore 5, 2) := by decide +kernel
theorem dX3_setRecord_34 : decode cX3_setRecord 34 = .ok (.aload_n 0, 1) := by decide +kernel
theorem dX3_setRecord_35 : decode cX3_setRecord 35 = .ok (.iload 4, 2) := by decide +kernel
theorem dX3_setRecord_37 : decode cX3_setRecord 37 = .ok (.ifCond .ne 7, 3) := by decide +kernel
theorem dX3_setRecord_40 : decode cX3_setRecord 40 = .ok (.iconst 1, 1) := by decide +kernel
theorem dX3_setRecord_41 : decode cX3_setRecord 41 = .ok (.goto 27, 3) := by decide +kernel
theorem dX3_setRecord_44 : decode cX3_setRecord 44 = .ok (.iload 5, 2) := by decide +kernel
theorem dX3_setRecord_46 : decode cX3_setRecord 46 = .ok (.ifCond .ne 7, 3) := by decide +kernel
theorem dX3_setRecord_49 : decode cX3_setRecord 49 = .ok (.iconst 2, 1) := by decide +kernel
theorem dX3_setRecord_50 : decode cX3_setRecord 50 = .ok (.goto 18, 3) := by decide +kernel
theorem dX3_setRecord_53 : decode cX3_setRecord 53 = .ok (.aload_n 0, 1) := by decide +kernel
theorem dX3_setRecord_54 : decode cX3_setRecord 54 = .ok (.getfield 13, 3) := by decide +kernel
theorem dX3_setRecord_57 : decode cX3_setRecord 57 = .ok (.iload_n 1, 1) := by decide +kernel
theorem dX3_setRecord_58 : decode cX3_setRecord 58 = .ok (.iaload, 1) := by decide +kernel
theorem dX3_setRecord_59 : decode cX3_setRecord 59 = .ok (.iconst 2, 1) := by decide +kernel
theorem dX3_setRecord_60 : decode cX3_setRecord 60 = .ok (.if_icmp .ne 7, 3) := by decide +kernel
theorem dX3_setRecord_63 : decode cX3_setRecord 63 = .ok (.iconst 0, 1) := by decide +kernel
theorem dX3_setRecord_64 : decode cX3_setRecord 64 = .ok (.goto 4, 3) := by decide +kernel
theorem dX3_setRecord_67 : decode cX3_setRecord 67 = .ok (.iconst 3, 1) := by decide +kernel
theorem dX3_setRecord_68 : decode cX3_setRecord 68 = .ok (.invokevirtual 65, 3) := by decide +kernel
theorem dX3_setRecord_71 : decode cX3_setRecord 71 = .ok (.ifCond .eq 5, 3) := by decide +kernel
theorem dX3_setRecord_74 : decode cX3_setRecord 74 = .ok (.iconst 0, 1) := by decide +kernel
theorem dX3_setRecord_75 : decode cX3_setRecord 75 = .ok (.ireturn, 1) := by decide +kernel
theorem dX3_setRecord_76 : decode cX3_setRecord 76 = .ok (.aload_n 0, 1) := by decide +kernel
theorem dX3_setRecord_77 : decode cX3_setRecord 77 = .ok (.getfield 22, 3) := by decide +kernel
theorem dX3_setRecord_80 : decode cX3_setRecord 80 = .ok (.iload_n 1, 1) := by decide +kernel
theorem dX3_setRecord_81 : decode cX3_setRecord 81 = .ok (.iaload, 1) := by decide +kernel
theorem dX3_setRecord_82 : decode cX3_setRecord 82 = .ok (.istore 6, 2) := by decide +kernel
theorem dX3_setRecord_84 : decode cX3_setRecord 84 = .ok (.aload_n 0, 1) := by decide +kernel
theorem dX3_setRecord_85 : decode cX3_setRecord 85 = .ok (.getfield 22, 3) := by decide +kernel
theorem dX3_setRecord_88 : decode cX3_setRecord 88 = .ok (.iload_n 1, 1) := by decide +kernel
theorem dX3_setRecord_89 : decode cX3_setRecord 89 = .ok (.iload_n 2, 1) := by decide +kernel
theorem dX3_setRecord_90 : decode cX3_setRecord 90 = .ok (.iastore, 1) := by decide +kernel
theorem dX3_setRecord_91 : decode cX3_setRecord 91 = .ok (.aload_n 0, 1) := by decide +kernel
theorem dX3_setRecord_92 : decode cX3_setRecord 92 = .ok (.getfield 25, 3) := by decide +kernel
theorem dX3_setRecord_95 : decode cX3_setRecord 95 = .ok (.iload_n 1, 1) := by decide +kernel
theorem dX3_setRecord_96 : decode cX3_setRecord 96 = .ok (.iload_n 3, 1) := by decide +kernel
theorem dX3_setRecord_97 : decode cX3_setRecord 97 = .ok (.iastore, 1) := by decide +kernel
theorem dX3_setRecord_98 : decode cX3_setRecord 98 = .ok (.iload 6, 2) := by decide +kernel
theorem dX3_setRecord_100 : decode cX3_setRecord 100 = .ok (.ireturn, 1) := by decide +kernel
set_option maxRecDepth 20000 in
theorem ggX3_state_X3_isName : GoodIn wsX3_state wsX3_isName := goodIn_r _ [5, 6, 7, 4, 8] (by decide +kernel) (by decide +kernel)
set_option maxRecDepth 20000 in
theorem gX3_state_X3_isName : GoodIn wsX3_state (va_wsS RX3 68 yX3_isName wsX3_isName) := goodIn_app (goodIn_of _ (by decide +kernel)) ggX3_state_X3_isName
set_option maxRecDepth 20000 in
theorem ggX3_state_X3_fails : GoodIn wsX3_state wsX3_fails := goodIn_r _ [12, 13, 14, 15, 16, 17, 18, 19, 20, 21, 22, 23, 24, 25, 26, 27, 28, 29, 30, 31] (by decide +kernel) (by decide +kernel)
set_option maxRecDepth 20000 in
theorem gX3_state_X3_fails : GoodIn wsX3_state (wsV RX3 65 RX3 yX3_fails wsX3_fails) := goodIn_app (goodIn_of _ (by decide +kernel)) ggX3_state_X3_fails
theorem dX3_state_0 : decode cX3_state 0 = .ok (.aload_n 0, 1) := by decide +kernel
theorem dX3_state_1 : decode cX3_state 1 = .ok (.iload_n 1, 1) := by decide +kernel
theorem dX3_state_2 : decode cX3_state 2 = .ok (.invokestatic 68, 3) := by decide +kernel
theorem dX3_state_5 : decode cX3_state 5 = .ok (.ifCond .eq 7, 3) := by decide +kernel
theorem dX3_state_8 : decode cX3_state 8 = .ok (.iconst 0, 1) := by decide +kernel
theorem dX3_state_9 : decode cX3_state 9 = .ok (.goto 4, 3) := by decide +kernel
theorem dX3_state_12 : decode cX3_state 12 = .ok (.iconst 1, 1) := by decide +kernel
theorem dX3_state_13 : decode cX3_state 13 = .ok (.invokevirtual 65, 3) := by decide +kernel
theorem dX3_state_16 : decode cX3_state 16 = .ok (.ifCond .eq 7, 3) := by decide +kernel
theorem dX3_state_19 : decode cX3_state 19 = .ok (.iconst 0, 1) := by decide +kernel
theorem dX3_state_20 : decode cX3_state 20 = .ok (.goto 9, 3) := by decide +kernel
theorem dX3_state_23 : decode cX3_state 23 = .ok (.aload_n 0, 1) := by decide +kernel
theorem dX3_state_24 : decode cX3_state 24 = .ok (.getfield 13, 3) := by decide +kernel
theorem dX3_state_27 : decode cX3_state 27 = .ok (.iload_n 1, 1) := by decide +kernel
theorem dX3_state_28 : decode cX3_state 28 = .ok (.iaload, 1) := by decide +kernel
theorem dX3_state_29 : decode cX3_state 29 = .ok (.ireturn, 1) := by decide +kernel
theorem dX3_letter_0 : decode cX3_letter 0 = .ok (.iload_n 0, 1) := by decide +kernel
theorem dX3_letter_1 : decode cX3_letter 1 = .ok (.tableswitch 350 0 4 #[35, 67, 140, 197, 249], 35) := by decide +kernel
theorem dX3_letter_36 : decode cX3_letter 36 = .ok (.iload_n 1, 1) := by decide +kernel
theorem dX3_letter_37 : decode cX3_letter 37 = .ok (.ifCond .ne 8, 3) := by decide +kernel
theorem dX3_letter_40 : decode cX3_letter 40 = .ok (.bipush 102, 2) := by decide +kernel
theorem dX3_letter_42 : decode cX3_letter 42 = .ok (.goto 25, 3) := by decide +kernel
theorem dX3_letter_45 : decode cX3_letter 45 = .ok (.iload_n 1, 1) := by decide +kernel
theorem dX3_letter_46 : decode cX3_letter 46 = .ok (.iconst 1, 1) := by decide +kernel
theorem dX3_letter_47 : decode cX3_letter 47 = .ok (.if_icmp .ne 8, 3) := by decide +kernel
theorem dX3_letter_50 : decode cX3_letter 50 = .ok (.bipush 114, 2) := by decide +kernel
theorem dX3_letter_52 : decode cX3_letter 52 = .ok (.goto 15, 3) := by decide +kernel
theorem dX3_letter_55 : decode cX3_letter 55 = .ok (.iload_n 1, 1) := by decide +kernel
theorem dX3_letter_56 : decode cX3_letter 56 = .ok (.iconst 4, 1) := by decide +kernel
theorem dX3_letter_57 : decode cX3_letter 57 = .ok (.if_icmp .ge 8, 3) := by decide +kernel
theorem dX3_letter_60 : decode cX3_letter 60 = .ok (.bipush 101, 2) := by decide +kernel
theorem dX3_letter_62 : decode cX3_letter 62 = .ok (.goto 5, 3) := by decide +kernel
theorem dX3_letter_65 : decode cX3_letter 65 = .ok (.bipush 32, 2) := by decide +kernel
theorem dX3_letter_67 : decode cX3_letter 67 = .ok (.ireturn, 1) := by decide +kernel
theorem dX3_letter_68 : decode cX3_letter 68 = .ok (.iload_n 1, 1) := by decide +kernel
theorem dX3_letter_69 : decode cX3_letter 69 = .ok (.ifCond .ne 8, 3) := by decide +kernel
theorem dX3_letter_72 : decode cX3_letter 72 = .ok (.bipush 97, 2) := by decide +kernel
theorem dX3_letter_74 : decode cX3_letter 74 = .ok (.goto 66, 3) := by decide +kernel
theorem dX3_letter_77 : decode cX3_letter 77 = .ok (.iload_n 1, 1) := by decide +kernel
theorem dX3_letter_78 : decode cX3_letter 78 = .ok (.iconst 1, 1) := by decide +kernel
theorem dX3_letter_79 : decode cX3_letter 79 = .ok (.if_icmp .ne 8, 3) := by decide +kernel
theorem dX3_letter_82 : decode cX3_letter 82 = .ok (.bipush 117, 2) := by decide +kernel
theorem dX3_letter_84 : decode cX3_letter 84 = .ok (.goto 56, 3) := by decide +kernel
theorem dX3_letter_87 : decode cX3_letter 87 = .ok (.iload_n 1, 1) := by decide +kernel
theorem dX3_letter_88 : decode cX3_letter 88 = .ok (.iconst 2, 1) := by decide +kernel
theorem dX3_letter_89 : decode cX3_letter 89 = .ok (.if_icmp .ne 8, 3) := by decide +kernel
theorem dX3_letter_92 : decode cX3_letter 92 = .ok (.bipush 99, 2) := by decide +kernel
theorem dX3_letter_94 : decode cX3_letter 94 = .ok (.goto 46, 3) := by decide +kernel
theorem dX3_letter_97 : decode cX3_letter 97 = .ok (.iload_n 1, 1) := by decide +kernel
theorem dX3_letter_98 : decode cX3_letter 98 = .ok (.iconst 3, 1) := by decide +kernel
theorem dX3_letter_99 : decode cX3_letter 99 = .ok (.if_icmp .ne 8, 3) := by decide +kernel
theorem dX3_letter_102 : decode cX3_letter 102 = .ok (.bipush 116, 2) := by decide +kernel
theorem dX3_letter_104 : decode cX3_letter 104 = .ok (.goto 36, 3) := by decide +kernel
theorem dX3_letter_107 : decode cX3_letter 107 = .ok (.iload_n 1, 1) := by decide +kernel
theorem dX3_letter_108 : decode cX3_letter 108 = .ok (.iconst 4, 1) := by decide +kernel
theorem dX3_letter_109 : decode cX3_letter 109 = .ok (.if_icmp .ne 8, 3) := by decide +kernel
theorem dX3_letter_112 : decode cX3_letter 112 = .ok (.bipush 105, 2) := by decide +kernel
theorem dX3_letter_114 : decode cX3_letter 114 = .ok (.goto 26, 3) := by decide +kernel
theorem dX3_letter_117 : decode cX3_letter 117 = .ok (.iload_n 1, 1) := by decide +kernel
theorem dX3_letter_118 : decode cX3_letter 118 = .ok (.iconst 5, 1) := by decide +kernel
theorem dX3_letter_119 : decode cX3_letter 119 = .ok (.if_icmp .ne 8, 3) := by decide +kernel
theorem dX3_letter_122 : decode cX3_letter 122 = .ok (.bipush 111, 2) := by decide +kernel
theorem dX3_letter_124 : decode cX3_letter 124 = .ok (.goto 16, 3) := by decide +kernel
theorem dX3_letter_127 : decode cX3_letter 127 = .ok (.iload_n 1, 1) := by decide +kernel
theorem dX3_letter_128 : decode cX3_letter 128 = .ok (.bipush 6, 2) := by decide +kernel
theorem dX3_letter_130 : decode cX3_letter 130 = .ok (.if_icmp .ne 8, 3) := by decide +kernel
theorem dX3_letter_133 : decode cX3_letter 133 = .ok (.bipush 110, 2) := by decide +kernel
theorem dX3_letter_135 : decode cX3_letter 135 = .ok (.goto 5, 3) := by decide +kernel
theorem dX3_letter_138 : decode cX3_letter 138 = .ok (.bipush 32, 2) := by decide +kernel
theorem dX3_letter_140 : decode cX3_letter 140 = .ok (.ireturn, 1) := by decide +kernel
theorem dX3_letter_141 : decode cX3_letter 141 = .ok (.iload_n 1, 1) := by decide +kernel
theorem dX3_letter_142 : decode cX3_letter 142 = .ok (.ifCond .ne 8, 3) := by decide +kernel
theorem dX3_letter_145 : decode cX3_letter 145 = .ok (.bipush 108, 2) := by decide +kernel
theorem dX3_letter_147 : decode cX3_letter 147 = .ok (.goto 50, 3) := by decide +kernel
theorem dX3_letter_150 : decode cX3_letter 150 = .ok (.iload_n 1, 1) := by decide +kernel
theorem dX3_letter_151 : decode cX3_letter 151 = .ok (.iconst 1, 1) := by decide +kernel
theorem dX3_letter_152 : decode cX3_letter 152 = .ok (.if_icmp .eq 8, 3) := by decide +kernel
theorem dX3_letter_155 : decode cX3_letter 155 = .ok (.iload_n 1, 1) := by decide +kernel
theorem dX3_letter_156 : decode cX3_letter 156 = .ok (.iconst 4, 1) := by decide +kernel
theorem dX3_letter_157 : decode cX3_letter 157 = .ok (.if_icmp .ne 8, 3) := by decide +kernel
theorem dX3_letter_160 : decode cX3_letter 160 = .ok (.bipush 101, 2) := by decide +kernel
theorem dX3_letter_162 : decode cX3_letter 162 = .ok (.goto 35, 3) := by decide +kernel
theorem dX3_letter_165 : decode cX3_letter 165 = .ok (.iload_n 1, 1) := by decide +kernel
theorem dX3_letter_166 : decode cX3_letter 166 = .ok (.iconst 2, 1) := by decide +kernel
theorem dX3_letter_167 : decode cX3_letter 167 = .ok (.if_icmp .ne 8, 3) := by decide +kernel
theorem dX3_letter_170 : decode cX3_letter 170 = .ok (.bipush 97, 2) := by decide +kernel
theorem dX3_letter_172 : decode cX3_letter 172 = .ok (.goto 25, 3) := by decide +kernel
theorem dX3_letter_175 : decode cX3_letter 175 = .ok (.iload_n 1, 1) := by decide +kernel
theorem dX3_letter_176 : decode cX3_letter 176 = .ok (.iconst 3, 1) := by decide +kernel
theorem dX3_letter_177 : decode cX3_letter 177 = .ok (.if_icmp .ne 8, 3) := by decide +kernel
theorem dX3_letter_180 : decode cX3_letter 180 = .ok (.bipush 115, 2) := by decide +kernel
theorem dX3_letter_182 : decode cX3_letter 182 = .ok (.goto 15, 3) := by decide +kernel
theorem dX3_letter_185 : decode cX3_letter 185 = .ok (.iload_n 1, 1) := by decide +kernel
theorem dX3_letter_186 : decode cX3_letter 186 = .ok (.iconst 5, 1) := by decide +kernel
theorem dX3_letter_187 : decode cX3_letter 187 = .ok (.if_icmp .ne 8, 3) := by decide +kernel
theorem dX3_letter_190 : decode cX3_letter 190 = .ok (.bipush 100, 2) := by decide +kernel
theorem dX3_letter_192 : decode cX3_letter 192 = .ok (.goto 5, 3) := by decide +kernel
theorem dX3_letter_195 : decode cX3_letter 195 = .ok (.bipush 32, 2) := by decide +kernel
theorem dX3_letter_197 : decode cX3_letter 197 = .ok (.ireturn, 1) := by decide +kernel
theorem dX3_letter_198 : decode cX3_letter 198 = .ok (.iload_n 1, 1) := by decide +kernel
theorem dX3_letter_199 : decode cX3_letter 199 = .ok (.ifCond .ne 8, 3) := by decide +kernel
theorem dX3_letter_202 : decode cX3_letter 202 = .ok (.bipush 103, 2) := by decide +kernel
theorem dX3_letter_204 : decode cX3_letter 204 = .ok (.goto 45, 3) := by decide +kernel
theorem dX3_letter_207 : decode cX3_letter 207 = .ok (.iload_n 1, 1) := by decide +kernel
theorem dX3_letter_208 : decode cX3_letter 208 = .ok (.iconst 1, 1) := by decide +kernel
theorem dX3_letter_209 : decode cX3_letter 209 = .ok (.if_icmp .ne 8, 3) := by decide +kernel
theorem dX3_letter_212 : decode cX3_letter 212 = .ok (.bipush 114, 2) := by decide +kernel
theorem dX3_letter_214 : decode cX3_letter 214 = .ok (.goto 35, 3) := by decide +kernel
theorem dX3_letter_217 : decode cX3_letter 217 = .ok (.iload_n 1, 1) := by decide +kernel
theorem dX3_letter_218 : decode cX3_letter 218 = .ok (.iconst 2, 1) := by decide +kernel
theorem dX3_letter_219 : decode cX3_letter 219 = .ok (.if_icmp .ne 8, 3) := by decide +kernel
theorem dX3_letter_222 : decode cX3_letter 222 = .ok (.bipush 97, 2) := by decide +kernel
theorem dX3_letter_224 : decode cX3_letter 224 = .ok (.goto 25, 3) := by decide +kernel
theorem dX3_letter_227 : decode cX3_letter 227 = .ok (.iload_n 1, 1) := by decide +kernel
theorem dX3_letter_228 : decode cX3_letter 228 = .ok (.iconst 3, 1) := by decide +kernel
theorem dX3_letter_229 : decode cX3_letter 229 = .ok (.if_icmp .ne 8, 3) := by decide +kernel
theorem dX3_letter_232 : decode cX3_letter 232 = .ok (.bipush 99, 2) := by decide +kernel
theorem dX3_letter_234 : decode cX3_letter 234 = .ok (.goto 15, 3) := by decide +kernel
theorem dX3_letter_237 : decode cX3_letter 237 = .ok (.iload_n 1, 1) := by decide +kernel
theorem dX3_letter_238 : decode cX3_letter 238 = .ok (.iconst 4, 1) := by decide +kernel
theorem dX3_letter_239 : decode cX3_letter 239 = .ok (.if_icmp .ne 8, 3) := by decide +kernel
theorem dX3_letter_242 : decode cX3_letter 242 = .ok (.bipush 101, 2) := by decide +kernel
theorem dX3_letter_244 : decode cX3_letter 244 = .ok (.goto 5, 3) := by decide +kernel
theorem dX3_letter_247 : decode cX3_letter 247 = .ok (.bipush 32, 2) := by decide +kernel
theorem dX3_letter_249 : decode cX3_letter 249 = .ok (.ireturn, 1) := by decide +kernel
theorem dX3_letter_250 : decode cX3_letter 250 = .ok (.iload_n 1, 1) := by decide +kernel
theorem dX3_letter_251 : decode cX3_letter 251 = .ok (.ifCond .ne 8, 3) := by decide +kernel
theorem dX3_letter_254 : decode cX3_letter 254 = .ok (.bipush 114, 2) := by decide +kernel
theorem dX3_letter_256 : decode cX3_letter 256 = .ok (.goto 94, 3) := by decide +kernel
theorem dX3_letter_259 : decode cX3_letter 259 = .ok (.iload_n 1, 1) := by decide +kernel
theorem dX3_letter_260 : decode cX3_letter 260 = .ok (.iconst 1, 1) := by decide +kernel
theorem dX3_letter_261 : decode cX3_letter 261 = .ok (.if_icmp .eq 8, 3) := by decide +kernel
theorem dX3_letter_264 : decode cX3_letter 264 = .ok (.iload_n 1, 1) := by decide +kernel
theorem dX3_letter_265 : decode cX3_letter 265 = .ok (.iconst 3, 1) := by decide +kernel
theorem dX3_letter_266 : decode cX3_letter 266 = .ok (.if_icmp .ne 8, 3) := by decide +kernel
theorem dX3_letter_269 : decode cX3_letter 269 = .ok (.bipush 101, 2) := by decide +kernel
theorem dX3_letter_271 : decode cX3_letter 271 = .ok (.goto 79, 3) := by decide +kernel
theorem dX3_letter_274 : decode cX3_letter 274 = .ok (.iload_n 1, 1) := by decide +kernel
theorem dX3_letter_275 : decode cX3_letter 275 = .ok (.iconst 2, 1) := by decide +kernel
theorem dX3_letter_276 : decode cX3_letter 276 = .ok (.if_icmp .ne 8, 3) := by decide +kernel
theorem dX3_letter_279 : decode cX3_letter 279 = .ok (.bipush 100, 2) := by decide +kernel
theorem dX3_letter_281 : decode cX3_letter 281 = .ok (.goto 69, 3) := by decide +kernel
theorem dX3_letter_284 : decode cX3_letter 284 = .ok (.iload_n 1, 1) := by decide +kernel
theorem dX3_letter_285 : decode cX3_letter 285 = .ok (.iconst 4, 1) := by decide +kernel
theorem dX3_letter_286 : decode cX3_letter 286 = .ok (.if_icmp .ne 8, 3) := by decide +kernel
theorem dX3_letter_289 : decode cX3_letter 289 = .ok (.bipush 109, 2) := by decide +kernel
theorem dX3_letter_291 : decode cX3_letter 291 = .ok (.goto 59, 3) := by decide +kernel
theorem dX3_letter_294 : decode cX3_letter 294 = .ok (.iload_n 1, 1) := by decide +kernel
theorem dX3_letter_295 : decode cX3_letter 295 = .ok (.iconst 5, 1) := by decide +kernel
theorem dX3_letter_296 : decode cX3_letter 296 = .ok (.if_icmp .ne 8, 3) := by decide +kernel
theorem dX3_letter_299 : decode cX3_letter 299 = .ok (.bipush 112, 2) := by decide +kernel
theorem dX3_letter_301 : decode cX3_letter 301 = .ok (.goto 49, 3) := by decide +kernel
theorem dX3_letter_304 : decode cX3_letter 304 = .ok (.iload_n 1, 1) := by decide +kernel
theorem dX3_letter_305 : decode cX3_letter 305 = .ok (.bipush 6, 2) := by decide +kernel
theorem dX3_letter_307 : decode cX3_letter 307 = .ok (.if_icmp .ne 8, 3) := by decide +kernel
theorem dX3_letter_310 : decode cX3_letter 310 = .ok (.bipush 116, 2) := by decide +kernel
theorem dX3_letter_312 : decode cX3_letter 312 = .ok (.goto 38, 3) := by decide +kernel
theorem dX3_letter_315 : decode cX3_letter 315 = .ok (.iload_n 1, 1) := by decide +kernel
theorem dX3_letter_316 : decode cX3_letter 316 = .ok (.bipush 7, 2) := by decide +kernel
theorem dX3_letter_318 : decode cX3_letter 318 = .ok (.if_icmp .ne 8, 3) := by decide +kernel
theorem dX3_letter_321 : decode cX3_letter 321 = .ok (.bipush 105, 2) := by decide +kernel
theorem dX3_letter_323 : decode cX3_letter 323 = .ok (.goto 27, 3) := by decide +kernel
theorem dX3_letter_326 : decode cX3_letter 326 = .ok (.iload_n 1, 1) := by decide +kernel
theorem dX3_letter_327 : decode cX3_letter 327 = .ok (.bipush 8, 2) := by decide +kernel
theorem dX3_letter_329 : decode cX3_letter 329 = .ok (.if_icmp .ne 8, 3) := by decide +kernel
theorem dX3_letter_332 : decode cX3_letter 332 = .ok (.bipush 111, 2) := by decide +kernel
theorem dX3_letter_334 : decode cX3_letter 334 = .ok (.goto 16, 3) := by decide +kernel
theorem dX3_letter_337 : decode cX3_letter 337 = .ok (.iload_n 1, 1) := by decide +kernel
theorem dX3_letter_338 : decode cX3_letter 338 = .ok (.bipush 9, 2) := by decide +kernel
theorem dX3_letter_340 : decode cX3_letter 340 = .ok (.if_icmp .ne 8, 3) := by decide +kernel
theorem dX3_letter_343 : decode cX3_letter 343 = .ok (.bipush 110, 2) := by decide +kernel
theorem dX3_letter_345 : decode cX3_letter 345 = .ok (.goto 5, 3) := by decide +kernel
theorem dX3_letter_348 : decode cX3_letter 348 = .ok (.bipush 32, 2) := by decide +kernel
theorem dX3_letter_350 : decode cX3_letter 350 = .ok (.ireturn, 1) := by decide +kernel
theorem dX3_letter_351 : decode cX3_letter 351 = .ok (.iload_n 1, 1) := by decide +kernel
theorem dX3_letter_352 : decode cX3_letter 352 = .ok (.ifCond .ne 8, 3) := by decide +kernel
theorem dX3_letter_355 : decode cX3_letter 355 = .ok (.bipush 102, 2) := by decide +kernel
theorem dX3_letter_357 : decode cX3_letter 357 = .ok (.goto 55, 3) := by decide +kernel
theorem dX3_letter_360 : decode cX3_letter 360 = .ok (.iload_n 1, 1) := by decide +kernel
theorem dX3_letter_361 : decode cX3_letter 361 = .ok (.iconst 1, 1) := by decide +kernel
theorem dX3_letter_362 : decode cX3_letter 362 = .ok (.if_icmp .ne 8, 3) := by decide +kernel
theorem dX3_letter_365 : decode cX3_letter 365 = .ok (.bipush 114, 2) := by decide +kernel
theorem dX3_letter_367 : decode cX3_letter 367 = .ok (.goto 45, 3) := by decide +kernel
theorem dX3_letter_370 : decode cX3_letter 370 = .ok (.iload_n 1, 1) := by decide +kernel
theorem dX3_letter_371 : decode cX3_letter 371 = .ok (.iconst 2, 1) := by decide +kernel
theorem dX3_letter_372 : decode cX3_letter 372 = .ok (.if_icmp .ne 8, 3) := by decide +kernel
theorem dX3_letter_375 : decode cX3_letter 375 = .ok (.bipush 111, 2) := by decide +kernel
theorem dX3_letter_377 : decode cX3_letter 377 = .ok (.goto 35, 3) := by decide +kernel
theorem dX3_letter_380 : decode cX3_letter 380 = .ok (.iload_n 1, 1) := by decide +kernel
theorem dX3_letter_381 : decode cX3_letter 381 = .ok (.iconst 3, 1) := by decide +kernel
theorem dX3_letter_382 : decode cX3_letter 382 = .ok (.if_icmp .ne 8, 3) := by decide +kernel
theorem dX3_letter_385 : decode cX3_letter 385 = .ok (.bipush 122, 2) := by decide +kernel
theorem dX3_letter_387 : decode cX3_letter 387 = .ok (.goto 25, 3) := by decide +kernel
theorem dX3_letter_390 : decode cX3_letter 390 = .ok (.iload_n 1, 1) := by decide +kernel
theorem dX3_letter_391 : decode cX3_letter 391 = .ok (.iconst 4, 1) := by decide +kernel
theorem dX3_letter_392 : decode cX3_letter 392 = .ok (.if_icmp .ne 8, 3) := by decide +kernel
theorem dX3_letter_395 : decode cX3_letter 395 = .ok (.bipush 101, 2) := by decide +kernel
theorem dX3_letter_397 : decode cX3_letter 397 = .ok (.goto 15, 3) := by decide +kernel
theorem dX3_letter_400 : decode cX3_letter 400 = .ok (.iload_n 1, 1) := by decide +kernel
theorem dX3_letter_401 : decode cX3_letter 401 = .ok (.iconst 5, 1) := by decide +kernel
theorem dX3_letter_402 : decode cX3_letter 402 = .ok (.if_icmp .ne 8, 3) := by decide +kernel
theorem dX3_letter_405 : decode cX3_letter 405 = .ok (.bipush 110, 2) := by decide +kernel
theorem dX3_letter_407 : decode cX3_letter 407 = .ok (.goto 5, 3) := by decide +kernel
theorem dX3_letter_410 : decode cX3_letter 410 = .ok (.bipush 32, 2) := by decide +kernel
theorem dX3_letter_412 : decode cX3_letter 412 = .ok (.ireturn, 1) := by decide +kernel
set_option maxRecDepth 20000 in
theorem ggX3_signOf_X3_letter : GoodIn wsX3_signOf wsX3_letter := goodIn_r _ [6] (by decide +kernel) (by decide +kernel)
set_option maxRecDepth 20000 in
theorem gX3_signOf_X3_letter : GoodIn wsX3_signOf (va_wsS RX3 95 yX3_letter wsX3_letter) := goodIn_app (goodIn_of _ (by decide +kernel)) ggX3_signOf_X3_letter
theorem dX3_signOf_0 : decode cX3_signOf 0 = .ok (.iconst 0, 1) := by decide +kernel
theorem dX3_signOf_1 : decode cX3_signOf 1 = .ok (.istore_n 3, 1) := by decide +kernel
theorem dX3_signOf_2 : decode cX3_signOf 2 = .ok (.aload_n 0, 1) := by decide +kernel
theorem dX3_signOf_3 : decode cX3_signOf 3 = .ok (.getfield 13, 3) := by decide +kernel
theorem dX3_signOf_6 : decode cX3_signOf 6 = .ok (.iload_n 1, 1) := by decide +kernel
theorem dX3_signOf_7 : decode cX3_signOf 7 = .ok (.iaload, 1) := by decide +kernel
theorem dX3_signOf_8 : decode cX3_signOf 8 = .ok (.iload_n 3, 1) := by decide +kernel
theorem dX3_signOf_9 : decode cX3_signOf 9 = .ok (.invokestatic 95, 3) := by decide +kernel
theorem dX3_signOf_12 : decode cX3_signOf 12 = .ok (.bipush 32, 2) := by decide +kernel
theorem dX3_signOf_14 : decode cX3_signOf 14 = .ok (.if_icmp .eq 9, 3) := by decide +kernel
theorem dX3_signOf_17 : decode cX3_signOf 17 = .ok (.iinc 3 1, 3) := by decide +kernel
theorem dX3_signOf_20 : decode cX3_signOf 20 = .ok (.goto (-18), 3) := by decide +kernel
theorem dX3_signOf_23 : decode cX3_signOf 23 = .ok (.iload_n 2, 1) := by decide +kernel
theorem dX3_signOf_24 : decode cX3_signOf 24 = .ok (.ifCond .lt 19, 3) := by decide +kernel
theorem dX3_signOf_27 : decode cX3_signOf 27 = .ok (.iload_n 2, 1) := by decide +kernel
theorem dX3_signOf_28 : decode cX3_signOf 28 = .ok (.iload_n 3, 1) := by decide +kernel
theorem dX3_signOf_29 : decode cX3_signOf 29 = .ok (.if_icmp .ge 14, 3) := by decide +kernel
theorem dX3_signOf_32 : decode cX3_signOf 32 = .ok (.aload_n 0, 1) := by decide +kernel
theorem dX3_signOf_33 : decode cX3_signOf 33 = .ok (.getfield 13, 3) := by decide +kernel
theorem dX3_signOf_36 : decode cX3_signOf 36 = .ok (.iload_n 1, 1) := by decide +kernel
theorem dX3_signOf_37 : decode cX3_signOf 37 = .ok (.iaload, 1) := by decide +kernel
theorem dX3_signOf_38 : decode cX3_signOf 38 = .ok (.iload_n 2, 1) := by decide +kernel
theorem dX3_signOf_39 : decode cX3_signOf 39 = .ok (.invokestatic 95, 3) := by decide +kernel
theorem dX3_signOf_42 : decode cX3_signOf 42 = .ok (.ireturn, 1) := by decide +kernel
theorem dX3_signOf_43 : decode cX3_signOf 43 = .ok (.aload_n 0, 1) := by decide +kernel
theorem dX3_signOf_44 : decode cX3_signOf 44 = .ok (.getfield 13, 3) := by decide +kernel
theorem dX3_signOf_47 : decode cX3_signOf 47 = .ok (.iload_n 1, 1) := by decide +kernel
theorem dX3_signOf_48 : decode cX3_signOf 48 = .ok (.iaload, 1) := by decide +kernel
theorem dX3_signOf_49 : decode cX3_signOf 49 = .ok (.iconst 2, 1) := by decide +kernel
theorem dX3_signOf_50 : decode cX3_signOf 50 = .ok (.if_icmp .lt 17, 3) := by decide +kernel
theorem dX3_signOf_53 : decode cX3_signOf 53 = .ok (.aload_n 0, 1) := by decide +kernel
theorem dX3_signOf_54 : decode cX3_signOf 54 = .ok (.getfield 16, 3) := by decide +kernel
theorem dX3_signOf_57 : decode cX3_signOf 57 = .ok (.iload_n 1, 1) := by decide +kernel
theorem dX3_signOf_58 : decode cX3_signOf 58 = .ok (.iaload, 1) := by decide +kernel
theorem dX3_signOf_59 : decode cX3_signOf 59 = .ok (.iconst (-1), 1) := by decide +kernel
theorem dX3_signOf_60 : decode cX3_signOf 60 = .ok (.if_icmp .eq 7, 3) := by decide +kernel
theorem dX3_signOf_63 : decode cX3_signOf 63 = .ok (.iconst 1, 1) := by decide +kernel
theorem dX3_signOf_64 : decode cX3_signOf 64 = .ok (.goto 4, 3) := by decide +kernel
theorem dX3_signOf_67 : decode cX3_signOf 67 = .ok (.iconst 0, 1) := by decide +kernel
theorem dX3_signOf_68 : decode cX3_signOf 68 = .ok (.istore 4, 2) := by decide +kernel
theorem dX3_signOf_70 : decode cX3_signOf 70 = .ok (.iload 4, 2) := by decide +kernel
theorem dX3_signOf_72 : decode cX3_signOf 72 = .ok (.ifCond .ne 8, 3) := by decide +kernel
theorem dX3_signOf_75 : decode cX3_signOf 75 = .ok (.bipush 32, 2) := by decide +kernel
theorem dX3_signOf_77 : decode cX3_signOf 77 = .ok (.goto 35, 3) := by decide +kernel
theorem dX3_signOf_80 : decode cX3_signOf 80 = .ok (.iload_n 2, 1) := by decide +kernel
theorem dX3_signOf_81 : decode cX3_signOf 81 = .ok (.iload_n 3, 1) := by decide +kernel
theorem dX3_signOf_82 : decode cX3_signOf 82 = .ok (.if_icmp .ne 8, 3) := by decide +kernel
theorem dX3_signOf_85 : decode cX3_signOf 85 = .ok (.bipush 58, 2) := by decide +kernel
theorem dX3_signOf_87 : decode cX3_signOf 87 = .ok (.goto 25, 3) := by decide +kernel
theorem dX3_signOf_90 : decode cX3_signOf 90 = .ok (.iload_n 2, 1) := by decide +kernel
theorem dX3_signOf_91 : decode cX3_signOf 91 = .ok (.iload_n 3, 1) := by decide +kernel
theorem dX3_signOf_92 : decode cX3_signOf 92 = .ok (.iconst 1, 1) := by decide +kernel
theorem dX3_signOf_93 : decode cX3_signOf 93 = .ok (.iadd, 1) := by decide +kernel
theorem dX3_signOf_94 : decode cX3_signOf 94 = .ok (.if_icmp .ne 16, 3) := by decide +kernel
theorem dX3_signOf_97 : decode cX3_signOf 97 = .ok (.bipush 48, 2) := by decide +kernel
theorem dX3_signOf_99 : decode cX3_signOf 99 = .ok (.aload_n 0, 1) := by decide +kernel
theorem dX3_signOf_100 : decode cX3_signOf 100 = .ok (.getfield 16, 3) := by decide +kernel
theorem dX3_signOf_103 : decode cX3_signOf 103 = .ok (.iload_n 1, 1) := by decide +kernel
theorem dX3_signOf_104 : decode cX3_signOf 104 = .ok (.iaload, 1) := by decide +kernel
theorem dX3_signOf_105 : decode cX3_signOf 105 = .ok (.iadd, 1) := by decide +kernel
theorem dX3_signOf_106 : decode cX3_signOf 106 = .ok (.i2c, 1) := by decide +kernel
theorem dX3_signOf_107 : decode cX3_signOf 107 = .ok (.goto 5, 3) := by decide +kernel
theorem dX3_signOf_110 : decode cX3_signOf 110 = .ok (.bipush 32, 2) := by decide +kernel
theorem dX3_signOf_112 : decode cX3_signOf 112 = .ok (.ireturn, 1) := by decide +kernel
set_option maxRecDepth 20000 in
theorem ggX3_sign_X3_isName : GoodIn wsX3_sign wsX3_isName := goodIn_r _ [4, 5, 6, 3, 7] (by decide +kernel) (by decide +kernel)
set_option maxRecDepth 20000 in
theorem gX3_sign_X3_isName : GoodIn wsX3_sign (va_wsS RX3 68 yX3_isName wsX3_isName) := goodIn_app (goodIn_of _ (by decide +kernel)) ggX3_sign_X3_isName
set_option maxRecDepth 20000 in
theorem ggX3_sign_X3_signOf : GoodIn wsX3_sign wsX3_signOf := goodIn_r _ [11, 12, 13, 14, 15, 3, 16, 22, 23, 24, 25, 26, 27, 28, 29, 30, 31, 32, 33, 34, 35, 36, 37, 38, 39] (by decide +kernel) (by decide +kernel)
set_option maxRecDepth 20000 in
theorem gX3_sign_X3_signOf : GoodIn wsX3_sign (wsV RX3 99 RX3 yX3_signOf wsX3_signOf) := goodIn_app (goodIn_of _ (by decide +kernel)) ggX3_sign_X3_signOf
set_option maxRecDepth 20000 in
theorem ggX3_sign_X3_fails : GoodIn wsX3_sign wsX3_fails := goodIn_r _ [20, 21, 22, 23, 24, 25, 26, 27, 28, 29, 30, 31, 32, 33, 34, 35, 36, 37, 38, 39] (by decide +kernel) (by decide +kernel)
set_option maxRecDepth 20000 in
theorem gX3_sign_X3_fails : GoodIn wsX3_sign (wsV RX3 65 RX3 yX3_fails wsX3_fails) := goodIn_app (goodIn_of _ (by decide +kernel)) ggX3_sign_X3_fails
theorem dX3_sign_0 : decode cX3_sign 0 = .ok (.iload_n 1, 1) := by decide +kernel
theorem dX3_sign_1 : decode cX3_sign 1 = .ok (.invokestatic 68, 3) := by decide +kernel
theorem dX3_sign_4 : decode cX3_sign 4 = .ok (.ifCond .eq 18, 3) := by decide +kernel
theorem dX3_sign_7 : decode cX3_sign 7 = .ok (.aload_n 0, 1) := by decide +kernel
theorem dX3_sign_8 : decode cX3_sign 8 = .ok (.iload_n 1, 1) := by decide +kernel
theorem dX3_sign_9 : decode cX3_sign 9 = .ok (.iload_n 2, 1) := by decide +kernel
theorem dX3_sign_10 : decode cX3_sign 10 = .ok (.invokevirtual 99, 3) := by decide +kernel
theorem dX3_sign_13 : decode cX3_sign 13 = .ok (.bipush 32, 2) := by decide +kernel
theorem dX3_sign_15 : decode cX3_sign 15 = .ok (.if_icmp .eq 7, 3) := by decide +kernel
theorem dX3_sign_18 : decode cX3_sign 18 = .ok (.iconst 1, 1) := by decide +kernel
theorem dX3_sign_19 : decode cX3_sign 19 = .ok (.goto 4, 3) := by decide +kernel
theorem dX3_sign_22 : decode cX3_sign 22 = .ok (.iconst 0, 1) := by decide +kernel
theorem dX3_sign_23 : decode cX3_sign 23 = .ok (.istore_n 3, 1) := by decide +kernel
theorem dX3_sign_24 : decode cX3_sign 24 = .ok (.aload_n 0, 1) := by decide +kernel
theorem dX3_sign_25 : decode cX3_sign 25 = .ok (.iload_n 3, 1) := by decide +kernel
theorem dX3_sign_26 : decode cX3_sign 26 = .ok (.ifCond .eq 7, 3) := by decide +kernel
theorem dX3_sign_29 : decode cX3_sign 29 = .ok (.iconst 0, 1) := by decide +kernel
theorem dX3_sign_30 : decode cX3_sign 30 = .ok (.goto 4, 3) := by decide +kernel
theorem dX3_sign_33 : decode cX3_sign 33 = .ok (.iconst 1, 1) := by decide +kernel
theorem dX3_sign_34 : decode cX3_sign 34 = .ok (.invokevirtual 65, 3) := by decide +kernel
theorem dX3_sign_37 : decode cX3_sign 37 = .ok (.ifCond .eq 8, 3) := by decide +kernel
theorem dX3_sign_40 : decode cX3_sign 40 = .ok (.bipush 32, 2) := by decide +kernel
theorem dX3_sign_42 : decode cX3_sign 42 = .ok (.goto 9, 3) := by decide +kernel
theorem dX3_sign_45 : decode cX3_sign 45 = .ok (.aload_n 0, 1) := by decide +kernel
theorem dX3_sign_46 : decode cX3_sign 46 = .ok (.iload_n 1, 1) := by decide +kernel
theorem dX3_sign_47 : decode cX3_sign 47 = .ok (.iload_n 2, 1) := by decide +kernel
theorem dX3_sign_48 : decode cX3_sign 48 = .ok (.invokevirtual 99, 3) := by decide +kernel
theorem dX3_sign_51 : decode cX3_sign 51 = .ok (.ireturn, 1) := by decide +kernel
set_option maxRecDepth 20000 in
theorem ggX3_owner_X3_isName : GoodIn wsX3_owner wsX3_isName := goodIn_r _ [5, 6, 7, 4, 8] (by decide +kernel) (by decide +kernel)
set_option maxRecDepth 20000 in
theorem gX3_owner_X3_isName : GoodIn wsX3_owner (va_wsS RX3 68 yX3_isName wsX3_isName) := goodIn_app (goodIn_of _ (by decide +kernel)) ggX3_owner_X3_isName
set_option maxRecDepth 20000 in
theorem ggX3_owner_X3_fails : GoodIn wsX3_owner wsX3_fails := goodIn_r _ [12, 13, 14, 15, 16, 17, 18, 19, 20, 21, 22, 23, 24, 25, 26, 27, 28, 29, 30, 31] (by decide +kernel) (by decide +kernel)
set_option maxRecDepth 20000 in
theorem gX3_owner_X3_fails : GoodIn wsX3_owner (wsV RX3 65 RX3 yX3_fails wsX3_fails) := goodIn_app (goodIn_of _ (by decide +kernel)) ggX3_owner_X3_fails
theorem dX3_owner_0 : decode cX3_owner 0 = .ok (.aload_n 0, 1) := by decide +kernel
theorem dX3_owner_1 : decode cX3_owner 1 = .ok (.iload_n 1, 1) := by decide +kernel
theorem dX3_owner_2 : decode cX3_owner 2 = .ok (.invokestatic 68, 3) := by decide +kernel
theorem dX3_owner_5 : decode cX3_owner 5 = .ok (.ifCond .eq 7, 3) := by decide +kernel
theorem dX3_owner_8 : decode cX3_owner 8 = .ok (.iconst 0, 1) := by decide +kernel
theorem dX3_owner_9 : decode cX3_owner 9 = .ok (.goto 4, 3) := by decide +kernel
theorem dX3_owner_12 : decode cX3_owner 12 = .ok (.iconst 1, 1) := by decide +kernel
theorem dX3_owner_13 : decode cX3_owner 13 = .ok (.invokevirtual 65, 3) := by decide +kernel
theorem dX3_owner_16 : decode cX3_owner 16 = .ok (.ifCond .eq 7, 3) := by decide +kernel
theorem dX3_owner_19 : decode cX3_owner 19 = .ok (.iconst 0, 1) := by decide +kernel
theorem dX3_owner_20 : decode cX3_owner 20 = .ok (.goto 9, 3) := by decide +kernel
theorem dX3_owner_23 : decode cX3_owner 23 = .ok (.aload_n 0, 1) := by decide +kernel
theorem dX3_owner_24 : decode cX3_owner 24 = .ok (.getfield 16, 3) := by decide +kernel
theorem dX3_owner_27 : decode cX3_owner 27 = .ok (.iload_n 1, 1) := by decide +kernel
theorem dX3_owner_28 : decode cX3_owner 28 = .ok (.iaload, 1) := by decide +kernel
theorem dX3_owner_29 : decode cX3_owner 29 = .ok (.ireturn, 1) := by decide +kernel
theorem dX3_nextOf_0 : decode cX3_nextOf 0 = .ok (.aload_n 0, 1) := by decide +kernel
theorem dX3_nextOf_1 : decode cX3_nextOf 1 = .ok (.getfield 13, 3) := by decide +kernel
theorem dX3_nextOf_4 : decode cX3_nextOf 4 = .ok (.iload_n 1, 1) := by decide +kernel
theorem dX3_nextOf_5 : decode cX3_nextOf 5 = .ok (.iaload, 1) := by decide +kernel
theorem dX3_nextOf_6 : decode cX3_nextOf 6 = .ok (.istore_n 2, 1) := by decide +kernel
theorem dX3_nextOf_7 : decode cX3_nextOf 7 = .ok (.iload_n 2, 1) := by decide +kernel
theorem dX3_nextOf_8 : decode cX3_nextOf 8 = .ok (.ifCond .eq 8, 3) := by decide +kernel
theorem dX3_nextOf_11 : decode cX3_nextOf 11 = .ok (.iload_n 2, 1) := by decide +kernel
theorem dX3_nextOf_12 : decode cX3_nextOf 12 = .ok (.iconst 5, 1) := by decide +kernel
theorem dX3_nextOf_13 : decode cX3_nextOf 13 = .ok (.if_icmp .ne 7, 3) := by decide +kernel
theorem dX3_nextOf_16 : decode cX3_nextOf 16 = .ok (.iconst (-1), 1) := by decide +kernel
theorem dX3_nextOf_17 : decode cX3_nextOf 17 = .ok (.goto 31, 3) := by decide +kernel
theorem dX3_nextOf_20 : decode cX3_nextOf 20 = .ok (.aload_n 0, 1) := by decide +kernel
theorem dX3_nextOf_21 : decode cX3_nextOf 21 = .ok (.getfield 19, 3) := by decide +kernel
theorem dX3_nextOf_24 : decode cX3_nextOf 24 = .ok (.iload_n 1, 1) := by decide +kernel
theorem dX3_nextOf_25 : decode cX3_nextOf 25 = .ok (.iaload, 1) := by decide +kernel
theorem dX3_nextOf_26 : decode cX3_nextOf 26 = .ok (.iload_n 2, 1) := by decide +kernel
theorem dX3_nextOf_27 : decode cX3_nextOf 27 = .ok (.iconst 3, 1) := by decide +kernel
theorem dX3_nextOf_28 : decode cX3_nextOf 28 = .ok (.if_icmp .ne 8, 3) := by decide +kernel
theorem dX3_nextOf_31 : decode cX3_nextOf 31 = .ok (.bipush 10, 2) := by decide +kernel
theorem dX3_nextOf_33 : decode cX3_nextOf 33 = .ok (.goto 14, 3) := by decide +kernel
theorem dX3_nextOf_36 : decode cX3_nextOf 36 = .ok (.iload_n 2, 1) := by decide +kernel
theorem dX3_nextOf_37 : decode cX3_nextOf 37 = .ok (.iconst 4, 1) := by decide +kernel
theorem dX3_nextOf_38 : decode cX3_nextOf 38 = .ok (.if_icmp .ne 8, 3) := by decide +kernel
theorem dX3_nextOf_41 : decode cX3_nextOf 41 = .ok (.bipush 20, 2) := by decide +kernel
theorem dX3_nextOf_43 : decode cX3_nextOf 43 = .ok (.goto 4, 3) := by decide +kernel
theorem dX3_nextOf_46 : decode cX3_nextOf 46 = .ok (.iconst 0, 1) := by decide +kernel
theorem dX3_nextOf_47 : decode cX3_nextOf 47 = .ok (.iadd, 1) := by decide +kernel
theorem dX3_nextOf_48 : decode cX3_nextOf 48 = .ok (.ireturn, 1) := by decide +kernel
set_option maxRecDepth 20000 in
theorem ggX3_next_X3_isName : GoodIn wsX3_next wsX3_isName := goodIn_r _ [4, 5, 6, 3, 7] (by decide +kernel) (by decide +kernel)
set_option maxRecDepth 20000 in
theorem gX3_next_X3_isName : GoodIn wsX3_next (va_wsS RX3 68 yX3_isName wsX3_isName) := goodIn_app (goodIn_of _ (by decide +kernel)) ggX3_next_X3_isName
set_option maxRecDepth 20000 in
theorem ggX3_next_X3_fails : GoodIn wsX3_next wsX3_fails := goodIn_r _ [11, 12, 19, 20, 21, 22, 23, 24, 25, 26, 27, 28, 29, 30, 31, 32, 33, 34, 35, 36] (by decide +kernel) (by decide +kernel)
set_option maxRecDepth 20000 in
theorem gX3_next_X3_fails : GoodIn wsX3_next (wsV RX3 65 RX3 yX3_fails wsX3_fails) := goodIn_app (goodIn_of _ (by decide +kernel)) ggX3_next_X3_fails
set_option maxRecDepth 20000 in
theorem ggX3_next_X3_nextOf : GoodIn wsX3_next wsX3_nextOf := goodIn_r _ [16, 17, 18, 19, 20, 21, 22, 23, 24, 25, 26, 27, 28, 29, 30, 31, 32, 33, 34, 35, 36] (by decide +kernel) (by decide +kernel)
set_option maxRecDepth 20000 in
theorem gX3_next_X3_nextOf : GoodIn wsX3_next (wsV RX3 102 RX3 yX3_nextOf wsX3_nextOf) := goodIn_app (goodIn_of _ (by decide +kernel)) ggX3_next_X3_nextOf
theorem dX3_next_0 : decode cX3_next 0 = .ok (.aload_n 0, 1) := by decide +kernel
theorem dX3_next_1 : decode cX3_next 1 = .ok (.iload_n 1, 1) := by decide +kernel
theorem dX3_next_2 : decode cX3_next 2 = .ok (.invokestatic 68, 3) := by decide +kernel
theorem dX3_next_5 : decode cX3_next 5 = .ok (.ifCond .eq 7, 3) := by decide +kernel
theorem dX3_next_8 : decode cX3_next 8 = .ok (.iconst 0, 1) := by decide +kernel
theorem dX3_next_9 : decode cX3_next 9 = .ok (.goto 4, 3) := by decide +kernel
theorem dX3_next_12 : decode cX3_next 12 = .ok (.iconst 1, 1) := by decide +kernel
theorem dX3_next_13 : decode cX3_next 13 = .ok (.invokevirtual 65, 3) := by decide +kernel
theorem dX3_next_16 : decode cX3_next 16 = .ok (.ifCond .eq 7, 3) := by decide +kernel
theorem dX3_next_19 : decode cX3_next 19 = .ok (.iconst 0, 1) := by decide +kernel
theorem dX3_next_20 : decode cX3_next 20 = .ok (.goto 8, 3) := by decide +kernel
theorem dX3_next_23 : decode cX3_next 23 = .ok (.aload_n 0, 1) := by decide +kernel
theorem dX3_next_24 : decode cX3_next 24 = .ok (.iload_n 1, 1) := by decide +kernel
theorem dX3_next_25 : decode cX3_next 25 = .ok (.invokevirtual 102, 3) := by decide +kernel
theorem dX3_next_28 : decode cX3_next 28 = .ok (.ireturn, 1) := by decide +kernel
set_option maxRecDepth 20000 in
theorem ggX3_dispute_X3_isOwner : GoodIn wsX3_dispute wsX3_isOwner := goodIn_r _ [10, 11, 12, 9, 13] (by decide +kernel) (by decide +kernel)
set_option maxRecDepth 20000 in
theorem gX3_dispute_X3_isOwner : GoodIn wsX3_dispute (va_wsS RX3 60 yX3_isOwner wsX3_isOwner) := goodIn_app (goodIn_of _ (by decide +kernel)) ggX3_dispute_X3_isOwner
set_option maxRecDepth 20000 in
theorem ggX3_dispute_X3_isName : GoodIn wsX3_dispute wsX3_isName := goodIn_r _ [16, 11, 12, 9, 13] (by decide +kernel) (by decide +kernel)
set_option maxRecDepth 20000 in
theorem gX3_dispute_X3_isName : GoodIn wsX3_dispute (va_wsS RX3 68 yX3_isName wsX3_isName) := goodIn_app (goodIn_of _ (by decide +kernel)) ggX3_dispute_X3_isName
set_option maxRecDepth 20000 in
theorem ggX3_dispute_X3_isIn : GoodIn wsX3_dispute wsX3_isIn := goodIn_r _ [13] (by decide +kernel) (by decide +kernel)
set_option maxRecDepth 20000 in
theorem gX3_dispute_X3_isIn : GoodIn wsX3_dispute (va_wsS RX3 56 yX3_isIn wsX3_isIn) := goodIn_app (goodIn_of _ (by decide +kernel)) ggX3_dispute_X3_isIn
set_option maxRecDepth 20000 in
theorem ggX3_dispute_X3_fails : GoodIn wsX3_dispute wsX3_fails := goodIn_r _ [20, 21, 27, 28, 29, 30, 31, 32, 33, 34, 35, 36, 37, 38, 39, 40, 41, 42, 43, 44] (by decide +kernel) (by decide +kernel)
set_option maxRecDepth 20000 in
theorem gX3_dispute_X3_fails : GoodIn wsX3_dispute (wsV RX3 65 RX3 yX3_fails wsX3_fails) := goodIn_app (goodIn_of _ (by decide +kernel)) ggX3_dispute_X3_fails
set_option maxRecDepth 20000 in
theorem ggX3_dispute_X3_clears : GoodIn wsX3_dispute wsX3_clears := goodIn_r _ [25, 26, 27, 28, 29, 30, 31, 32, 33, 34, 35, 36, 37, 38, 39, 40, 41, 42, 43, 44] (by decide +kernel) (by decide +kernel)
set_option maxRecDepth 20000 in
theorem gX3_dispute_X3_clears : GoodIn wsX3_dispute (wsV RX3 84 RX3 yX3_clears wsX3_clears) := goodIn_app (goodIn_of _ (by decide +kernel)) ggX3_dispute_X3_clears
theorem dX3_dispute_0 : decode cX3_dispute 0 = .ok (.iload_n 1, 1) := by decide +kernel
theorem dX3_dispute_1 : decode cX3_dispute 1 = .ok (.invokestatic 60, 3) := by decide +kernel
theorem dX3_dispute_4 : decode cX3_dispute 4 = .ok (.ifCond .eq 14, 3) := by decide +kernel
theorem dX3_dispute_7 : decode cX3_dispute 7 = .ok (.iload_n 2, 1) := by decide +kernel
theorem dX3_dispute_8 : decode cX3_dispute 8 = .ok (.invokestatic 68, 3) := by decide +kernel
theorem dX3_dispute_11 : decode cX3_dispute 11 = .ok (.ifCond .eq 7, 3) := by decide +kernel
theorem dX3_dispute_14 : decode cX3_dispute 14 = .ok (.iconst 1, 1) := by decide +kernel
theorem dX3_dispute_15 : decode cX3_dispute 15 = .ok (.goto 4, 3) := by decide +kernel
theorem dX3_dispute_18 : decode cX3_dispute 18 = .ok (.iconst 0, 1) := by decide +kernel
theorem dX3_dispute_19 : decode cX3_dispute 19 = .ok (.istore_n 3, 1) := by decide +kernel
theorem dX3_dispute_20 : decode cX3_dispute 20 = .ok (.aload_n 0, 1) := by decide +kernel
theorem dX3_dispute_21 : decode cX3_dispute 21 = .ok (.iload_n 3, 1) := by decide +kernel
theorem dX3_dispute_22 : decode cX3_dispute 22 = .ok (.ifCond .ne 7, 3) := by decide +kernel
theorem dX3_dispute_25 : decode cX3_dispute 25 = .ok (.iconst 1, 1) := by decide +kernel
theorem dX3_dispute_26 : decode cX3_dispute 26 = .ok (.goto 32, 3) := by decide +kernel
theorem dX3_dispute_29 : decode cX3_dispute 29 = .ok (.aload_n 0, 1) := by decide +kernel
theorem dX3_dispute_30 : decode cX3_dispute 30 = .ok (.getfield 13, 3) := by decide +kernel
theorem dX3_dispute_33 : decode cX3_dispute 33 = .ok (.iload_n 2, 1) := by decide +kernel
theorem dX3_dispute_34 : decode cX3_dispute 34 = .ok (.iaload, 1) := by decide +kernel
theorem dX3_dispute_35 : decode cX3_dispute 35 = .ok (.iconst 1, 1) := by decide +kernel
theorem dX3_dispute_36 : decode cX3_dispute 36 = .ok (.iconst 3, 1) := by decide +kernel
theorem dX3_dispute_37 : decode cX3_dispute 37 = .ok (.invokestatic 56, 3) := by decide +kernel
theorem dX3_dispute_40 : decode cX3_dispute 40 = .ok (.ifCond .eq 13, 3) := by decide +kernel
theorem dX3_dispute_43 : decode cX3_dispute 43 = .ok (.aload_n 0, 1) := by decide +kernel
theorem dX3_dispute_44 : decode cX3_dispute 44 = .ok (.getfield 16, 3) := by decide +kernel
theorem dX3_dispute_47 : decode cX3_dispute 47 = .ok (.iload_n 2, 1) := by decide +kernel
theorem dX3_dispute_48 : decode cX3_dispute 48 = .ok (.iaload, 1) := by decide +kernel
theorem dX3_dispute_49 : decode cX3_dispute 49 = .ok (.iload_n 1, 1) := by decide +kernel
theorem dX3_dispute_50 : decode cX3_dispute 50 = .ok (.if_icmp .ne 7, 3) := by decide +kernel
theorem dX3_dispute_53 : decode cX3_dispute 53 = .ok (.iconst 2, 1) := by decide +kernel
theorem dX3_dispute_54 : decode cX3_dispute 54 = .ok (.goto 4, 3) := by decide +kernel
theorem dX3_dispute_57 : decode cX3_dispute 57 = .ok (.iconst 0, 1) := by decide +kernel
theorem dX3_dispute_58 : decode cX3_dispute 58 = .ok (.invokevirtual 65, 3) := by decide +kernel
theorem dX3_dispute_61 : decode cX3_dispute 61 = .ok (.ifCond .eq 5, 3) := by decide +kernel
theorem dX3_dispute_64 : decode cX3_dispute 64 = .ok (.iconst 0, 1) := by decide +kernel
theorem dX3_dispute_65 : decode cX3_dispute 65 = .ok (.ireturn, 1) := by decide +kernel
theorem dX3_dispute_66 : decode cX3_dispute 66 = .ok (.aload_n 0, 1) := by decide +kernel
theorem dX3_dispute_67 : decode cX3_dispute 67 = .ok (.getfield 34, 3) := by decide +kernel
theorem dX3_dispute_70 : decode cX3_dispute 70 = .ok (.iload_n 2, 1) := by decide +kernel
theorem dX3_dispute_71 : decode cX3_dispute 71 = .ok (.aload_n 0, 1) := by decide +kernel
theorem dX3_dispute_72 : decode cX3_dispute 72 = .ok (.getfield 13, 3) := by decide +kernel
theorem dX3_dispute_75 : decode cX3_dispute 75 = .ok (.iload_n 2, 1) := by decide +kernel
theorem dX3_dispute_76 : decode cX3_dispute 76 = .ok (.iaload, 1) := by decide +kernel
theorem dX3_dispute_77 : decode cX3_dispute 77 = .ok (.iastore, 1) := by decide +kernel
theorem dX3_dispute_78 : decode cX3_dispute 78 = .ok (.aload_n 0, 1) := by decide +kernel
theorem dX3_dispute_79 : decode cX3_dispute 79 = .ok (.getfield 28, 3) := by decide +kernel
theorem dX3_dispute_82 : decode cX3_dispute 82 = .ok (.iload_n 2, 1) := by decide +kernel
theorem dX3_dispute_83 : decode cX3_dispute 83 = .ok (.iload_n 1, 1) := by decide +kernel
theorem dX3_dispute_84 : decode cX3_dispute 84 = .ok (.iastore, 1) := by decide +kernel
theorem dX3_dispute_85 : decode cX3_dispute 85 = .ok (.aload_n 0, 1) := by decide +kernel
theorem dX3_dispute_86 : decode cX3_dispute 86 = .ok (.getfield 31, 3) := by decide +kernel
theorem dX3_dispute_89 : decode cX3_dispute 89 = .ok (.iload_n 2, 1) := by decide +kernel
theorem dX3_dispute_90 : decode cX3_dispute 90 = .ok (.aload_n 0, 1) := by decide +kernel
theorem dX3_dispute_91 : decode cX3_dispute 91 = .ok (.getfield 71, 3) := by decide +kernel
theorem dX3_dispute_94 : decode cX3_dispute 94 = .ok (.iastore, 1) := by decide +kernel
theorem dX3_dispute_95 : decode cX3_dispute 95 = .ok (.aload_n 0, 1) := by decide +kernel
theorem dX3_dispute_96 : decode cX3_dispute 96 = .ok (.getfield 13, 3) := by decide +kernel
theorem dX3_dispute_99 : decode cX3_dispute 99 = .ok (.iload_n 2, 1) := by decide +kernel
theorem dX3_dispute_100 : decode cX3_dispute 100 = .ok (.iconst 5, 1) := by decide +kernel
theorem dX3_dispute_101 : decode cX3_dispute 101 = .ok (.iastore, 1) := by decide +kernel
theorem dX3_dispute_102 : decode cX3_dispute 102 = .ok (.aload_n 0, 1) := by decide +kernel
theorem dX3_dispute_103 : decode cX3_dispute 103 = .ok (.iload_n 2, 1) := by decide +kernel
theorem dX3_dispute_104 : decode cX3_dispute 104 = .ok (.invokevirtual 84, 3) := by decide +kernel
theorem dX3_dispute_107 : decode cX3_dispute 107 = .ok (.aload_n 0, 1) := by decide +kernel
theorem dX3_dispute_108 : decode cX3_dispute 108 = .ok (.getfield 34, 3) := by decide +kernel
theorem dX3_dispute_111 : decode cX3_dispute 111 = .ok (.iload_n 2, 1) := by decide +kernel
theorem dX3_dispute_112 : decode cX3_dispute 112 = .ok (.iaload, 1) := by decide +kernel
theorem dX3_dispute_113 : decode cX3_dispute 113 = .ok (.ireturn, 1) := by decide +kernel
set_option maxRecDepth 20000 in
theorem ggX3_decide_X3_isName : GoodIn wsX3_decide wsX3_isName := goodIn_r _ [11, 12, 13, 10, 14] (by decide +kernel) (by decide +kernel)
set_option maxRecDepth 20000 in
theorem gX3_decide_X3_isName : GoodIn wsX3_decide (va_wsS RX3 68 yX3_isName wsX3_isName) := goodIn_app (goodIn_of _ (by decide +kernel)) ggX3_decide_X3_isName
set_option maxRecDepth 20000 in
theorem ggX3_decide_X3_fails : GoodIn wsX3_decide wsX3_fails := goodIn_r _ [18, 19, 26, 27, 28, 29, 30, 31, 32, 33, 34, 35, 36, 37, 38, 39, 40, 41, 42, 43] (by decide +kernel) (by decide +kernel)
set_option maxRecDepth 20000 in
theorem gX3_decide_X3_fails : GoodIn wsX3_decide (wsV RX3 65 RX3 yX3_fails wsX3_fails) := goodIn_app (goodIn_of _ (by decide +kernel)) ggX3_decide_X3_fails
set_option maxRecDepth 20000 in
theorem ggX3_decide_X3_leases : GoodIn wsX3_decide wsX3_leases := goodIn_r _ [23, 1, 7, 4, 5, 24, 25, 26, 27, 28, 29, 30, 31, 32, 33, 34, 35, 36, 37, 38, 39, 40, 41, 42, 43] (by decide +kernel) (by decide +kernel)
set_option maxRecDepth 20000 in
theorem gX3_decide_X3_leases : GoodIn wsX3_decide (wsV RX3 92 RX3 yX3_leases wsX3_leases) := goodIn_app (goodIn_of _ (by decide +kernel)) ggX3_decide_X3_leases
theorem dX3_decide_0 : decode cX3_decide 0 = .ok (.iload_n 1, 1) := by decide +kernel
theorem dX3_decide_1 : decode cX3_decide 1 = .ok (.invokestatic 68, 3) := by decide +kernel
theorem dX3_decide_4 : decode cX3_decide 4 = .ok (.istore_n 3, 1) := by decide +kernel
theorem dX3_decide_5 : decode cX3_decide 5 = .ok (.aload_n 0, 1) := by decide +kernel
theorem dX3_decide_6 : decode cX3_decide 6 = .ok (.iload_n 3, 1) := by decide +kernel
theorem dX3_decide_7 : decode cX3_decide 7 = .ok (.ifCond .ne 7, 3) := by decide +kernel
theorem dX3_decide_10 : decode cX3_decide 10 = .ok (.iconst 1, 1) := by decide +kernel
theorem dX3_decide_11 : decode cX3_decide 11 = .ok (.goto 18, 3) := by decide +kernel
theorem dX3_decide_14 : decode cX3_decide 14 = .ok (.aload_n 0, 1) := by decide +kernel
theorem dX3_decide_15 : decode cX3_decide 15 = .ok (.getfield 13, 3) := by decide +kernel
theorem dX3_decide_18 : decode cX3_decide 18 = .ok (.iload_n 1, 1) := by decide +kernel
theorem dX3_decide_19 : decode cX3_decide 19 = .ok (.iaload, 1) := by decide +kernel
theorem dX3_decide_20 : decode cX3_decide 20 = .ok (.iconst 5, 1) := by decide +kernel
theorem dX3_decide_21 : decode cX3_decide 21 = .ok (.if_icmp .ne 7, 3) := by decide +kernel
theorem dX3_decide_24 : decode cX3_decide 24 = .ok (.iconst 0, 1) := by decide +kernel
theorem dX3_decide_25 : decode cX3_decide 25 = .ok (.goto 4, 3) := by decide +kernel
theorem dX3_decide_28 : decode cX3_decide 28 = .ok (.iconst 2, 1) := by decide +kernel
theorem dX3_decide_29 : decode cX3_decide 29 = .ok (.invokevirtual 65, 3) := by decide +kernel
theorem dX3_decide_32 : decode cX3_decide 32 = .ok (.ifCond .eq 5, 3) := by decide +kernel
theorem dX3_decide_35 : decode cX3_decide 35 = .ok (.iconst 0, 1) := by decide +kernel
theorem dX3_decide_36 : decode cX3_decide 36 = .ok (.ireturn, 1) := by decide +kernel
theorem dX3_decide_37 : decode cX3_decide 37 = .ok (.aload_n 0, 1) := by decide +kernel
theorem dX3_decide_38 : decode cX3_decide 38 = .ok (.getfield 34, 3) := by decide +kernel
theorem dX3_decide_41 : decode cX3_decide 41 = .ok (.iload_n 1, 1) := by decide +kernel
theorem dX3_decide_42 : decode cX3_decide 42 = .ok (.iaload, 1) := by decide +kernel
theorem dX3_decide_43 : decode cX3_decide 43 = .ok (.iconst 1, 1) := by decide +kernel
theorem dX3_decide_44 : decode cX3_decide 44 = .ok (.if_icmp .ne 32, 3) := by decide +kernel
theorem dX3_decide_47 : decode cX3_decide 47 = .ok (.aload_n 0, 1) := by decide +kernel
theorem dX3_decide_48 : decode cX3_decide 48 = .ok (.getfield 13, 3) := by decide +kernel
theorem dX3_decide_51 : decode cX3_decide 51 = .ok (.iload_n 1, 1) := by decide +kernel
theorem dX3_decide_52 : decode cX3_decide 52 = .ok (.iconst 0, 1) := by decide +kernel
theorem dX3_decide_53 : decode cX3_decide 53 = .ok (.iastore, 1) := by decide +kernel
theorem dX3_decide_54 : decode cX3_decide 54 = .ok (.iload_n 2, 1) := by decide +kernel
theorem dX3_decide_55 : decode cX3_decide 55 = .ok (.ifCond .eq 14, 3) := by decide +kernel
theorem dX3_decide_58 : decode cX3_decide 58 = .ok (.aload_n 0, 1) := by decide +kernel
theorem dX3_decide_59 : decode cX3_decide 59 = .ok (.iload_n 1, 1) := by decide +kernel
theorem dX3_decide_60 : decode cX3_decide 60 = .ok (.aload_n 0, 1) := by decide +kernel
theorem dX3_decide_61 : decode cX3_decide 61 = .ok (.getfield 28, 3) := by decide +kernel
theorem dX3_decide_64 : decode cX3_decide 64 = .ok (.iload_n 1, 1) := by decide +kernel
theorem dX3_decide_65 : decode cX3_decide 65 = .ok (.iaload, 1) := by decide +kernel
theorem dX3_decide_66 : decode cX3_decide 66 = .ok (.invokevirtual 92, 3) := by decide +kernel
theorem dX3_decide_69 : decode cX3_decide 69 = .ok (.aload_n 0, 1) := by decide +kernel
theorem dX3_decide_70 : decode cX3_decide 70 = .ok (.getfield 13, 3) := by decide +kernel
theorem dX3_decide_73 : decode cX3_decide 73 = .ok (.iload_n 1, 1) := by decide +kernel
theorem dX3_decide_74 : decode cX3_decide 74 = .ok (.iaload, 1) := by decide +kernel
theorem dX3_decide_75 : decode cX3_decide 75 = .ok (.ireturn, 1) := by decide +kernel
theorem dX3_decide_76 : decode cX3_decide 76 = .ok (.aload_n 0, 1) := by decide +kernel
theorem dX3_decide_77 : decode cX3_decide 77 = .ok (.getfield 13, 3) := by decide +kernel
theorem dX3_decide_80 : decode cX3_decide 80 = .ok (.iload_n 1, 1) := by decide +kernel
theorem dX3_decide_81 : decode cX3_decide 81 = .ok (.aload_n 0, 1) := by decide +kernel
theorem dX3_decide_82 : decode cX3_decide 82 = .ok (.getfield 34, 3) := by decide +kernel
theorem dX3_decide_85 : decode cX3_decide 85 = .ok (.iload_n 1, 1) := by decide +kernel
theorem dX3_decide_86 : decode cX3_decide 86 = .ok (.iaload, 1) := by decide +kernel
theorem dX3_decide_87 : decode cX3_decide 87 = .ok (.iastore, 1) := by decide +kernel
theorem dX3_decide_88 : decode cX3_decide 88 = .ok (.aload_n 0, 1) := by decide +kernel
theorem dX3_decide_89 : decode cX3_decide 89 = .ok (.getfield 19, 3) := by decide +kernel
theorem dX3_decide_92 : decode cX3_decide 92 = .ok (.iload_n 1, 1) := by decide +kernel
theorem dX3_decide_93 : decode cX3_decide 93 = .ok (.dup2, 1) := by decide +kernel
theorem dX3_decide_94 : decode cX3_decide 94 = .ok (.iaload, 1) := by decide +kernel
theorem dX3_decide_95 : decode cX3_decide 95 = .ok (.aload_n 0, 1) := by decide +kernel
theorem dX3_decide_96 : decode cX3_decide 96 = .ok (.getfield 71, 3) := by decide +kernel
theorem dX3_decide_99 : decode cX3_decide 99 = .ok (.aload_n 0, 1) := by decide +kernel
theorem dX3_decide_100 : decode cX3_decide 100 = .ok (.getfield 31, 3) := by decide +kernel
theorem dX3_decide_103 : decode cX3_decide 103 = .ok (.iload_n 1, 1) := by decide +kernel
theorem dX3_decide_104 : decode cX3_decide 104 = .ok (.iaload, 1) := by decide +kernel
theorem dX3_decide_105 : decode cX3_decide 105 = .ok (.isub, 1) := by decide +kernel
theorem dX3_decide_106 : decode cX3_decide 106 = .ok (.iadd, 1) := by decide +kernel
theorem dX3_decide_107 : decode cX3_decide 107 = .ok (.iastore, 1) := by decide +kernel
theorem dX3_decide_108 : decode cX3_decide 108 = .ok (.aload_n 0, 1) := by decide +kernel
theorem dX3_decide_109 : decode cX3_decide 109 = .ok (.getfield 16, 3) := by decide +kernel
theorem dX3_decide_112 : decode cX3_decide 112 = .ok (.iload_n 1, 1) := by decide +kernel
theorem dX3_decide_113 : decode cX3_decide 113 = .ok (.iload_n 2, 1) := by decide +kernel
theorem dX3_decide_114 : decode cX3_decide 114 = .ok (.ifCond .eq 12, 3) := by decide +kernel
theorem dX3_decide_117 : decode cX3_decide 117 = .ok (.aload_n 0, 1) := by decide +kernel
theorem dX3_decide_118 : decode cX3_decide 118 = .ok (.getfield 28, 3) := by decide +kernel
theorem dX3_decide_121 : decode cX3_decide 121 = .ok (.iload_n 1, 1) := by decide +kernel
theorem dX3_decide_122 : decode cX3_decide 122 = .ok (.iaload, 1) := by decide +kernel
theorem dX3_decide_123 : decode cX3_decide 123 = .ok (.goto 9, 3) := by decide +kernel
theorem dX3_decide_126 : decode cX3_decide 126 = .ok (.aload_n 0, 1) := by decide +kernel
theorem dX3_decide_127 : decode cX3_decide 127 = .ok (.getfield 16, 3) := by decide +kernel
theorem dX3_decide_130 : decode cX3_decide 130 = .ok (.iload_n 1, 1) := by decide +kernel
theorem dX3_decide_131 : decode cX3_decide 131 = .ok (.iaload, 1) := by decide +kernel
theorem dX3_decide_132 : decode cX3_decide 132 = .ok (.iastore, 1) := by decide +kernel
theorem dX3_decide_133 : decode cX3_decide 133 = .ok (.aload_n 0, 1) := by decide +kernel
theorem dX3_decide_134 : decode cX3_decide 134 = .ok (.getfield 13, 3) := by decide +kernel
theorem dX3_decide_137 : decode cX3_decide 137 = .ok (.iload_n 1, 1) := by decide +kernel
theorem dX3_decide_138 : decode cX3_decide 138 = .ok (.iaload, 1) := by decide +kernel
theorem dX3_decide_139 : decode cX3_decide 139 = .ok (.ireturn, 1) := by decide +kernel
set_option maxRecDepth 20000 in
theorem ggX3_goesOn_X3_nextOf : GoodIn wsX3_goesOn wsX3_nextOf := goodIn_r _ [8, 2, 9, 36, 37, 38, 39, 40, 41, 42, 43, 44, 45, 46, 47, 48, 49, 50, 51, 52, 53] (by decide +kernel) (by decide +kernel)
set_option maxRecDepth 20000 in
theorem gX3_goesOn_X3_nextOf : GoodIn wsX3_goesOn (wsV RX3 102 RX3 yX3_nextOf wsX3_nextOf) := goodIn_app (goodIn_of _ (by decide +kernel)) ggX3_goesOn_X3_nextOf
set_option maxRecDepth 20000 in
theorem ggX3_goesOn_X3_closes : GoodIn wsX3_goesOn wsX3_closes := goodIn_r _ [13, 14, 2, 15, 16, 17, 7, 18, 19, 20, 21, 22, 23, 24, 25, 26, 27, 28, 29, 30, 31, 32, 33, 3, 9, 1, 34, 35, 36, 37, 38, 39, 40, 41, 42, 43, 44, 45, 46, 47, 48, 49, 50, 51, 52, 53] (by decide +kernel) (by decide +kernel)
set_option maxRecDepth 20000 in
theorem gX3_goesOn_X3_closes : GoodIn wsX3_goesOn (wsV RX3 106 RX3 yX3_closes wsX3_closes) := goodIn_app (goodIn_of _ (by decide +kernel)) ggX3_goesOn_X3_closes
theorem dX3_goesOn_0 : decode cX3_goesOn 0 = .ok (.aload_n 0, 1) := by decide +kernel
theorem dX3_goesOn_1 : decode cX3_goesOn 1 = .ok (.iload_n 1, 1) := by decide +kernel
theorem dX3_goesOn_2 : decode cX3_goesOn 2 = .ok (.invokevirtual 102, 3) := by decide +kernel
theorem dX3_goesOn_5 : decode cX3_goesOn 5 = .ok (.aload_n 0, 1) := by decide +kernel
theorem dX3_goesOn_6 : decode cX3_goesOn 6 = .ok (.getfield 71, 3) := by decide +kernel
theorem dX3_goesOn_9 : decode cX3_goesOn 9 = .ok (.if_icmp .eq 5, 3) := by decide +kernel
theorem dX3_goesOn_12 : decode cX3_goesOn 12 = .ok (.iconst 0, 1) := by decide +kernel
theorem dX3_goesOn_13 : decode cX3_goesOn 13 = .ok (.ireturn, 1) := by decide +kernel
theorem dX3_goesOn_14 : decode cX3_goesOn 14 = .ok (.aload_n 0, 1) := by decide +kernel
theorem dX3_goesOn_15 : decode cX3_goesOn 15 = .ok (.getfield 13, 3) := by decide +kernel
theorem dX3_goesOn_18 : decode cX3_goesOn 18 = .ok (.iload_n 1, 1) := by decide +kernel
theorem dX3_goesOn_19 : decode cX3_goesOn 19 = .ok (.iaload, 1) := by decide +kernel
theorem dX3_goesOn_20 : decode cX3_goesOn 20 = .ok (.iconst 1, 1) := by decide +kernel
theorem dX3_goesOn_21 : decode cX3_goesOn 21 = .ok (.if_icmp .ne 9, 3) := by decide +kernel
theorem dX3_goesOn_24 : decode cX3_goesOn 24 = .ok (.aload_n 0, 1) := by decide +kernel
theorem dX3_goesOn_25 : decode cX3_goesOn 25 = .ok (.iload_n 1, 1) := by decide +kernel
theorem dX3_goesOn_26 : decode cX3_goesOn 26 = .ok (.invokevirtual 106, 3) := by decide +kernel
theorem dX3_goesOn_29 : decode cX3_goesOn 29 = .ok (.ireturn, 1) := by decide +kernel
theorem dX3_goesOn_30 : decode cX3_goesOn 30 = .ok (.aload_n 0, 1) := by decide +kernel
theorem dX3_goesOn_31 : decode cX3_goesOn 31 = .ok (.getfield 13, 3) := by decide +kernel
theorem dX3_goesOn_34 : decode cX3_goesOn 34 = .ok (.iload_n 1, 1) := by decide +kernel
theorem dX3_goesOn_35 : decode cX3_goesOn 35 = .ok (.iaload, 1) := by decide +kernel
theorem dX3_goesOn_36 : decode cX3_goesOn 36 = .ok (.iconst 4, 1) := by decide +kernel
theorem dX3_goesOn_37 : decode cX3_goesOn 37 = .ok (.if_icmp .ne 7, 3) := by decide +kernel
theorem dX3_goesOn_40 : decode cX3_goesOn 40 = .ok (.iconst 1, 1) := by decide +kernel
theorem dX3_goesOn_41 : decode cX3_goesOn 41 = .ok (.goto 4, 3) := by decide +kernel
theorem dX3_goesOn_44 : decode cX3_goesOn 44 = .ok (.iconst 0, 1) := by decide +kernel
theorem dX3_goesOn_45 : decode cX3_goesOn 45 = .ok (.istore_n 2, 1) := by decide +kernel
theorem dX3_goesOn_46 : decode cX3_goesOn 46 = .ok (.aload_n 0, 1) := by decide +kernel
theorem dX3_goesOn_47 : decode cX3_goesOn 47 = .ok (.getfield 13, 3) := by decide +kernel
theorem dX3_goesOn_50 : decode cX3_goesOn 50 = .ok (.iload_n 1, 1) := by decide +kernel
theorem dX3_goesOn_51 : decode cX3_goesOn 51 = .ok (.iload_n 2, 1) := by decide +kernel
theorem dX3_goesOn_52 : decode cX3_goesOn 52 = .ok (.ifCond .eq 7, 3) := by decide +kernel
theorem dX3_goesOn_55 : decode cX3_goesOn 55 = .ok (.iconst 0, 1) := by decide +kernel
theorem dX3_goesOn_56 : decode cX3_goesOn 56 = .ok (.goto 11, 3) := by decide +kernel
theorem dX3_goesOn_59 : decode cX3_goesOn 59 = .ok (.aload_n 0, 1) := by decide +kernel
theorem dX3_goesOn_60 : decode cX3_goesOn 60 = .ok (.getfield 13, 3) := by decide +kernel
theorem dX3_goesOn_63 : decode cX3_goesOn 63 = .ok (.iload_n 1, 1) := by decide +kernel
theorem dX3_goesOn_64 : decode cX3_goesOn 64 = .ok (.iaload, 1) := by decide +kernel
theorem dX3_goesOn_65 : decode cX3_goesOn 65 = .ok (.iconst 1, 1) := by decide +kernel
theorem dX3_goesOn_66 : decode cX3_goesOn 66 = .ok (.iadd, 1) := by decide +kernel
theorem dX3_goesOn_67 : decode cX3_goesOn 67 = .ok (.iastore, 1) := by decide +kernel
theorem dX3_goesOn_68 : decode cX3_goesOn 68 = .ok (.aload_n 0, 1) := by decide +kernel
theorem dX3_goesOn_69 : decode cX3_goesOn 69 = .ok (.getfield 16, 3) := by decide +kernel
theorem dX3_goesOn_72 : decode cX3_goesOn 72 = .ok (.iload_n 1, 1) := by decide +kernel
theorem dX3_goesOn_73 : decode cX3_goesOn 73 = .ok (.iload_n 2, 1) := by decide +kernel
theorem dX3_goesOn_74 : decode cX3_goesOn 74 = .ok (.ifCond .eq 7, 3) := by decide +kernel
theorem dX3_goesOn_77 : decode cX3_goesOn 77 = .ok (.iconst (-1), 1) := by decide +kernel
theorem dX3_goesOn_78 : decode cX3_goesOn 78 = .ok (.goto 9, 3) := by decide +kernel
theorem dX3_goesOn_81 : decode cX3_goesOn 81 = .ok (.aload_n 0, 1) := by decide +kernel
theorem dX3_goesOn_82 : decode cX3_goesOn 82 = .ok (.getfield 16, 3) := by decide +kernel
theorem dX3_goesOn_85 : decode cX3_goesOn 85 = .ok (.iload_n 1, 1) := by decide +kernel
theorem dX3_goesOn_86 : decode cX3_goesOn 86 = .ok (.iaload, 1) := by decide +kernel
theorem dX3_goesOn_87 : decode cX3_goesOn 87 = .ok (.iastore, 1) := by decide +kernel
theorem dX3_goesOn_88 : decode cX3_goesOn 88 = .ok (.iconst 0, 1) := by decide +kernel
theorem dX3_goesOn_89 : decode cX3_goesOn 89 = .ok (.ireturn, 1) := by decide +kernel
set_option maxRecDepth 20000 in
theorem ggX3_pass_X3_isIn : GoodIn wsX3_pass wsX3_isIn := goodIn_r _ [5] (by decide +kernel) (by decide +kernel)
set_option maxRecDepth 20000 in
theorem gX3_pass_X3_isIn : GoodIn wsX3_pass (va_wsS RX3 56 yX3_isIn wsX3_isIn) := goodIn_app (goodIn_of _ (by decide +kernel)) ggX3_pass_X3_isIn
set_option maxRecDepth 20000 in
theorem ggX3_pass_X3_fails : GoodIn wsX3_pass wsX3_fails := goodIn_r _ [9, 10, 48, 49, 50, 51, 52, 53, 54, 55, 56, 57, 58, 59, 60, 61, 62, 63, 64, 65] (by decide +kernel) (by decide +kernel)
set_option maxRecDepth 20000 in
theorem gX3_pass_X3_fails : GoodIn wsX3_pass (wsV RX3 65 RX3 yX3_fails wsX3_fails) := goodIn_app (goodIn_of _ (by decide +kernel)) ggX3_pass_X3_fails
set_option maxRecDepth 20000 in
theorem ggX3_pass_X3_goesOn : GoodIn wsX3_pass wsX3_goesOn := goodIn_r _ [14, 1, 15, 16, 17, 18, 19, 4, 20, 21, 22, 23, 24, 25, 26, 27, 28, 29, 30, 31, 32, 33, 34, 35, 36, 37, 38, 39, 40, 41, 42, 43, 44, 45, 46, 47, 48, 49, 50, 51, 52, 53, 54, 55, 56, 57, 58, 59, 60, 61, 62, 63, 64, 65] (by decide +kernel) (by decide +kernel)
set_option maxRecDepth 20000 in
theorem gX3_pass_X3_goesOn : GoodIn wsX3_pass (wsV RX3 109 RX3 yX3_goesOn wsX3_goesOn) := goodIn_app (goodIn_of _ (by decide +kernel)) ggX3_pass_X3_goesOn
theorem dX3_pass_0 : decode cX3_pass 0 = .ok (.aload_n 0, 1) := by decide +kernel
theorem dX3_pass_1 : decode cX3_pass 1 = .ok (.iload_n 1, 1) := by decide +kernel
theorem dX3_pass_2 : decode cX3_pass 2 = .ok (.iconst 1, 1) := by decide +kernel
theorem dX3_pass_3 : decode cX3_pass 3 = .ok (.sipush 200, 3) := by decide +kernel
theorem dX3_pass_6 : decode cX3_pass 6 = .ok (.invokestatic 56, 3) := by decide +kernel
theorem dX3_pass_9 : decode cX3_pass 9 = .ok (.ifCond .eq 7, 3) := by decide +kernel
theorem dX3_pass_12 : decode cX3_pass 12 = .ok (.iconst 0, 1) := by decide +kernel
theorem dX3_pass_13 : decode cX3_pass 13 = .ok (.goto 4, 3) := by decide +kernel
theorem dX3_pass_16 : decode cX3_pass 16 = .ok (.iconst 1, 1) := by decide +kernel
theorem dX3_pass_17 : decode cX3_pass 17 = .ok (.invokevirtual 65, 3) := by decide +kernel
theorem dX3_pass_20 : decode cX3_pass 20 = .ok (.ifCond .eq 5, 3) := by decide +kernel
theorem dX3_pass_23 : decode cX3_pass 23 = .ok (.iconst 0, 1) := by decide +kernel
theorem dX3_pass_24 : decode cX3_pass 24 = .ok (.ireturn, 1) := by decide +kernel
theorem dX3_pass_25 : decode cX3_pass 25 = .ok (.iconst 0, 1) := by decide +kernel
theorem dX3_pass_26 : decode cX3_pass 26 = .ok (.istore_n 2, 1) := by decide +kernel
theorem dX3_pass_27 : decode cX3_pass 27 = .ok (.iconst 0, 1) := by decide +kernel
theorem dX3_pass_28 : decode cX3_pass 28 = .ok (.istore_n 3, 1) := by decide +kernel
theorem dX3_pass_29 : decode cX3_pass 29 = .ok (.iload_n 3, 1) := by decide +kernel
theorem dX3_pass_30 : decode cX3_pass 30 = .ok (.iload_n 1, 1) := by decide +kernel
theorem dX3_pass_31 : decode cX3_pass 31 = .ok (.if_icmp .ge 44, 3) := by decide +kernel
theorem dX3_pass_34 : decode cX3_pass 34 = .ok (.aload_n 0, 1) := by decide +kernel
theorem dX3_pass_35 : decode cX3_pass 35 = .ok (.dup, 1) := by decide +kernel
theorem dX3_pass_36 : decode cX3_pass 36 = .ok (.getfield 71, 3) := by decide +kernel
theorem dX3_pass_39 : decode cX3_pass 39 = .ok (.iconst 1, 1) := by decide +kernel
theorem dX3_pass_40 : decode cX3_pass 40 = .ok (.iadd, 1) := by decide +kernel
theorem dX3_pass_41 : decode cX3_pass 41 = .ok (.putfield 71, 3) := by decide +kernel
theorem dX3_pass_44 : decode cX3_pass 44 = .ok (.iconst 0, 1) := by decide +kernel
theorem dX3_pass_45 : decode cX3_pass 45 = .ok (.istore 4, 2) := by decide +kernel
theorem dX3_pass_47 : decode cX3_pass 47 = .ok (.iload 4, 2) := by decide +kernel
theorem dX3_pass_49 : decode cX3_pass 49 = .ok (.bipush 16, 2) := by decide +kernel
theorem dX3_pass_51 : decode cX3_pass 51 = .ok (.if_icmp .ge 18, 3) := by decide +kernel
theorem dX3_pass_54 : decode cX3_pass 54 = .ok (.iload_n 2, 1) := by decide +kernel
theorem dX3_pass_55 : decode cX3_pass 55 = .ok (.aload_n 0, 1) := by decide +kernel
theorem dX3_pass_56 : decode cX3_pass 56 = .ok (.iload 4, 2) := by decide +kernel
theorem dX3_pass_58 : decode cX3_pass 58 = .ok (.invokevirtual 109, 3) := by decide +kernel
theorem dX3_pass_61 : decode cX3_pass 61 = .ok (.iadd, 1) := by decide +kernel
theorem dX3_pass_62 : decode cX3_pass 62 = .ok (.istore_n 2, 1) := by decide +kernel
theorem dX3_pass_63 : decode cX3_pass 63 = .ok (.iinc 4 1, 3) := by decide +kernel
theorem dX3_pass_66 : decode cX3_pass 66 = .ok (.goto (-19), 3) := by decide +kernel
theorem dX3_pass_69 : decode cX3_pass 69 = .ok (.iinc 3 1, 3) := by decide +kernel
theorem dX3_pass_72 : decode cX3_pass 72 = .ok (.goto (-43), 3) := by decide +kernel
theorem dX3_pass_75 : decode cX3_pass 75 = .ok (.iload_n 2, 1) := by decide +kernel
theorem dX3_pass_76 : decode cX3_pass 76 = .ok (.ireturn, 1) := by decide +kernel
theorem dX3_today_0 : decode cX3_today 0 = .ok (.aload_n 0, 1) := by decide +kernel
theorem dX3_today_1 : decode cX3_today 1 = .ok (.iconst 0, 1) := by decide +kernel
theorem dX3_today_2 : decode cX3_today 2 = .ok (.putfield 52, 3) := by decide +kernel
theorem dX3_today_5 : decode cX3_today 5 = .ok (.aload_n 0, 1) := by decide +kernel
theorem dX3_today_6 : decode cX3_today 6 = .ok (.getfield 71, 3) := by decide +kernel
theorem dX3_today_9 : decode cX3_today 9 = .ok (.ireturn, 1) := by decide +kernel
theorem dX3_takings_0 : decode cX3_takings 0 = .ok (.aload_n 0, 1) := by decide +kernel
theorem dX3_takings_1 : decode cX3_takings 1 = .ok (.iconst 0, 1) := by decide +kernel
theorem dX3_takings_2 : decode cX3_takings 2 = .ok (.putfield 52, 3) := by decide +kernel
theorem dX3_takings_5 : decode cX3_takings 5 = .ok (.aload_n 0, 1) := by decide +kernel
theorem dX3_takings_6 : decode cX3_takings 6 = .ok (.getfield 77, 3) := by decide +kernel
theorem dX3_takings_9 : decode cX3_takings 9 = .ok (.ireturn, 1) := by decide +kernel
set_option maxRecDepth 20000 in
theorem ggX3_hasRecord_X3_isIn : GoodIn wsX3_hasRecord wsX3_isIn := goodIn_r _ [6] (by decide +kernel) (by decide +kernel)
set_option maxRecDepth 20000 in
theorem gX3_hasRecord_X3_isIn : GoodIn wsX3_hasRecord (va_wsS RX3 56 yX3_isIn wsX3_isIn) := goodIn_app (goodIn_of _ (by decide +kernel)) ggX3_hasRecord_X3_isIn
theorem dX3_hasRecord_0 : decode cX3_hasRecord 0 = .ok (.aload_n 0, 1) := by decide +kernel
theorem dX3_hasRecord_1 : decode cX3_hasRecord 1 = .ok (.getfield 13, 3) := by decide +kernel
theorem dX3_hasRecord_4 : decode cX3_hasRecord 4 = .ok (.iload_n 1, 1) := by decide +kernel
theorem dX3_hasRecord_5 : decode cX3_hasRecord 5 = .ok (.iaload, 1) := by decide +kernel
theorem dX3_hasRecord_6 : decode cX3_hasRecord 6 = .ok (.iconst 2, 1) := by decide +kernel
theorem dX3_hasRecord_7 : decode cX3_hasRecord 7 = .ok (.iconst 3, 1) := by decide +kernel
theorem dX3_hasRecord_8 : decode cX3_hasRecord 8 = .ok (.invokestatic 56, 3) := by decide +kernel
theorem dX3_hasRecord_11 : decode cX3_hasRecord 11 = .ok (.ifCond .ne 23, 3) := by decide +kernel
theorem dX3_hasRecord_14 : decode cX3_hasRecord 14 = .ok (.aload_n 0, 1) := by decide +kernel
theorem dX3_hasRecord_15 : decode cX3_hasRecord 15 = .ok (.getfield 13, 3) := by decide +kernel
theorem dX3_hasRecord_18 : decode cX3_hasRecord 18 = .ok (.iload_n 1, 1) := by decide +kernel
theorem dX3_hasRecord_19 : decode cX3_hasRecord 19 = .ok (.iaload, 1) := by decide +kernel
theorem dX3_hasRecord_20 : decode cX3_hasRecord 20 = .ok (.iconst 5, 1) := by decide +kernel
theorem dX3_hasRecord_21 : decode cX3_hasRecord 21 = .ok (.if_icmp .ne 17, 3) := by decide +kernel
theorem dX3_hasRecord_24 : decode cX3_hasRecord 24 = .ok (.aload_n 0, 1) := by decide +kernel
theorem dX3_hasRecord_25 : decode cX3_hasRecord 25 = .ok (.getfield 34, 3) := by decide +kernel
theorem dX3_hasRecord_28 : decode cX3_hasRecord 28 = .ok (.iload_n 1, 1) := by decide +kernel
theorem dX3_hasRecord_29 : decode cX3_hasRecord 29 = .ok (.iaload, 1) := by decide +kernel
theorem dX3_hasRecord_30 : decode cX3_hasRecord 30 = .ok (.iconst 1, 1) := by decide +kernel
theorem dX3_hasRecord_31 : decode cX3_hasRecord 31 = .ok (.if_icmp .eq 7, 3) := by decide +kernel
theorem dX3_hasRecord_34 : decode cX3_hasRecord 34 = .ok (.iconst 1, 1) := by decide +kernel
theorem dX3_hasRecord_35 : decode cX3_hasRecord 35 = .ok (.goto 4, 3) := by decide +kernel
theorem dX3_hasRecord_38 : decode cX3_hasRecord 38 = .ok (.iconst 0, 1) := by decide +kernel
theorem dX3_hasRecord_39 : decode cX3_hasRecord 39 = .ok (.ireturn, 1) := by decide +kernel
set_option maxRecDepth 20000 in
theorem ggX3_answerOf_X3_hasRecord : GoodIn wsX3_answerOf wsX3_hasRecord := goodIn_r _ [6, 7, 8, 9, 10, 5, 11, 12, 13, 14, 15, 16, 17, 18, 19, 20, 21, 22, 23, 24, 25, 26, 27, 28, 29] (by decide +kernel) (by decide +kernel)
set_option maxRecDepth 20000 in
theorem gX3_answerOf_X3_hasRecord : GoodIn wsX3_answerOf (wsV RX3 112 RX3 yX3_hasRecord wsX3_hasRecord) := goodIn_app (goodIn_of _ (by decide +kernel)) ggX3_answerOf_X3_hasRecord
theorem dX3_answerOf_0 : decode cX3_answerOf 0 = .ok (.aload_n 0, 1) := by decide +kernel
theorem dX3_answerOf_1 : decode cX3_answerOf 1 = .ok (.iload_n 1, 1) := by decide +kernel
theorem dX3_answerOf_2 : decode cX3_answerOf 2 = .ok (.invokevirtual 112, 3) := by decide +kernel
theorem dX3_answerOf_5 : decode cX3_answerOf 5 = .ok (.ifCond .eq 12, 3) := by decide +kernel
theorem dX3_answerOf_8 : decode cX3_answerOf 8 = .ok (.aload_n 0, 1) := by decide +kernel
theorem dX3_answerOf_9 : decode cX3_answerOf 9 = .ok (.getfield 22, 3) := by decide +kernel
theorem dX3_answerOf_12 : decode cX3_answerOf 12 = .ok (.iload_n 1, 1) := by decide +kernel
theorem dX3_answerOf_13 : decode cX3_answerOf 13 = .ok (.iaload, 1) := by decide +kernel
theorem dX3_answerOf_14 : decode cX3_answerOf 14 = .ok (.goto 4, 3) := by decide +kernel
theorem dX3_answerOf_17 : decode cX3_answerOf 17 = .ok (.iconst (-1), 1) := by decide +kernel
theorem dX3_answerOf_18 : decode cX3_answerOf 18 = .ok (.ireturn, 1) := by decide +kernel
set_option maxRecDepth 20000 in
theorem ggX3_isPlace_X3_isIn : GoodIn wsX3_isPlace wsX3_isIn := goodIn_r _ [4] (by decide +kernel) (by decide +kernel)
set_option maxRecDepth 20000 in
theorem gX3_isPlace_X3_isIn : GoodIn wsX3_isPlace (va_wsS RX3 56 yX3_isIn wsX3_isIn) := goodIn_app (goodIn_of _ (by decide +kernel)) ggX3_isPlace_X3_isIn
set_option maxRecDepth 20000 in
theorem ggX3_isPlace_X3_isName : GoodIn wsX3_isPlace wsX3_isName := goodIn_r _ [7, 1, 2, 3, 4] (by decide +kernel) (by decide +kernel)
set_option maxRecDepth 20000 in
theorem gX3_isPlace_X3_isName : GoodIn wsX3_isPlace (va_wsS RX3 68 yX3_isName wsX3_isName) := goodIn_app (goodIn_of _ (by decide +kernel)) ggX3_isPlace_X3_isName
theorem dX3_isPlace_0 : decode cX3_isPlace 0 = .ok (.iload_n 0, 1) := by decide +kernel
theorem dX3_isPlace_1 : decode cX3_isPlace 1 = .ok (.iconst 0, 1) := by decide +kernel
theorem dX3_isPlace_2 : decode cX3_isPlace 2 = .ok (.iconst 2, 1) := by decide +kernel
theorem dX3_isPlace_3 : decode cX3_isPlace 3 = .ok (.invokestatic 56, 3) := by decide +kernel
theorem dX3_isPlace_6 : decode cX3_isPlace 6 = .ok (.ifCond .eq 14, 3) := by decide +kernel
theorem dX3_isPlace_9 : decode cX3_isPlace 9 = .ok (.iload_n 1, 1) := by decide +kernel
theorem dX3_isPlace_10 : decode cX3_isPlace 10 = .ok (.invokestatic 68, 3) := by decide +kernel
theorem dX3_isPlace_13 : decode cX3_isPlace 13 = .ok (.ifCond .eq 7, 3) := by decide +kernel
theorem dX3_isPlace_16 : decode cX3_isPlace 16 = .ok (.iconst 1, 1) := by decide +kernel
theorem dX3_isPlace_17 : decode cX3_isPlace 17 = .ok (.goto 4, 3) := by decide +kernel
theorem dX3_isPlace_20 : decode cX3_isPlace 20 = .ok (.iconst 0, 1) := by decide +kernel
theorem dX3_isPlace_21 : decode cX3_isPlace 21 = .ok (.ireturn, 1) := by decide +kernel
theorem dX3_isYoung_0 : decode cX3_isYoung 0 = .ok (.aload_n 0, 1) := by decide +kernel
theorem dX3_isYoung_1 : decode cX3_isYoung 1 = .ok (.getfield 43, 3) := by decide +kernel
theorem dX3_isYoung_4 : decode cX3_isYoung 4 = .ok (.iload_n 1, 1) := by decide +kernel
theorem dX3_isYoung_5 : decode cX3_isYoung 5 = .ok (.iaload, 1) := by decide +kernel
theorem dX3_isYoung_6 : decode cX3_isYoung 6 = .ok (.iconst (-1), 1) := by decide +kernel
theorem dX3_isYoung_7 : decode cX3_isYoung 7 = .ok (.if_icmp .eq 27, 3) := by decide +kernel
theorem dX3_isYoung_10 : decode cX3_isYoung 10 = .ok (.aload_n 0, 1) := by decide +kernel
theorem dX3_isYoung_11 : decode cX3_isYoung 11 = .ok (.getfield 71, 3) := by decide +kernel
theorem dX3_isYoung_14 : decode cX3_isYoung 14 = .ok (.aload_n 0, 1) := by decide +kernel
theorem dX3_isYoung_15 : decode cX3_isYoung 15 = .ok (.getfield 43, 3) := by decide +kernel
theorem dX3_isYoung_18 : decode cX3_isYoung 18 = .ok (.iload_n 1, 1) := by decide +kernel
theorem dX3_isYoung_19 : decode cX3_isYoung 19 = .ok (.iaload, 1) := by decide +kernel
theorem dX3_isYoung_20 : decode cX3_isYoung 20 = .ok (.isub, 1) := by decide +kernel
theorem dX3_isYoung_21 : decode cX3_isYoung 21 = .ok (.aload_n 0, 1) := by decide +kernel
theorem dX3_isYoung_22 : decode cX3_isYoung 22 = .ok (.getfield 49, 3) := by decide +kernel
theorem dX3_isYoung_25 : decode cX3_isYoung 25 = .ok (.iload_n 1, 1) := by decide +kernel
theorem dX3_isYoung_26 : decode cX3_isYoung 26 = .ok (.iaload, 1) := by decide +kernel
theorem dX3_isYoung_27 : decode cX3_isYoung 27 = .ok (.if_icmp .ge 7, 3) := by decide +kernel
theorem dX3_isYoung_30 : decode cX3_isYoung 30 = .ok (.iconst 1, 1) := by decide +kernel
theorem dX3_isYoung_31 : decode cX3_isYoung 31 = .ok (.goto 4, 3) := by decide +kernel
theorem dX3_isYoung_34 : decode cX3_isYoung 34 = .ok (.iconst 0, 1) := by decide +kernel
theorem dX3_isYoung_35 : decode cX3_isYoung 35 = .ok (.ireturn, 1) := by decide +kernel
set_option maxRecDepth 20000 in
theorem ggX3_lookUp_X3_isPlace : GoodIn wsX3_lookUp wsX3_isPlace := goodIn_r _ [9, 10, 11, 8, 12, 13, 14, 15] (by decide +kernel) (by decide +kernel)
set_option maxRecDepth 20000 in
theorem gX3_lookUp_X3_isPlace : GoodIn wsX3_lookUp (va_wsS RX3 115 yX3_isPlace wsX3_isPlace) := goodIn_app (goodIn_of _ (by decide +kernel)) ggX3_lookUp_X3_isPlace
set_option maxRecDepth 20000 in
theorem ggX3_lookUp_X3_fails : GoodIn wsX3_lookUp wsX3_fails := goodIn_r _ [19, 20, 36, 37, 38, 39, 40, 41, 42, 43, 44, 45, 46, 47, 48, 49, 50, 51, 52, 53] (by decide +kernel) (by decide +kernel)
set_option maxRecDepth 20000 in
theorem gX3_lookUp_X3_fails : GoodIn wsX3_lookUp (wsV RX3 65 RX3 yX3_fails wsX3_fails) := goodIn_app (goodIn_of _ (by decide +kernel)) ggX3_lookUp_X3_fails
set_option maxRecDepth 20000 in
theorem ggX3_lookUp_X3_isYoung : GoodIn wsX3_lookUp wsX3_isYoung := goodIn_r _ [24, 1, 2, 4, 36, 37, 38, 39, 40, 41, 42, 43, 44, 45, 46, 47, 48, 49, 50, 51, 52, 53] (by decide +kernel) (by decide +kernel)
set_option maxRecDepth 20000 in
theorem gX3_lookUp_X3_isYoung : GoodIn wsX3_lookUp (wsV RX3 119 RX3 yX3_isYoung wsX3_isYoung) := goodIn_app (goodIn_of _ (by decide +kernel)) ggX3_lookUp_X3_isYoung
set_option maxRecDepth 20000 in
theorem ggX3_lookUp_X3_answerOf : GoodIn wsX3_lookUp wsX3_answerOf := goodIn_r _ [28, 29, 30, 31, 32, 8, 33, 34, 35, 10, 11, 12, 36, 37, 38, 39, 40, 41, 42, 43, 44, 45, 46, 47, 48, 49, 50, 51, 52, 53] (by decide +kernel) (by decide +kernel)
set_option maxRecDepth 20000 in
theorem gX3_lookUp_X3_answerOf : GoodIn wsX3_lookUp (wsV RX3 122 RX3 yX3_answerOf wsX3_answerOf) := goodIn_app (goodIn_of _ (by decide +kernel)) ggX3_lookUp_X3_answerOf
set_option maxRecDepth 20000 in
theorem ggX3_lookUp_X3_hasRecord : GoodIn wsX3_lookUp wsX3_hasRecord := goodIn_r _ [33, 34, 35, 10, 11, 8, 12, 36, 37, 38, 39, 40, 41, 42, 43, 44, 45, 46, 47, 48, 49, 50, 51, 52, 53] (by decide +kernel) (by decide +kernel)
set_option maxRecDepth 20000 in
theorem gX3_lookUp_X3_hasRecord : GoodIn wsX3_lookUp (wsV RX3 112 RX3 yX3_hasRecord wsX3_hasRecord) := goodIn_app (goodIn_of _ (by decide +kernel)) ggX3_lookUp_X3_hasRecord
theorem dX3_lookUp_0 : decode cX3_lookUp 0 = .ok (.aload_n 0, 1) := by decide +kernel
theorem dX3_lookUp_1 : decode cX3_lookUp 1 = .ok (.iload_n 1, 1) := by decide +kernel
theorem dX3_lookUp_2 : decode cX3_lookUp 2 = .ok (.iload_n 2, 1) := by decide +kernel
theorem dX3_lookUp_3 : decode cX3_lookUp 3 = .ok (.invokestatic 115, 3) := by decide +kernel
theorem dX3_lookUp_6 : decode cX3_lookUp 6 = .ok (.ifCond .eq 7, 3) := by decide +kernel
theorem dX3_lookUp_9 : decode cX3_lookUp 9 = .ok (.iconst 0, 1) := by decide +kernel
theorem dX3_lookUp_10 : decode cX3_lookUp 10 = .ok (.goto 4, 3) := by decide +kernel
theorem dX3_lookUp_13 : decode cX3_lookUp 13 = .ok (.iconst 1, 1) := by decide +kernel
theorem dX3_lookUp_14 : decode cX3_lookUp 14 = .ok (.invokevirtual 65, 3) := by decide +kernel
theorem dX3_lookUp_17 : decode cX3_lookUp 17 = .ok (.ifCond .eq 5, 3) := by decide +kernel
theorem dX3_lookUp_20 : decode cX3_lookUp 20 = .ok (.iconst 0, 1) := by decide +kernel
theorem dX3_lookUp_21 : decode cX3_lookUp 21 = .ok (.ireturn, 1) := by decide +kernel
theorem dX3_lookUp_22 : decode cX3_lookUp 22 = .ok (.bipush 16, 2) := by decide +kernel
theorem dX3_lookUp_24 : decode cX3_lookUp 24 = .ok (.iload_n 1, 1) := by decide +kernel
theorem dX3_lookUp_25 : decode cX3_lookUp 25 = .ok (.imul, 1) := by decide +kernel
theorem dX3_lookUp_26 : decode cX3_lookUp 26 = .ok (.iload_n 2, 1) := by decide +kernel
theorem dX3_lookUp_27 : decode cX3_lookUp 27 = .ok (.iadd, 1) := by decide +kernel
theorem dX3_lookUp_28 : decode cX3_lookUp 28 = .ok (.istore_n 3, 1) := by decide +kernel
theorem dX3_lookUp_29 : decode cX3_lookUp 29 = .ok (.aload_n 0, 1) := by decide +kernel
theorem dX3_lookUp_30 : decode cX3_lookUp 30 = .ok (.iload_n 3, 1) := by decide +kernel
theorem dX3_lookUp_31 : decode cX3_lookUp 31 = .ok (.invokevirtual 119, 3) := by decide +kernel
theorem dX3_lookUp_34 : decode cX3_lookUp 34 = .ok (.ifCond .ne 48, 3) := by decide +kernel
theorem dX3_lookUp_37 : decode cX3_lookUp 37 = .ok (.aload_n 0, 1) := by decide +kernel
theorem dX3_lookUp_38 : decode cX3_lookUp 38 = .ok (.getfield 43, 3) := by decide +kernel
theorem dX3_lookUp_41 : decode cX3_lookUp 41 = .ok (.iload_n 3, 1) := by decide +kernel
theorem dX3_lookUp_42 : decode cX3_lookUp 42 = .ok (.aload_n 0, 1) := by decide +kernel
theorem dX3_lookUp_43 : decode cX3_lookUp 43 = .ok (.getfield 71, 3) := by decide +kernel
theorem dX3_lookUp_46 : decode cX3_lookUp 46 = .ok (.iastore, 1) := by decide +kernel
theorem dX3_lookUp_47 : decode cX3_lookUp 47 = .ok (.aload_n 0, 1) := by decide +kernel
theorem dX3_lookUp_48 : decode cX3_lookUp 48 = .ok (.getfield 46, 3) := by decide +kernel
theorem dX3_lookUp_51 : decode cX3_lookUp 51 = .ok (.iload_n 3, 1) := by decide +kernel
theorem dX3_lookUp_52 : decode cX3_lookUp 52 = .ok (.aload_n 0, 1) := by decide +kernel
theorem dX3_lookUp_53 : decode cX3_lookUp 53 = .ok (.iload_n 2, 1) := by decide +kernel
theorem dX3_lookUp_54 : decode cX3_lookUp 54 = .ok (.invokevirtual 122, 3) := by decide +kernel
theorem dX3_lookUp_57 : decode cX3_lookUp 57 = .ok (.iastore, 1) := by decide +kernel
theorem dX3_lookUp_58 : decode cX3_lookUp 58 = .ok (.aload_n 0, 1) := by decide +kernel
theorem dX3_lookUp_59 : decode cX3_lookUp 59 = .ok (.getfield 49, 3) := by decide +kernel
theorem dX3_lookUp_62 : decode cX3_lookUp 62 = .ok (.iload_n 3, 1) := by decide +kernel
theorem dX3_lookUp_63 : decode cX3_lookUp 63 = .ok (.aload_n 0, 1) := by decide +kernel
theorem dX3_lookUp_64 : decode cX3_lookUp 64 = .ok (.iload_n 2, 1) := by decide +kernel
theorem dX3_lookUp_65 : decode cX3_lookUp 65 = .ok (.invokevirtual 112, 3) := by decide +kernel
theorem dX3_lookUp_68 : decode cX3_lookUp 68 = .ok (.ifCond .eq 12, 3) := by decide +kernel
theorem dX3_lookUp_71 : decode cX3_lookUp 71 = .ok (.aload_n 0, 1) := by decide +kernel
theorem dX3_lookUp_72 : decode cX3_lookUp 72 = .ok (.getfield 25, 3) := by decide +kernel
theorem dX3_lookUp_75 : decode cX3_lookUp 75 = .ok (.iload_n 2, 1) := by decide +kernel
theorem dX3_lookUp_76 : decode cX3_lookUp 76 = .ok (.iaload, 1) := by decide +kernel
theorem dX3_lookUp_77 : decode cX3_lookUp 77 = .ok (.goto 4, 3) := by decide +kernel
theorem dX3_lookUp_80 : decode cX3_lookUp 80 = .ok (.iconst 5, 1) := by decide +kernel
theorem dX3_lookUp_81 : decode cX3_lookUp 81 = .ok (.iastore, 1) := by decide +kernel
theorem dX3_lookUp_82 : decode cX3_lookUp 82 = .ok (.aload_n 0, 1) := by decide +kernel
theorem dX3_lookUp_83 : decode cX3_lookUp 83 = .ok (.getfield 46, 3) := by decide +kernel
theorem dX3_lookUp_86 : decode cX3_lookUp 86 = .ok (.iload_n 3, 1) := by decide +kernel
theorem dX3_lookUp_87 : decode cX3_lookUp 87 = .ok (.iaload, 1) := by decide +kernel
theorem dX3_lookUp_88 : decode cX3_lookUp 88 = .ok (.ireturn, 1) := by decide +kernel
set_option maxRecDepth 20000 in
theorem ggX3_isStale_X3_isPlace : GoodIn wsX3_isStale wsX3_isPlace := goodIn_r _ [5, 6, 7, 4, 8, 9, 10, 11] (by decide +kernel) (by decide +kernel)
set_option maxRecDepth 20000 in
theorem gX3_isStale_X3_isPlace : GoodIn wsX3_isStale (va_wsS RX3 115 yX3_isPlace wsX3_isPlace) := goodIn_app (goodIn_of _ (by decide +kernel)) ggX3_isStale_X3_isPlace
set_option maxRecDepth 20000 in
theorem ggX3_isStale_X3_fails : GoodIn wsX3_isStale wsX3_fails := goodIn_r _ [15, 16, 35, 36, 37, 38, 39, 40, 41, 42, 43, 44, 45, 46, 47, 48, 49, 50, 51, 52] (by decide +kernel) (by decide +kernel)
set_option maxRecDepth 20000 in
theorem gX3_isStale_X3_fails : GoodIn wsX3_isStale (wsV RX3 65 RX3 yX3_fails wsX3_fails) := goodIn_app (goodIn_of _ (by decide +kernel)) ggX3_isStale_X3_fails
set_option maxRecDepth 20000 in
theorem ggX3_isStale_X3_isYoung : GoodIn wsX3_isStale wsX3_isYoung := goodIn_r _ [20, 21, 22, 23, 35, 36, 37, 38, 39, 40, 41, 42, 43, 44, 45, 46, 47, 48, 49, 50, 51, 52] (by decide +kernel) (by decide +kernel)
set_option maxRecDepth 20000 in
theorem gX3_isStale_X3_isYoung : GoodIn wsX3_isStale (wsV RX3 119 RX3 yX3_isYoung wsX3_isYoung) := goodIn_app (goodIn_of _ (by decide +kernel)) ggX3_isStale_X3_isYoung
set_option maxRecDepth 20000 in
theorem ggX3_isStale_X3_answerOf : GoodIn wsX3_isStale wsX3_answerOf := goodIn_r _ [27, 28, 29, 30, 31, 4, 32, 33, 34, 6, 7, 8, 35, 36, 37, 38, 39, 40, 41, 42, 43, 44, 45, 46, 47, 48, 49, 50, 51, 52] (by decide +kernel) (by decide +kernel)
set_option maxRecDepth 20000 in
theorem gX3_isStale_X3_answerOf : GoodIn wsX3_isStale (wsV RX3 122 RX3 yX3_answerOf wsX3_answerOf) := goodIn_app (goodIn_of _ (by decide +kernel)) ggX3_isStale_X3_answerOf
theorem dX3_isStale_0 : decode cX3_isStale 0 = .ok (.bipush 16, 2) := by decide +kernel
theorem dX3_isStale_2 : decode cX3_isStale 2 = .ok (.iload_n 1, 1) := by decide +kernel
theorem dX3_isStale_3 : decode cX3_isStale 3 = .ok (.imul, 1) := by decide +kernel
theorem dX3_isStale_4 : decode cX3_isStale 4 = .ok (.iload_n 2, 1) := by decide +kernel
theorem dX3_isStale_5 : decode cX3_isStale 5 = .ok (.iadd, 1) := by decide +kernel
theorem dX3_isStale_6 : decode cX3_isStale 6 = .ok (.istore_n 3, 1) := by decide +kernel
theorem dX3_isStale_7 : decode cX3_isStale 7 = .ok (.aload_n 0, 1) := by decide +kernel
theorem dX3_isStale_8 : decode cX3_isStale 8 = .ok (.iload_n 1, 1) := by decide +kernel
theorem dX3_isStale_9 : decode cX3_isStale 9 = .ok (.iload_n 2, 1) := by decide +kernel
theorem dX3_isStale_10 : decode cX3_isStale 10 = .ok (.invokestatic 115, 3) := by decide +kernel
theorem dX3_isStale_13 : decode cX3_isStale 13 = .ok (.ifCond .eq 7, 3) := by decide +kernel
theorem dX3_isStale_16 : decode cX3_isStale 16 = .ok (.iconst 0, 1) := by decide +kernel
theorem dX3_isStale_17 : decode cX3_isStale 17 = .ok (.goto 4, 3) := by decide +kernel
theorem dX3_isStale_20 : decode cX3_isStale 20 = .ok (.iconst 1, 1) := by decide +kernel
theorem dX3_isStale_21 : decode cX3_isStale 21 = .ok (.invokevirtual 65, 3) := by decide +kernel
theorem dX3_isStale_24 : decode cX3_isStale 24 = .ok (.ifCond .ne 29, 3) := by decide +kernel
theorem dX3_isStale_27 : decode cX3_isStale 27 = .ok (.aload_n 0, 1) := by decide +kernel
theorem dX3_isStale_28 : decode cX3_isStale 28 = .ok (.iload_n 3, 1) := by decide +kernel
theorem dX3_isStale_29 : decode cX3_isStale 29 = .ok (.invokevirtual 119, 3) := by decide +kernel
theorem dX3_isStale_32 : decode cX3_isStale 32 = .ok (.ifCond .eq 21, 3) := by decide +kernel
theorem dX3_isStale_35 : decode cX3_isStale 35 = .ok (.aload_n 0, 1) := by decide +kernel
theorem dX3_isStale_36 : decode cX3_isStale 36 = .ok (.getfield 46, 3) := by decide +kernel
theorem dX3_isStale_39 : decode cX3_isStale 39 = .ok (.iload_n 3, 1) := by decide +kernel
theorem dX3_isStale_40 : decode cX3_isStale 40 = .ok (.iaload, 1) := by decide +kernel
theorem dX3_isStale_41 : decode cX3_isStale 41 = .ok (.aload_n 0, 1) := by decide +kernel
theorem dX3_isStale_42 : decode cX3_isStale 42 = .ok (.iload_n 2, 1) := by decide +kernel
theorem dX3_isStale_43 : decode cX3_isStale 43 = .ok (.invokevirtual 122, 3) := by decide +kernel
theorem dX3_isStale_46 : decode cX3_isStale 46 = .ok (.if_icmp .eq 7, 3) := by decide +kernel
theorem dX3_isStale_49 : decode cX3_isStale 49 = .ok (.iconst 1, 1) := by decide +kernel
theorem dX3_isStale_50 : decode cX3_isStale 50 = .ok (.goto 4, 3) := by decide +kernel
theorem dX3_isStale_53 : decode cX3_isStale 53 = .ok (.iconst 0, 1) := by decide +kernel
theorem dX3_isStale_54 : decode cX3_isStale 54 = .ok (.ireturn, 1) := by decide +kernel
set_option maxRecDepth 20000 in
theorem ggX3_flush_X3_isIn : GoodIn wsX3_flush wsX3_isIn := goodIn_r _ [5] (by decide +kernel) (by decide +kernel)
set_option maxRecDepth 20000 in
theorem gX3_flush_X3_isIn : GoodIn wsX3_flush (va_wsS RX3 56 yX3_isIn wsX3_isIn) := goodIn_app (goodIn_of _ (by decide +kernel)) ggX3_flush_X3_isIn
set_option maxRecDepth 20000 in
theorem ggX3_flush_X3_fails : GoodIn wsX3_flush wsX3_fails := goodIn_r _ [9, 10, 11, 12, 13, 14, 15, 16, 17, 18, 19, 20, 21, 22, 23, 24, 25, 26, 27, 28] (by decide +kernel) (by decide +kernel)
set_option maxRecDepth 20000 in
theorem gX3_flush_X3_fails : GoodIn wsX3_flush (wsV RX3 65 RX3 yX3_fails wsX3_fails) := goodIn_app (goodIn_of _ (by decide +kernel)) ggX3_flush_X3_fails
theorem dX3_flush_0 : decode cX3_flush 0 = .ok (.aload_n 0, 1) := by decide +kernel
theorem dX3_flush_1 : decode cX3_flush 1 = .ok (.iload_n 1, 1) := by decide +kernel
theorem dX3_flush_2 : decode cX3_flush 2 = .ok (.iconst 0, 1) := by decide +kernel
theorem dX3_flush_3 : decode cX3_flush 3 = .ok (.iconst 2, 1) := by decide +kernel
theorem dX3_flush_4 : decode cX3_flush 4 = .ok (.invokestatic 56, 3) := by decide +kernel
theorem dX3_flush_7 : decode cX3_flush 7 = .ok (.ifCond .eq 7, 3) := by decide +kernel
theorem dX3_flush_10 : decode cX3_flush 10 = .ok (.iconst 0, 1) := by decide +kernel
theorem dX3_flush_11 : decode cX3_flush 11 = .ok (.goto 4, 3) := by decide +kernel
theorem dX3_flush_14 : decode cX3_flush 14 = .ok (.iconst 1, 1) := by decide +kernel
theorem dX3_flush_15 : decode cX3_flush 15 = .ok (.invokevirtual 65, 3) := by decide +kernel
theorem dX3_flush_18 : decode cX3_flush 18 = .ok (.ifCond .eq 5, 3) := by decide +kernel
theorem dX3_flush_21 : decode cX3_flush 21 = .ok (.iconst 0, 1) := by decide +kernel
theorem dX3_flush_22 : decode cX3_flush 22 = .ok (.ireturn, 1) := by decide +kernel
theorem dX3_flush_23 : decode cX3_flush 23 = .ok (.iconst 0, 1) := by decide +kernel
theorem dX3_flush_24 : decode cX3_flush 24 = .ok (.istore_n 2, 1) := by decide +kernel
theorem dX3_flush_25 : decode cX3_flush 25 = .ok (.bipush 16, 2) := by decide +kernel
theorem dX3_flush_27 : decode cX3_flush 27 = .ok (.iload_n 1, 1) := by decide +kernel
theorem dX3_flush_28 : decode cX3_flush 28 = .ok (.imul, 1) := by decide +kernel
theorem dX3_flush_29 : decode cX3_flush 29 = .ok (.istore_n 3, 1) := by decide +kernel
theorem dX3_flush_30 : decode cX3_flush 30 = .ok (.iload_n 3, 1) := by decide +kernel
theorem dX3_flush_31 : decode cX3_flush 31 = .ok (.bipush 16, 2) := by decide +kernel
theorem dX3_flush_33 : decode cX3_flush 33 = .ok (.iload_n 1, 1) := by decide +kernel
theorem dX3_flush_34 : decode cX3_flush 34 = .ok (.imul, 1) := by decide +kernel
theorem dX3_flush_35 : decode cX3_flush 35 = .ok (.bipush 16, 2) := by decide +kernel
theorem dX3_flush_37 : decode cX3_flush 37 = .ok (.iadd, 1) := by decide +kernel
theorem dX3_flush_38 : decode cX3_flush 38 = .ok (.if_icmp .ge 34, 3) := by decide +kernel
theorem dX3_flush_41 : decode cX3_flush 41 = .ok (.iload_n 2, 1) := by decide +kernel
theorem dX3_flush_42 : decode cX3_flush 42 = .ok (.aload_n 0, 1) := by decide +kernel
theorem dX3_flush_43 : decode cX3_flush 43 = .ok (.getfield 43, 3) := by decide +kernel
theorem dX3_flush_46 : decode cX3_flush 46 = .ok (.iload_n 3, 1) := by decide +kernel
theorem dX3_flush_47 : decode cX3_flush 47 = .ok (.iaload, 1) := by decide +kernel
theorem dX3_flush_48 : decode cX3_flush 48 = .ok (.iconst (-1), 1) := by decide +kernel
theorem dX3_flush_49 : decode cX3_flush 49 = .ok (.if_icmp .ne 7, 3) := by decide +kernel
theorem dX3_flush_52 : decode cX3_flush 52 = .ok (.iconst 0, 1) := by decide +kernel
theorem dX3_flush_53 : decode cX3_flush 53 = .ok (.goto 4, 3) := by decide +kernel
theorem dX3_flush_56 : decode cX3_flush 56 = .ok (.iconst 1, 1) := by decide +kernel
theorem dX3_flush_57 : decode cX3_flush 57 = .ok (.iadd, 1) := by decide +kernel
theorem dX3_flush_58 : decode cX3_flush 58 = .ok (.istore_n 2, 1) := by decide +kernel
theorem dX3_flush_59 : decode cX3_flush 59 = .ok (.aload_n 0, 1) := by decide +kernel
theorem dX3_flush_60 : decode cX3_flush 60 = .ok (.getfield 43, 3) := by decide +kernel
theorem dX3_flush_63 : decode cX3_flush 63 = .ok (.iload_n 3, 1) := by decide +kernel
theorem dX3_flush_64 : decode cX3_flush 64 = .ok (.iconst (-1), 1) := by decide +kernel
theorem dX3_flush_65 : decode cX3_flush 65 = .ok (.iastore, 1) := by decide +kernel
theorem dX3_flush_66 : decode cX3_flush 66 = .ok (.iinc 3 1, 3) := by decide +kernel
theorem dX3_flush_69 : decode cX3_flush 69 = .ok (.goto (-39), 3) := by decide +kernel
theorem dX3_flush_72 : decode cX3_flush 72 = .ok (.iload_n 2, 1) := by decide +kernel
theorem dX3_flush_73 : decode cX3_flush 73 = .ok (.ireturn, 1) := by decide +kernel
set_option maxRecDepth 20000 in
theorem ggJ0_length_8abf5_J0_coder_7d493 : GoodIn wsJ0_length_8abf5 wsJ0_coder_7d493 := goodIn_r _ [6, 7, 8] (by decide +kernel) (by decide +kernel)
set_option maxRecDepth 20000 in
theorem gJ0_length_8abf5_J0_coder_7d493 : GoodIn wsJ0_length_8abf5 (wsV RJ0 335 RJ0 yJ0_coder_7d493 wsJ0_coder_7d493) := goodIn_app (goodIn_of _ (by decide +kernel)) ggJ0_length_8abf5_J0_coder_7d493
theorem dJ0_length_8abf5_0 : decode cJ0_length_8abf5 0 = .ok (.aload_n 0, 1) := by decide +kernel
theorem dJ0_length_8abf5_1 : decode cJ0_length_8abf5 1 = .ok (.getfield 9, 3) := by decide +kernel
theorem dJ0_length_8abf5_4 : decode cJ0_length_8abf5 4 = .ok (.arraylength, 1) := by decide +kernel
theorem dJ0_length_8abf5_5 : decode cJ0_length_8abf5 5 = .ok (.aload_n 0, 1) := by decide +kernel
theorem dJ0_length_8abf5_6 : decode cJ0_length_8abf5 6 = .ok (.invokevirtual 335, 3) := by decide +kernel
theorem dJ0_length_8abf5_9 : decode cJ0_length_8abf5 9 = .ok (.ishr, 1) := by decide +kernel
theorem dJ0_length_8abf5_10 : decode cJ0_length_8abf5 10 = .ok (.ireturn, 1) := by decide +kernel
set_option maxRecDepth 20000 in
theorem ggJ0_charAt_5068e_J0_isLatin1_aae02 : GoodIn wsJ0_charAt_5068e wsJ0_isLatin1_aae02 := goodIn_r _ [6, 7, 8] (by decide +kernel) (by decide +kernel)
set_option maxRecDepth 20000 in
theorem gJ0_charAt_5068e_J0_isLatin1_aae02 : GoodIn wsJ0_charAt_5068e (wsV RJ0 492 RJ0 yJ0_isLatin1_aae02 wsJ0_isLatin1_aae02) := goodIn_app (goodIn_of _ (by decide +kernel)) ggJ0_charAt_5068e_J0_isLatin1_aae02
set_option maxRecDepth 20000 in
theorem ggJ0_charAt_5068e_J1_charAt_3b067 : GoodIn wsJ0_charAt_5068e wsJ1_charAt_3b067 := goodIn_r _ [12, 13, 14, 5, 15, 16, 17, 18, 19, 20] (by decide +kernel) (by decide +kernel)
set_option maxRecDepth 20000 in
theorem gJ0_charAt_5068e_J1_charAt_3b067 : GoodIn wsJ0_charAt_5068e (va_wsS RJ0 495 yJ1_charAt_3b067 wsJ1_charAt_3b067) := goodIn_app (goodIn_of _ (by decide +kernel)) ggJ0_charAt_5068e_J1_charAt_3b067
set_option maxRecDepth 20000 in
theorem ggJ0_charAt_5068e_J2_charAt_3b067 : GoodIn wsJ0_charAt_5068e wsJ2_charAt_3b067 := goodIn_r _ [24, 25, 26, 23, 27, 28, 29, 30, 31, 14, 5, 15, 16, 17, 18, 19, 20, 32, 33, 34, 35, 36, 37] (by decide +kernel) (by decide +kernel)
set_option maxRecDepth 20000 in
theorem gJ0_charAt_5068e_J2_charAt_3b067 : GoodIn wsJ0_charAt_5068e (va_wsS RJ0 498 yJ2_charAt_3b067 wsJ2_charAt_3b067) := goodIn_app (goodIn_of _ (by decide +kernel)) ggJ0_charAt_5068e_J2_charAt_3b067
theorem dJ0_charAt_5068e_0 : decode cJ0_charAt_5068e 0 = .ok (.aload_n 0, 1) := by decide +kernel
theorem dJ0_charAt_5068e_1 : decode cJ0_charAt_5068e 1 = .ok (.invokevirtual 492, 3) := by decide +kernel
theorem dJ0_charAt_5068e_4 : decode cJ0_charAt_5068e 4 = .ok (.ifCond .eq 12, 3) := by decide +kernel
theorem dJ0_charAt_5068e_7 : decode cJ0_charAt_5068e 7 = .ok (.aload_n 0, 1) := by decide +kernel
theorem dJ0_charAt_5068e_8 : decode cJ0_charAt_5068e 8 = .ok (.getfield 9, 3) := by decide +kernel
theorem dJ0_charAt_5068e_11 : decode cJ0_charAt_5068e 11 = .ok (.iload_n 1, 1) := by decide +kernel
theorem dJ0_charAt_5068e_12 : decode cJ0_charAt_5068e 12 = .ok (.invokestatic 495, 3) := by decide +kernel
theorem dJ0_charAt_5068e_15 : decode cJ0_charAt_5068e 15 = .ok (.ireturn, 1) := by decide +kernel
theorem dJ0_charAt_5068e_16 : decode cJ0_charAt_5068e 16 = .ok (.aload_n 0, 1) := by decide +kernel
theorem dJ0_charAt_5068e_17 : decode cJ0_charAt_5068e 17 = .ok (.getfield 9, 3) := by decide +kernel
theorem dJ0_charAt_5068e_20 : decode cJ0_charAt_5068e 20 = .ok (.iload_n 1, 1) := by decide +kernel
theorem dJ0_charAt_5068e_21 : decode cJ0_charAt_5068e 21 = .ok (.invokestatic 498, 3) := by decide +kernel
theorem dJ0_charAt_5068e_24 : decode cJ0_charAt_5068e 24 = .ok (.ireturn, 1) := by decide +kernel
theorem dJ0_coder_7d493_0 : decode cJ0_coder_7d493 0 = .ok (.getstatic 38, 3) := by decide +kernel
theorem dJ0_coder_7d493_3 : decode cJ0_coder_7d493 3 = .ok (.ifCond .eq 10, 3) := by decide +kernel
theorem dJ0_coder_7d493_6 : decode cJ0_coder_7d493 6 = .ok (.aload_n 0, 1) := by decide +kernel
theorem dJ0_coder_7d493_7 : decode cJ0_coder_7d493 7 = .ok (.getfield 15, 3) := by decide +kernel
theorem dJ0_coder_7d493_10 : decode cJ0_coder_7d493 10 = .ok (.goto 4, 3) := by decide +kernel
theorem dJ0_coder_7d493_13 : decode cJ0_coder_7d493 13 = .ok (.iconst 1, 1) := by decide +kernel
theorem dJ0_coder_7d493_14 : decode cJ0_coder_7d493 14 = .ok (.ireturn, 1) := by decide +kernel
theorem dJ0_isLatin1_aae02_0 : decode cJ0_isLatin1_aae02 0 = .ok (.getstatic 38, 3) := by decide +kernel
theorem dJ0_isLatin1_aae02_3 : decode cJ0_isLatin1_aae02 3 = .ok (.ifCond .eq 14, 3) := by decide +kernel
theorem dJ0_isLatin1_aae02_6 : decode cJ0_isLatin1_aae02 6 = .ok (.aload_n 0, 1) := by decide +kernel
theorem dJ0_isLatin1_aae02_7 : decode cJ0_isLatin1_aae02 7 = .ok (.getfield 15, 3) := by decide +kernel
theorem dJ0_isLatin1_aae02_10 : decode cJ0_isLatin1_aae02 10 = .ok (.ifCond .ne 7, 3) := by decide +kernel
theorem dJ0_isLatin1_aae02_13 : decode cJ0_isLatin1_aae02 13 = .ok (.iconst 1, 1) := by decide +kernel
theorem dJ0_isLatin1_aae02_14 : decode cJ0_isLatin1_aae02 14 = .ok (.goto 4, 3) := by decide +kernel
theorem dJ0_isLatin1_aae02_17 : decode cJ0_isLatin1_aae02 17 = .ok (.iconst 0, 1) := by decide +kernel
theorem dJ0_isLatin1_aae02_18 : decode cJ0_isLatin1_aae02 18 = .ok (.ireturn, 1) := by decide +kernel
set_option maxRecDepth 20000 in
theorem ggJ0_checkIndex_df160_J3_checkIndex_8e157 : GoodIn wsJ0_checkIndex_df160 wsJ3_checkIndex_8e157 := goodIn_r _ [5] (by decide +kernel) (by decide +kernel)
set_option maxRecDepth 20000 in
theorem gJ0_checkIndex_df160_J3_checkIndex_8e157 : GoodIn wsJ0_checkIndex_df160 (va_wsS RJ0 1059 yJ3_checkIndex_8e157 wsJ3_checkIndex_8e157) := goodIn_app (goodIn_of _ (by decide +kernel)) ggJ0_checkIndex_df160_J3_checkIndex_8e157
theorem dJ0_checkIndex_df160_0 : decode cJ0_checkIndex_df160 0 = .ok (.iload_n 0, 1) := by decide +kernel
theorem dJ0_checkIndex_df160_1 : decode cJ0_checkIndex_df160 1 = .ok (.iload_n 1, 1) := by decide +kernel
theorem dJ0_checkIndex_df160_2 : decode cJ0_checkIndex_df160 2 = .ok (.getstatic 1053, 3) := by decide +kernel
theorem dJ0_checkIndex_df160_5 : decode cJ0_checkIndex_df160 5 = .ok (.invokestatic 1059, 3) := by decide +kernel
theorem dJ0_checkIndex_df160_8 : decode cJ0_checkIndex_df160 8 = .ok (.pop, 1) := by decide +kernel
theorem dJ0_checkIndex_df160_9 : decode cJ0_checkIndex_df160 9 = .ok (.return_, 1) := by decide +kernel
set_option maxRecDepth 20000 in
theorem ggJ1_charAt_3b067_J0_checkIndex_df160 : GoodIn wsJ1_charAt_3b067 wsJ0_checkIndex_df160 := goodIn_r _ [4, 5, 6, 7, 8, 9] (by decide +kernel) (by decide +kernel)
set_option maxRecDepth 20000 in
theorem gJ1_charAt_3b067_J0_checkIndex_df160 : GoodIn wsJ1_charAt_3b067 (va_wsS RJ1 9 yJ0_checkIndex_df160 wsJ0_checkIndex_df160) := goodIn_app (goodIn_of _ (by decide +kernel)) ggJ1_charAt_3b067_J0_checkIndex_df160
theorem dJ1_charAt_3b067_0 : decode cJ1_charAt_3b067 0 = .ok (.iload_n 1, 1) := by decide +kernel
theorem dJ1_charAt_3b067_1 : decode cJ1_charAt_3b067 1 = .ok (.aload_n 0, 1) := by decide +kernel
theorem dJ1_charAt_3b067_2 : decode cJ1_charAt_3b067 2 = .ok (.arraylength, 1) := by decide +kernel
theorem dJ1_charAt_3b067_3 : decode cJ1_charAt_3b067 3 = .ok (.invokestatic 9, 3) := by decide +kernel
theorem dJ1_charAt_3b067_6 : decode cJ1_charAt_3b067 6 = .ok (.aload_n 0, 1) := by decide +kernel
theorem dJ1_charAt_3b067_7 : decode cJ1_charAt_3b067 7 = .ok (.iload_n 1, 1) := by decide +kernel
theorem dJ1_charAt_3b067_8 : decode cJ1_charAt_3b067 8 = .ok (.baload, 1) := by decide +kernel
theorem dJ1_charAt_3b067_9 : decode cJ1_charAt_3b067 9 = .ok (.sipush 255, 3) := by decide +kernel
theorem dJ1_charAt_3b067_12 : decode cJ1_charAt_3b067 12 = .ok (.iand, 1) := by decide +kernel
theorem dJ1_charAt_3b067_13 : decode cJ1_charAt_3b067 13 = .ok (.i2c, 1) := by decide +kernel
theorem dJ1_charAt_3b067_14 : decode cJ1_charAt_3b067 14 = .ok (.ireturn, 1) := by decide +kernel
set_option maxRecDepth 20000 in
theorem ggJ2_getChar_3b067_J2_length_9d52b : GoodIn wsJ2_getChar_3b067 wsJ2_length_9d52b := goodIn_r _ [7] (by decide +kernel) (by decide +kernel)
set_option maxRecDepth 20000 in
theorem gJ2_getChar_3b067_J2_length_9d52b : GoodIn wsJ2_getChar_3b067 (va_wsS RJ2 48 yJ2_length_9d52b wsJ2_length_9d52b) := goodIn_app (goodIn_of _ (by decide +kernel)) ggJ2_getChar_3b067_J2_length_9d52b
theorem dJ2_getChar_3b067_0 : decode cJ2_getChar_3b067 0 = .ok (.getstatic 44, 3) := by decide +kernel
theorem dJ2_getChar_3b067_3 : decode cJ2_getChar_3b067 3 = .ok (.ifCond .ne 25, 3) := by decide +kernel
theorem dJ2_getChar_3b067_6 : decode cJ2_getChar_3b067 6 = .ok (.iload_n 1, 1) := by decide +kernel
theorem dJ2_getChar_3b067_7 : decode cJ2_getChar_3b067 7 = .ok (.ifCond .lt 11, 3) := by decide +kernel
theorem dJ2_getChar_3b067_10 : decode cJ2_getChar_3b067 10 = .ok (.iload_n 1, 1) := by decide +kernel
theorem dJ2_getChar_3b067_11 : decode cJ2_getChar_3b067 11 = .ok (.aload_n 0, 1) := by decide +kernel
theorem dJ2_getChar_3b067_12 : decode cJ2_getChar_3b067 12 = .ok (.invokestatic 48, 3) := by decide +kernel
theorem dJ2_getChar_3b067_15 : decode cJ2_getChar_3b067 15 = .ok (.if_icmp .lt 13, 3) := by decide +kernel
theorem dJ2_getChar_3b067_18 : decode cJ2_getChar_3b067 18 = .ok (.new 52, 3) := by decide +kernel
theorem dJ2_getChar_3b067_21 : decode cJ2_getChar_3b067 21 = .ok (.dup, 1) := by decide +kernel
theorem dJ2_getChar_3b067_22 : decode cJ2_getChar_3b067 22 = .ok (.ldc 54, 2) := by decide +kernel
theorem dJ2_getChar_3b067_24 : decode cJ2_getChar_3b067 24 = .ok (.invokespecial 56, 3) := by decide +kernel
theorem dJ2_getChar_3b067_27 : decode cJ2_getChar_3b067 27 = .ok (.athrow, 1) := by decide +kernel
theorem dJ2_getChar_3b067_28 : decode cJ2_getChar_3b067 28 = .ok (.iload_n 1, 1) := by decide +kernel
theorem dJ2_getChar_3b067_29 : decode cJ2_getChar_3b067 29 = .ok (.iconst 1, 1) := by decide +kernel
theorem dJ2_getChar_3b067_30 : decode cJ2_getChar_3b067 30 = .ok (.ishl, 1) := by decide +kernel
theorem dJ2_getChar_3b067_31 : decode cJ2_getChar_3b067 31 = .ok (.istore_n 1, 1) := by decide +kernel
theorem dJ2_getChar_3b067_32 : decode cJ2_getChar_3b067 32 = .ok (.aload_n 0, 1) := by decide +kernel
theorem dJ2_getChar_3b067_33 : decode cJ2_getChar_3b067 33 = .ok (.iload_n 1, 1) := by decide +kernel
theorem dJ2_getChar_3b067_34 : decode cJ2_getChar_3b067 34 = .ok (.iinc 1 1, 3) := by decide +kernel
theorem dJ2_getChar_3b067_37 : decode cJ2_getChar_3b067 37 = .ok (.baload, 1) := by decide +kernel
theorem dJ2_getChar_3b067_38 : decode cJ2_getChar_3b067 38 = .ok (.sipush 255, 3) := by decide +kernel
theorem dJ2_getChar_3b067_41 : decode cJ2_getChar_3b067 41 = .ok (.iand, 1) := by decide +kernel
theorem dJ2_getChar_3b067_42 : decode cJ2_getChar_3b067 42 = .ok (.getstatic 59, 3) := by decide +kernel
theorem dJ2_getChar_3b067_45 : decode cJ2_getChar_3b067 45 = .ok (.ishl, 1) := by decide +kernel
theorem dJ2_getChar_3b067_46 : decode cJ2_getChar_3b067 46 = .ok (.aload_n 0, 1) := by decide +kernel
theorem dJ2_getChar_3b067_47 : decode cJ2_getChar_3b067 47 = .ok (.iload_n 1, 1) := by decide +kernel
theorem dJ2_getChar_3b067_48 : decode cJ2_getChar_3b067 48 = .ok (.baload, 1) := by decide +kernel
theorem dJ2_getChar_3b067_49 : decode cJ2_getChar_3b067 49 = .ok (.sipush 255, 3) := by decide +kernel
theorem dJ2_getChar_3b067_52 : decode cJ2_getChar_3b067 52 = .ok (.iand, 1) := by decide +kernel
theorem dJ2_getChar_3b067_53 : decode cJ2_getChar_3b067 53 = .ok (.getstatic 63, 3) := by decide +kernel
theorem dJ2_getChar_3b067_56 : decode cJ2_getChar_3b067 56 = .ok (.ishl, 1) := by decide +kernel
theorem dJ2_getChar_3b067_57 : decode cJ2_getChar_3b067 57 = .ok (.ior, 1) := by decide +kernel
theorem dJ2_getChar_3b067_58 : decode cJ2_getChar_3b067 58 = .ok (.i2c, 1) := by decide +kernel
theorem dJ2_getChar_3b067_59 : decode cJ2_getChar_3b067 59 = .ok (.ireturn, 1) := by decide +kernel
theorem dJ2_length_9d52b_0 : decode cJ2_length_9d52b 0 = .ok (.aload_n 0, 1) := by decide +kernel
theorem dJ2_length_9d52b_1 : decode cJ2_length_9d52b 1 = .ok (.arraylength, 1) := by decide +kernel
theorem dJ2_length_9d52b_2 : decode cJ2_length_9d52b 2 = .ok (.iconst 1, 1) := by decide +kernel
theorem dJ2_length_9d52b_3 : decode cJ2_length_9d52b 3 = .ok (.ishr, 1) := by decide +kernel
theorem dJ2_length_9d52b_4 : decode cJ2_length_9d52b 4 = .ok (.ireturn, 1) := by decide +kernel
set_option maxRecDepth 20000 in
theorem ggJ2_charAt_3b067_J2_checkIndex_2214a : GoodIn wsJ2_charAt_3b067 wsJ2_checkIndex_2214a := goodIn_r _ [4, 5, 6, 3, 7, 8, 9, 10, 11, 12, 13, 14, 15, 16] (by decide +kernel) (by decide +kernel)
set_option maxRecDepth 20000 in
theorem gJ2_charAt_3b067_J2_checkIndex_2214a : GoodIn wsJ2_charAt_3b067 (va_wsS RJ2 67 yJ2_checkIndex_2214a wsJ2_checkIndex_2214a) := goodIn_app (goodIn_of _ (by decide +kernel)) ggJ2_charAt_3b067_J2_checkIndex_2214a
set_option maxRecDepth 20000 in
theorem ggJ2_charAt_3b067_J2_getChar_3b067 : GoodIn wsJ2_charAt_3b067 wsJ2_getChar_3b067 := goodIn_r _ [19, 20, 21, 22, 5, 6, 3, 7] (by decide +kernel) (by decide +kernel)
set_option maxRecDepth 20000 in
theorem gJ2_charAt_3b067_J2_getChar_3b067 : GoodIn wsJ2_charAt_3b067 (va_wsS RJ2 71 yJ2_getChar_3b067 wsJ2_getChar_3b067) := goodIn_app (goodIn_of _ (by decide +kernel)) ggJ2_charAt_3b067_J2_getChar_3b067
theorem dJ2_charAt_3b067_0 : decode cJ2_charAt_3b067 0 = .ok (.iload_n 1, 1) := by decide +kernel
theorem dJ2_charAt_3b067_1 : decode cJ2_charAt_3b067 1 = .ok (.aload_n 0, 1) := by decide +kernel
theorem dJ2_charAt_3b067_2 : decode cJ2_charAt_3b067 2 = .ok (.invokestatic 67, 3) := by decide +kernel
theorem dJ2_charAt_3b067_5 : decode cJ2_charAt_3b067 5 = .ok (.aload_n 0, 1) := by decide +kernel
theorem dJ2_charAt_3b067_6 : decode cJ2_charAt_3b067 6 = .ok (.iload_n 1, 1) := by decide +kernel
theorem dJ2_charAt_3b067_7 : decode cJ2_charAt_3b067 7 = .ok (.invokestatic 71, 3) := by decide +kernel
theorem dJ2_charAt_3b067_10 : decode cJ2_charAt_3b067 10 = .ok (.ireturn, 1) := by decide +kernel
set_option maxRecDepth 20000 in
theorem ggJ2_checkIndex_2214a_J2_length_9d52b : GoodIn wsJ2_checkIndex_2214a wsJ2_length_9d52b := goodIn_r _ [4] (by decide +kernel) (by decide +kernel)
set_option maxRecDepth 20000 in
theorem gJ2_checkIndex_2214a_J2_length_9d52b : GoodIn wsJ2_checkIndex_2214a (va_wsS RJ2 48 yJ2_length_9d52b wsJ2_length_9d52b) := goodIn_app (goodIn_of _ (by decide +kernel)) ggJ2_checkIndex_2214a_J2_length_9d52b
set_option maxRecDepth 20000 in
theorem ggJ2_checkIndex_2214a_J0_checkIndex_df160 : GoodIn wsJ2_checkIndex_2214a wsJ0_checkIndex_df160 := goodIn_r _ [8, 9, 10, 11, 12, 13] (by decide +kernel) (by decide +kernel)
set_option maxRecDepth 20000 in
theorem gJ2_checkIndex_2214a_J0_checkIndex_df160 : GoodIn wsJ2_checkIndex_2214a (va_wsS RJ2 414 yJ0_checkIndex_df160 wsJ0_checkIndex_df160) := goodIn_app (goodIn_of _ (by decide +kernel)) ggJ2_checkIndex_2214a_J0_checkIndex_df160
theorem dJ2_checkIndex_2214a_0 : decode cJ2_checkIndex_2214a 0 = .ok (.iload_n 0, 1) := by decide +kernel
theorem dJ2_checkIndex_2214a_1 : decode cJ2_checkIndex_2214a 1 = .ok (.aload_n 1, 1) := by decide +kernel
theorem dJ2_checkIndex_2214a_2 : decode cJ2_checkIndex_2214a 2 = .ok (.invokestatic 48, 3) := by decide +kernel
theorem dJ2_checkIndex_2214a_5 : decode cJ2_checkIndex_2214a 5 = .ok (.invokestatic 414, 3) := by decide +kernel
theorem dJ2_checkIndex_2214a_8 : decode cJ2_checkIndex_2214a 8 = .ok (.return_, 1) := by decide +kernel
theorem dJ7_fill_53178_0 : decode cJ7_fill_53178 0 = .ok (.iconst 0, 1) := by decide +kernel
theorem dJ7_fill_53178_1 : decode cJ7_fill_53178 1 = .ok (.istore_n 2, 1) := by decide +kernel
theorem dJ7_fill_53178_2 : decode cJ7_fill_53178 2 = .ok (.aload_n 0, 1) := by decide +kernel
theorem dJ7_fill_53178_3 : decode cJ7_fill_53178 3 = .ok (.arraylength, 1) := by decide +kernel
theorem dJ7_fill_53178_4 : decode cJ7_fill_53178 4 = .ok (.istore_n 3, 1) := by decide +kernel
theorem dJ7_fill_53178_5 : decode cJ7_fill_53178 5 = .ok (.iload_n 2, 1) := by decide +kernel
theorem dJ7_fill_53178_6 : decode cJ7_fill_53178 6 = .ok (.iload_n 3, 1) := by decide +kernel
theorem dJ7_fill_53178_7 : decode cJ7_fill_53178 7 = .ok (.if_icmp .ge 13, 3) := by decide +kernel
theorem dJ7_fill_53178_10 : decode cJ7_fill_53178 10 = .ok (.aload_n 0, 1) := by decide +kernel
theorem dJ7_fill_53178_11 : decode cJ7_fill_53178 11 = .ok (.iload_n 2, 1) := by decide +kernel
theorem dJ7_fill_53178_12 : decode cJ7_fill_53178 12 = .ok (.iload_n 1, 1) := by decide +kernel
theorem dJ7_fill_53178_13 : decode cJ7_fill_53178 13 = .ok (.iastore, 1) := by decide +kernel
theorem dJ7_fill_53178_14 : decode cJ7_fill_53178 14 = .ok (.iinc 2 1, 3) := by decide +kernel
theorem dJ7_fill_53178_17 : decode cJ7_fill_53178 17 = .ok (.goto (-12), 3) := by decide +kernel
theorem dJ7_fill_53178_20 : decode cJ7_fill_53178 20 = .ok (.return_, 1) := by decide +kernel
theorem dJ3_checkIndex_8e157_0 : decode cJ3_checkIndex_8e157 0 = .ok (.iload_n 0, 1) := by decide +kernel
theorem dJ3_checkIndex_8e157_1 : decode cJ3_checkIndex_8e157 1 = .ok (.ifCond .lt 8, 3) := by decide +kernel
theorem dJ3_checkIndex_8e157_4 : decode cJ3_checkIndex_8e157 4 = .ok (.iload_n 0, 1) := by decide +kernel
theorem dJ3_checkIndex_8e157_5 : decode cJ3_checkIndex_8e157 5 = .ok (.iload_n 1, 1) := by decide +kernel
theorem dJ3_checkIndex_8e157_6 : decode cJ3_checkIndex_8e157 6 = .ok (.if_icmp .lt 10, 3) := by decide +kernel
theorem dJ3_checkIndex_8e157_9 : decode cJ3_checkIndex_8e157 9 = .ok (.aload_n 2, 1) := by decide +kernel
theorem dJ3_checkIndex_8e157_10 : decode cJ3_checkIndex_8e157 10 = .ok (.iload_n 0, 1) := by decide +kernel
theorem dJ3_checkIndex_8e157_11 : decode cJ3_checkIndex_8e157 11 = .ok (.iload_n 1, 1) := by decide +kernel
theorem dJ3_checkIndex_8e157_12 : decode cJ3_checkIndex_8e157 12 = .ok (.invokestatic 95, 3) := by decide +kernel
theorem dJ3_checkIndex_8e157_15 : decode cJ3_checkIndex_8e157 15 = .ok (.athrow, 1) := by decide +kernel
theorem dJ3_checkIndex_8e157_16 : decode cJ3_checkIndex_8e157 16 = .ok (.iload_n 0, 1) := by decide +kernel
theorem dJ3_checkIndex_8e157_17 : decode cJ3_checkIndex_8e157 17 = .ok (.ireturn, 1) := by decide +kernel
set_option maxRecDepth 20000 in
theorem ggL_deposit_X2_deposit : GoodIn wsL_deposit wsX2_deposit := goodIn_ca (goodIn_ca (goodIn_r _ [7, 8, 9, 10, 11, 6, 12, 13, 14, 15, 16, 17, 18, 19, 20, 21, 22, 23, 24, 25] (by decide +kernel) (by decide +kernel)) (goodIn_sub (fun _ h => List.mem_cons_of_mem _ (List.mem_append_left _ (List.mem_append_right _ h))) (by decide +kernel))) (goodIn_sub (fun _ h => List.mem_cons_of_mem _ (List.mem_append_right _ h)) (by decide +kernel))
set_option maxRecDepth 20000 in
theorem gL_deposit_X2_deposit : GoodIn wsL_deposit (wsV RL 7 RX2 yX2_deposit wsX2_deposit) := goodIn_app (goodIn_of _ (by decide +kernel)) ggL_deposit_X2_deposit
theorem dL_deposit_0 : decode cL_deposit 0 = .ok (.aload_n 3, 1) := by decide +kernel
theorem dL_deposit_1 : decode cL_deposit 1 = .ok (.iconst 0, 1) := by decide +kernel
theorem dL_deposit_2 : decode cL_deposit 2 = .ok (.aload_n 0, 1) := by decide +kernel
theorem dL_deposit_3 : decode cL_deposit 3 = .ok (.iload_n 1, 1) := by decide +kernel
theorem dL_deposit_4 : decode cL_deposit 4 = .ok (.iload_n 2, 1) := by decide +kernel
theorem dL_deposit_5 : decode cL_deposit 5 = .ok (.invokevirtual 7, 3) := by decide +kernel
theorem dL_deposit_8 : decode cL_deposit 8 = .ok (.i2l, 1) := by decide +kernel
theorem dL_deposit_9 : decode cL_deposit 9 = .ok (.lastore, 1) := by decide +kernel
theorem dL_deposit_10 : decode cL_deposit 10 = .ok (.goto 11, 3) := by decide +kernel
theorem dL_deposit_13 : decode cL_deposit 13 = .ok (.astore 4, 2) := by decide +kernel
theorem dL_deposit_15 : decode cL_deposit 15 = .ok (.iconst 1, 1) := by decide +kernel
theorem dL_deposit_16 : decode cL_deposit 16 = .ok (.ireturn, 1) := by decide +kernel
theorem dL_deposit_17 : decode cL_deposit 17 = .ok (.astore 4, 2) := by decide +kernel
theorem dL_deposit_19 : decode cL_deposit 19 = .ok (.iconst 2, 1) := by decide +kernel
theorem dL_deposit_20 : decode cL_deposit 20 = .ok (.ireturn, 1) := by decide +kernel
theorem dL_deposit_21 : decode cL_deposit 21 = .ok (.iconst 0, 1) := by decide +kernel
theorem dL_deposit_22 : decode cL_deposit 22 = .ok (.ireturn, 1) := by decide +kernel
set_option maxRecDepth 20000 in
theorem ggL_funds_X2_funds : GoodIn wsL_funds wsX2_funds := goodIn_ca (goodIn_r _ [6, 7, 8, 9, 5, 10, 11, 12, 13, 14, 15, 16, 17, 18] (by decide +kernel) (by decide +kernel)) (goodIn_sub (fun _ h => List.mem_cons_of_mem _ (List.mem_append_right _ h)) (by decide +kernel))
set_option maxRecDepth 20000 in
theorem gL_funds_X2_funds : GoodIn wsL_funds (wsV RL 17 RX2 yX2_funds wsX2_funds) := goodIn_app (goodIn_of _ (by decide +kernel)) ggL_funds_X2_funds
theorem dL_funds_0 : decode cL_funds 0 = .ok (.aload_n 2, 1) := by decide +kernel
theorem dL_funds_1 : decode cL_funds 1 = .ok (.iconst 0, 1) := by decide +kernel
theorem dL_funds_2 : decode cL_funds 2 = .ok (.aload_n 0, 1) := by decide +kernel
theorem dL_funds_3 : decode cL_funds 3 = .ok (.iload_n 1, 1) := by decide +kernel
theorem dL_funds_4 : decode cL_funds 4 = .ok (.invokevirtual 17, 3) := by decide +kernel
theorem dL_funds_7 : decode cL_funds 7 = .ok (.i2l, 1) := by decide +kernel
theorem dL_funds_8 : decode cL_funds 8 = .ok (.lastore, 1) := by decide +kernel
theorem dL_funds_9 : decode cL_funds 9 = .ok (.goto 6, 3) := by decide +kernel
theorem dL_funds_12 : decode cL_funds 12 = .ok (.astore_n 3, 1) := by decide +kernel
theorem dL_funds_13 : decode cL_funds 13 = .ok (.iconst 1, 1) := by decide +kernel
theorem dL_funds_14 : decode cL_funds 14 = .ok (.ireturn, 1) := by decide +kernel
theorem dL_funds_15 : decode cL_funds 15 = .ok (.iconst 0, 1) := by decide +kernel
theorem dL_funds_16 : decode cL_funds 16 = .ok (.ireturn, 1) := by decide +kernel
set_option maxRecDepth 20000 in
theorem ggL_bid_X2_bid : GoodIn wsL_bid wsX2_bid := goodIn_ca (goodIn_ca (goodIn_ca (goodIn_r _ [8, 9, 10, 11, 12, 13, 14, 7, 15, 16, 17, 18, 19, 20, 21, 22, 23, 24, 25, 26, 27, 28, 29, 30, 31, 32, 33, 34, 35, 36, 37, 38, 39, 40, 41, 42, 43, 44, 45, 46, 47, 48, 49, 50] (by decide +kernel) (by decide +kernel)) (goodIn_sub (fun _ h => List.mem_cons_of_mem _ (List.mem_append_left _ (List.mem_append_left _ (List.mem_append_right _ h)))) (by decide +kernel))) (goodIn_sub (fun _ h => List.mem_cons_of_mem _ (List.mem_append_left _ (List.mem_append_right _ h))) (by decide +kernel))) (goodIn_sub (fun _ h => List.mem_cons_of_mem _ (List.mem_append_right _ h)) (by decide +kernel))
set_option maxRecDepth 20000 in
theorem gL_bid_X2_bid : GoodIn wsL_bid (wsV RL 21 RX2 yX2_bid wsX2_bid) := goodIn_app (goodIn_of _ (by decide +kernel)) ggL_bid_X2_bid
theorem dL_bid_0 : decode cL_bid 0 = .ok (.aload 4, 2) := by decide +kernel
theorem dL_bid_2 : decode cL_bid 2 = .ok (.iconst 0, 1) := by decide +kernel
theorem dL_bid_3 : decode cL_bid 3 = .ok (.aload_n 0, 1) := by decide +kernel
theorem dL_bid_4 : decode cL_bid 4 = .ok (.iload_n 1, 1) := by decide +kernel
theorem dL_bid_5 : decode cL_bid 5 = .ok (.iload_n 2, 1) := by decide +kernel
theorem dL_bid_6 : decode cL_bid 6 = .ok (.iload_n 3, 1) := by decide +kernel
theorem dL_bid_7 : decode cL_bid 7 = .ok (.invokevirtual 21, 3) := by decide +kernel
theorem dL_bid_10 : decode cL_bid 10 = .ok (.i2l, 1) := by decide +kernel
theorem dL_bid_11 : decode cL_bid 11 = .ok (.lastore, 1) := by decide +kernel
theorem dL_bid_12 : decode cL_bid 12 = .ok (.goto 15, 3) := by decide +kernel
theorem dL_bid_15 : decode cL_bid 15 = .ok (.astore 5, 2) := by decide +kernel
theorem dL_bid_17 : decode cL_bid 17 = .ok (.iconst 1, 1) := by decide +kernel
theorem dL_bid_18 : decode cL_bid 18 = .ok (.ireturn, 1) := by decide +kernel
theorem dL_bid_19 : decode cL_bid 19 = .ok (.astore 5, 2) := by decide +kernel
theorem dL_bid_21 : decode cL_bid 21 = .ok (.iconst 2, 1) := by decide +kernel
theorem dL_bid_22 : decode cL_bid 22 = .ok (.ireturn, 1) := by decide +kernel
theorem dL_bid_23 : decode cL_bid 23 = .ok (.astore 5, 2) := by decide +kernel
theorem dL_bid_25 : decode cL_bid 25 = .ok (.iconst 3, 1) := by decide +kernel
theorem dL_bid_26 : decode cL_bid 26 = .ok (.ireturn, 1) := by decide +kernel
theorem dL_bid_27 : decode cL_bid 27 = .ok (.iconst 0, 1) := by decide +kernel
theorem dL_bid_28 : decode cL_bid 28 = .ok (.ireturn, 1) := by decide +kernel
set_option maxRecDepth 20000 in
theorem ggL_bids_X2_bids : GoodIn wsL_bids wsX2_bids := goodIn_ca (goodIn_r _ [6, 7, 8, 9, 5, 10, 11, 12, 13, 14, 15, 16, 17, 18, 19, 20, 21, 22, 23, 24, 25, 26, 27, 28, 29, 30, 31, 32, 33, 34] (by decide +kernel) (by decide +kernel)) (goodIn_sub (fun _ h => List.mem_cons_of_mem _ (List.mem_append_right _ h)) (by decide +kernel))
set_option maxRecDepth 20000 in
theorem gL_bids_X2_bids : GoodIn wsL_bids (wsV RL 27 RX2 yX2_bids wsX2_bids) := goodIn_app (goodIn_of _ (by decide +kernel)) ggL_bids_X2_bids
theorem dL_bids_0 : decode cL_bids 0 = .ok (.aload_n 2, 1) := by decide +kernel
theorem dL_bids_1 : decode cL_bids 1 = .ok (.iconst 0, 1) := by decide +kernel
theorem dL_bids_2 : decode cL_bids 2 = .ok (.aload_n 0, 1) := by decide +kernel
theorem dL_bids_3 : decode cL_bids 3 = .ok (.iload_n 1, 1) := by decide +kernel
theorem dL_bids_4 : decode cL_bids 4 = .ok (.invokevirtual 27, 3) := by decide +kernel
theorem dL_bids_7 : decode cL_bids 7 = .ok (.i2l, 1) := by decide +kernel
theorem dL_bids_8 : decode cL_bids 8 = .ok (.lastore, 1) := by decide +kernel
theorem dL_bids_9 : decode cL_bids 9 = .ok (.goto 6, 3) := by decide +kernel
theorem dL_bids_12 : decode cL_bids 12 = .ok (.astore_n 3, 1) := by decide +kernel
theorem dL_bids_13 : decode cL_bids 13 = .ok (.iconst 1, 1) := by decide +kernel
theorem dL_bids_14 : decode cL_bids 14 = .ok (.ireturn, 1) := by decide +kernel
theorem dL_bids_15 : decode cL_bids 15 = .ok (.iconst 0, 1) := by decide +kernel
theorem dL_bids_16 : decode cL_bids 16 = .ok (.ireturn, 1) := by decide +kernel
set_option maxRecDepth 20000 in
theorem ggL_renew_X2_renew : GoodIn wsL_renew wsX2_renew := goodIn_ca (goodIn_ca (goodIn_ca (goodIn_r _ [8, 9, 10, 11, 12, 7, 13, 14, 15, 16, 17, 18, 19, 20, 21, 22, 23, 24, 25, 26, 27, 28, 29, 30, 31, 32, 33, 34, 35, 36, 37, 38, 39, 40, 41, 42, 43, 44, 45, 46, 47, 48, 49, 50, 51, 52, 53, 54, 55] (by decide +kernel) (by decide +kernel)) (goodIn_sub (fun _ h => List.mem_cons_of_mem _ (List.mem_append_left _ (List.mem_append_left _ (List.mem_append_right _ h)))) (by decide +kernel))) (goodIn_sub (fun _ h => List.mem_cons_of_mem _ (List.mem_append_left _ (List.mem_append_right _ h))) (by decide +kernel))) (goodIn_sub (fun _ h => List.mem_cons_of_mem _ (List.mem_append_right _ h)) (by decide +kernel))
set_option maxRecDepth 20000 in
theorem gL_renew_X2_renew : GoodIn wsL_renew (wsV RL 30 RX2 yX2_renew wsX2_renew) := goodIn_app (goodIn_of _ (by decide +kernel)) ggL_renew_X2_renew
theorem dL_renew_0 : decode cL_renew 0 = .ok (.aload_n 3, 1) := by decide +kernel
theorem dL_renew_1 : decode cL_renew 1 = .ok (.iconst 0, 1) := by decide +kernel
theorem dL_renew_2 : decode cL_renew 2 = .ok (.aload_n 0, 1) := by decide +kernel
theorem dL_renew_3 : decode cL_renew 3 = .ok (.iload_n 1, 1) := by decide +kernel
theorem dL_renew_4 : decode cL_renew 4 = .ok (.iload_n 2, 1) := by decide +kernel
theorem dL_renew_5 : decode cL_renew 5 = .ok (.invokevirtual 30, 3) := by decide +kernel
theorem dL_renew_8 : decode cL_renew 8 = .ok (.i2l, 1) := by decide +kernel
theorem dL_renew_9 : decode cL_renew 9 = .ok (.lastore, 1) := by decide +kernel
theorem dL_renew_10 : decode cL_renew 10 = .ok (.goto 15, 3) := by decide +kernel
theorem dL_renew_13 : decode cL_renew 13 = .ok (.astore 4, 2) := by decide +kernel
theorem dL_renew_15 : decode cL_renew 15 = .ok (.iconst 1, 1) := by decide +kernel
theorem dL_renew_16 : decode cL_renew 16 = .ok (.ireturn, 1) := by decide +kernel
theorem dL_renew_17 : decode cL_renew 17 = .ok (.astore 4, 2) := by decide +kernel
theorem dL_renew_19 : decode cL_renew 19 = .ok (.iconst 2, 1) := by decide +kernel
theorem dL_renew_20 : decode cL_renew 20 = .ok (.ireturn, 1) := by decide +kernel
theorem dL_renew_21 : decode cL_renew 21 = .ok (.astore 4, 2) := by decide +kernel
theorem dL_renew_23 : decode cL_renew 23 = .ok (.iconst 3, 1) := by decide +kernel
theorem dL_renew_24 : decode cL_renew 24 = .ok (.ireturn, 1) := by decide +kernel
theorem dL_renew_25 : decode cL_renew 25 = .ok (.iconst 0, 1) := by decide +kernel
theorem dL_renew_26 : decode cL_renew 26 = .ok (.ireturn, 1) := by decide +kernel
set_option maxRecDepth 20000 in
theorem ggL_redeem_X2_redeem : GoodIn wsL_redeem wsX2_redeem := goodIn_ca (goodIn_ca (goodIn_r _ [7, 8, 9, 10, 11, 6, 12, 13, 14, 15, 16, 17, 18, 19, 20, 21, 22, 23, 24, 25, 26, 27, 28, 29, 30, 31, 32, 33, 34, 35, 36, 37, 38, 39, 40, 41, 42, 43, 44, 45, 46, 47, 48, 49, 50, 51, 52, 53, 54, 55, 56, 57, 58, 59, 60, 61, 62, 63, 64] (by decide +kernel) (by decide +kernel)) (goodIn_sub (fun _ h => List.mem_cons_of_mem _ (List.mem_append_left _ (List.mem_append_right _ h))) (by decide +kernel))) (goodIn_sub (fun _ h => List.mem_cons_of_mem _ (List.mem_append_right _ h)) (by decide +kernel))
set_option maxRecDepth 20000 in
theorem gL_redeem_X2_redeem : GoodIn wsL_redeem (wsV RL 33 RX2 yX2_redeem wsX2_redeem) := goodIn_app (goodIn_of _ (by decide +kernel)) ggL_redeem_X2_redeem
theorem dL_redeem_0 : decode cL_redeem 0 = .ok (.aload_n 2, 1) := by decide +kernel
theorem dL_redeem_1 : decode cL_redeem 1 = .ok (.iconst 0, 1) := by decide +kernel
theorem dL_redeem_2 : decode cL_redeem 2 = .ok (.aload_n 0, 1) := by decide +kernel
theorem dL_redeem_3 : decode cL_redeem 3 = .ok (.iload_n 1, 1) := by decide +kernel
theorem dL_redeem_4 : decode cL_redeem 4 = .ok (.invokevirtual 33, 3) := by decide +kernel
theorem dL_redeem_7 : decode cL_redeem 7 = .ok (.i2l, 1) := by decide +kernel
theorem dL_redeem_8 : decode cL_redeem 8 = .ok (.lastore, 1) := by decide +kernel
theorem dL_redeem_9 : decode cL_redeem 9 = .ok (.goto 9, 3) := by decide +kernel
theorem dL_redeem_12 : decode cL_redeem 12 = .ok (.astore_n 3, 1) := by decide +kernel
theorem dL_redeem_13 : decode cL_redeem 13 = .ok (.iconst 1, 1) := by decide +kernel
theorem dL_redeem_14 : decode cL_redeem 14 = .ok (.ireturn, 1) := by decide +kernel
theorem dL_redeem_15 : decode cL_redeem 15 = .ok (.astore_n 3, 1) := by decide +kernel
theorem dL_redeem_16 : decode cL_redeem 16 = .ok (.iconst 2, 1) := by decide +kernel
theorem dL_redeem_17 : decode cL_redeem 17 = .ok (.ireturn, 1) := by decide +kernel
theorem dL_redeem_18 : decode cL_redeem 18 = .ok (.iconst 0, 1) := by decide +kernel
theorem dL_redeem_19 : decode cL_redeem 19 = .ok (.ireturn, 1) := by decide +kernel
set_option maxRecDepth 20000 in
theorem ggL_setRecord_X2_setRecord : GoodIn wsL_setRecord wsX2_setRecord := goodIn_ca (goodIn_ca (goodIn_ca (goodIn_r _ [8, 9, 10, 11, 7, 12, 13, 14, 15, 16, 17, 18, 19, 20, 21, 22, 23, 24, 25, 26, 27, 28, 29, 30, 31, 32, 33, 34, 35, 36, 37, 38, 39, 40, 41] (by decide +kernel) (by decide +kernel)) (goodIn_sub (fun _ h => List.mem_cons_of_mem _ (List.mem_append_left _ (List.mem_append_left _ (List.mem_append_right _ h)))) (by decide +kernel))) (goodIn_sub (fun _ h => List.mem_cons_of_mem _ (List.mem_append_left _ (List.mem_append_right _ h))) (by decide +kernel))) (goodIn_sub (fun _ h => List.mem_cons_of_mem _ (List.mem_append_right _ h)) (by decide +kernel))
set_option maxRecDepth 20000 in
theorem gL_setRecord_X2_setRecord : GoodIn wsL_setRecord (wsV RL 36 RX2 yX2_setRecord wsX2_setRecord) := goodIn_app (goodIn_of _ (by decide +kernel)) ggL_setRecord_X2_setRecord
theorem dL_setRecord_0 : decode cL_setRecord 0 = .ok (.aload 4, 2) := by decide +kernel
theorem dL_setRecord_2 : decode cL_setRecord 2 = .ok (.iconst 0, 1) := by decide +kernel
theorem dL_setRecord_3 : decode cL_setRecord 3 = .ok (.aload_n 0, 1) := by decide +kernel
theorem dL_setRecord_4 : decode cL_setRecord 4 = .ok (.iload_n 1, 1) := by decide +kernel
theorem dL_setRecord_5 : decode cL_setRecord 5 = .ok (.iload_n 2, 1) := by decide +kernel
theorem dL_setRecord_6 : decode cL_setRecord 6 = .ok (.iload_n 3, 1) := by decide +kernel
theorem dL_setRecord_7 : decode cL_setRecord 7 = .ok (.invokevirtual 36, 3) := by decide +kernel
theorem dL_setRecord_10 : decode cL_setRecord 10 = .ok (.i2l, 1) := by decide +kernel
theorem dL_setRecord_11 : decode cL_setRecord 11 = .ok (.lastore, 1) := by decide +kernel
theorem dL_setRecord_12 : decode cL_setRecord 12 = .ok (.goto 15, 3) := by decide +kernel
theorem dL_setRecord_15 : decode cL_setRecord 15 = .ok (.astore 5, 2) := by decide +kernel
theorem dL_setRecord_17 : decode cL_setRecord 17 = .ok (.iconst 1, 1) := by decide +kernel
theorem dL_setRecord_18 : decode cL_setRecord 18 = .ok (.ireturn, 1) := by decide +kernel
theorem dL_setRecord_19 : decode cL_setRecord 19 = .ok (.astore 5, 2) := by decide +kernel
theorem dL_setRecord_21 : decode cL_setRecord 21 = .ok (.iconst 2, 1) := by decide +kernel
theorem dL_setRecord_22 : decode cL_setRecord 22 = .ok (.ireturn, 1) := by decide +kernel
theorem dL_setRecord_23 : decode cL_setRecord 23 = .ok (.astore 5, 2) := by decide +kernel
theorem dL_setRecord_25 : decode cL_setRecord 25 = .ok (.iconst 3, 1) := by decide +kernel
theorem dL_setRecord_26 : decode cL_setRecord 26 = .ok (.ireturn, 1) := by decide +kernel
theorem dL_setRecord_27 : decode cL_setRecord 27 = .ok (.iconst 0, 1) := by decide +kernel
theorem dL_setRecord_28 : decode cL_setRecord 28 = .ok (.ireturn, 1) := by decide +kernel
set_option maxRecDepth 20000 in
theorem ggL_state_X2_state : GoodIn wsL_state wsX2_state := goodIn_ca (goodIn_r _ [6, 7, 8, 9, 5, 10, 11, 12, 13, 14, 15, 16, 17, 18, 19, 20, 21, 22, 23, 24, 25, 26, 27, 28, 29] (by decide +kernel) (by decide +kernel)) (goodIn_sub (fun _ h => List.mem_cons_of_mem _ (List.mem_append_right _ h)) (by decide +kernel))
set_option maxRecDepth 20000 in
theorem gL_state_X2_state : GoodIn wsL_state (wsV RL 39 RX2 yX2_state wsX2_state) := goodIn_app (goodIn_of _ (by decide +kernel)) ggL_state_X2_state
theorem dL_state_0 : decode cL_state 0 = .ok (.aload_n 2, 1) := by decide +kernel
theorem dL_state_1 : decode cL_state 1 = .ok (.iconst 0, 1) := by decide +kernel
theorem dL_state_2 : decode cL_state 2 = .ok (.aload_n 0, 1) := by decide +kernel
theorem dL_state_3 : decode cL_state 3 = .ok (.iload_n 1, 1) := by decide +kernel
theorem dL_state_4 : decode cL_state 4 = .ok (.invokevirtual 39, 3) := by decide +kernel
theorem dL_state_7 : decode cL_state 7 = .ok (.i2l, 1) := by decide +kernel
theorem dL_state_8 : decode cL_state 8 = .ok (.lastore, 1) := by decide +kernel
theorem dL_state_9 : decode cL_state 9 = .ok (.goto 6, 3) := by decide +kernel
theorem dL_state_12 : decode cL_state 12 = .ok (.astore_n 3, 1) := by decide +kernel
theorem dL_state_13 : decode cL_state 13 = .ok (.iconst 1, 1) := by decide +kernel
theorem dL_state_14 : decode cL_state 14 = .ok (.ireturn, 1) := by decide +kernel
theorem dL_state_15 : decode cL_state 15 = .ok (.iconst 0, 1) := by decide +kernel
theorem dL_state_16 : decode cL_state 16 = .ok (.ireturn, 1) := by decide +kernel
set_option maxRecDepth 20000 in
theorem ggL_sign_X2_sign : GoodIn wsL_sign wsX2_sign := goodIn_ca (goodIn_r _ [6, 7, 8, 9, 5, 10, 11, 12, 13, 14, 15, 16, 17, 18, 19, 20, 21, 22, 23, 24, 25, 26, 27, 28, 29, 30, 31, 32, 33, 34, 35, 36, 37, 38, 39, 40, 41, 42, 43, 44, 45, 46, 47, 48, 49, 50, 51, 52, 53, 54, 55, 56, 57, 58, 59, 60, 61, 62, 63, 64, 65, 66, 67, 68, 69, 70, 71, 72, 73, 74, 75, 76, 77, 78, 79, 80, 81] (by decide +kernel) (by decide +kernel)) (goodIn_sub (fun _ h => List.mem_cons_of_mem _ (List.mem_append_right _ h)) (by decide +kernel))
set_option maxRecDepth 20000 in
theorem gL_sign_X2_sign : GoodIn wsL_sign (wsV RL 42 RX2 yX2_sign wsX2_sign) := goodIn_app (goodIn_of _ (by decide +kernel)) ggL_sign_X2_sign
theorem dL_sign_0 : decode cL_sign 0 = .ok (.aload_n 3, 1) := by decide +kernel
theorem dL_sign_1 : decode cL_sign 1 = .ok (.iconst 0, 1) := by decide +kernel
theorem dL_sign_2 : decode cL_sign 2 = .ok (.aload_n 0, 1) := by decide +kernel
theorem dL_sign_3 : decode cL_sign 3 = .ok (.iload_n 1, 1) := by decide +kernel
theorem dL_sign_4 : decode cL_sign 4 = .ok (.iload_n 2, 1) := by decide +kernel
theorem dL_sign_5 : decode cL_sign 5 = .ok (.invokevirtual 42, 3) := by decide +kernel
theorem dL_sign_8 : decode cL_sign 8 = .ok (.i2l, 1) := by decide +kernel
theorem dL_sign_9 : decode cL_sign 9 = .ok (.lastore, 1) := by decide +kernel
theorem dL_sign_10 : decode cL_sign 10 = .ok (.goto 7, 3) := by decide +kernel
theorem dL_sign_13 : decode cL_sign 13 = .ok (.astore 4, 2) := by decide +kernel
theorem dL_sign_15 : decode cL_sign 15 = .ok (.iconst 1, 1) := by decide +kernel
theorem dL_sign_16 : decode cL_sign 16 = .ok (.ireturn, 1) := by decide +kernel
theorem dL_sign_17 : decode cL_sign 17 = .ok (.iconst 0, 1) := by decide +kernel
theorem dL_sign_18 : decode cL_sign 18 = .ok (.ireturn, 1) := by decide +kernel
set_option maxRecDepth 20000 in
theorem ggL_owner_X2_owner : GoodIn wsL_owner wsX2_owner := goodIn_ca (goodIn_r _ [6, 7, 8, 9, 5, 10, 11, 12, 13, 14, 15, 16, 17, 18, 19, 20, 21, 22, 23, 24, 25, 26, 27, 28, 29] (by decide +kernel) (by decide +kernel)) (goodIn_sub (fun _ h => List.mem_cons_of_mem _ (List.mem_append_right _ h)) (by decide +kernel))
set_option maxRecDepth 20000 in
theorem gL_owner_X2_owner : GoodIn wsL_owner (wsV RL 46 RX2 yX2_owner wsX2_owner) := goodIn_app (goodIn_of _ (by decide +kernel)) ggL_owner_X2_owner
theorem dL_owner_0 : decode cL_owner 0 = .ok (.aload_n 2, 1) := by decide +kernel
theorem dL_owner_1 : decode cL_owner 1 = .ok (.iconst 0, 1) := by decide +kernel
theorem dL_owner_2 : decode cL_owner 2 = .ok (.aload_n 0, 1) := by decide +kernel
theorem dL_owner_3 : decode cL_owner 3 = .ok (.iload_n 1, 1) := by decide +kernel
theorem dL_owner_4 : decode cL_owner 4 = .ok (.invokevirtual 46, 3) := by decide +kernel
theorem dL_owner_7 : decode cL_owner 7 = .ok (.i2l, 1) := by decide +kernel
theorem dL_owner_8 : decode cL_owner 8 = .ok (.lastore, 1) := by decide +kernel
theorem dL_owner_9 : decode cL_owner 9 = .ok (.goto 6, 3) := by decide +kernel
theorem dL_owner_12 : decode cL_owner 12 = .ok (.astore_n 3, 1) := by decide +kernel
theorem dL_owner_13 : decode cL_owner 13 = .ok (.iconst 1, 1) := by decide +kernel
theorem dL_owner_14 : decode cL_owner 14 = .ok (.ireturn, 1) := by decide +kernel
theorem dL_owner_15 : decode cL_owner 15 = .ok (.iconst 0, 1) := by decide +kernel
theorem dL_owner_16 : decode cL_owner 16 = .ok (.ireturn, 1) := by decide +kernel
set_option maxRecDepth 20000 in
theorem ggL_next_X2_next : GoodIn wsL_next wsX2_next := goodIn_ca (goodIn_r _ [6, 7, 8, 9, 5, 10, 11, 12, 13, 14, 15, 16, 17, 18, 19, 20, 21, 22, 23, 24, 25, 26, 27, 28, 29, 30, 31, 32, 33, 34, 35, 36] (by decide +kernel) (by decide +kernel)) (goodIn_sub (fun _ h => List.mem_cons_of_mem _ (List.mem_append_right _ h)) (by decide +kernel))
set_option maxRecDepth 20000 in
theorem gL_next_X2_next : GoodIn wsL_next (wsV RL 49 RX2 yX2_next wsX2_next) := goodIn_app (goodIn_of _ (by decide +kernel)) ggL_next_X2_next
theorem dL_next_0 : decode cL_next 0 = .ok (.aload_n 2, 1) := by decide +kernel
theorem dL_next_1 : decode cL_next 1 = .ok (.iconst 0, 1) := by decide +kernel
theorem dL_next_2 : decode cL_next 2 = .ok (.aload_n 0, 1) := by decide +kernel
theorem dL_next_3 : decode cL_next 3 = .ok (.iload_n 1, 1) := by decide +kernel
theorem dL_next_4 : decode cL_next 4 = .ok (.invokevirtual 49, 3) := by decide +kernel
theorem dL_next_7 : decode cL_next 7 = .ok (.i2l, 1) := by decide +kernel
theorem dL_next_8 : decode cL_next 8 = .ok (.lastore, 1) := by decide +kernel
theorem dL_next_9 : decode cL_next 9 = .ok (.goto 6, 3) := by decide +kernel
theorem dL_next_12 : decode cL_next 12 = .ok (.astore_n 3, 1) := by decide +kernel
theorem dL_next_13 : decode cL_next 13 = .ok (.iconst 1, 1) := by decide +kernel
theorem dL_next_14 : decode cL_next 14 = .ok (.ireturn, 1) := by decide +kernel
theorem dL_next_15 : decode cL_next 15 = .ok (.iconst 0, 1) := by decide +kernel
theorem dL_next_16 : decode cL_next 16 = .ok (.ireturn, 1) := by decide +kernel
set_option maxRecDepth 20000 in
theorem ggL_dispute_X2_dispute : GoodIn wsL_dispute wsX2_dispute := goodIn_ca (goodIn_ca (goodIn_r _ [7, 8, 9, 10, 11, 6, 12, 13, 14, 15, 16, 17, 18, 19, 20, 21, 22, 23, 24, 25, 26, 27, 28, 29, 30, 31, 32, 33, 34, 35, 36, 37, 38, 39, 40, 41, 42, 43, 44, 45, 46, 47, 48, 49, 50, 51, 52, 53, 54, 55, 56] (by decide +kernel) (by decide +kernel)) (goodIn_sub (fun _ h => List.mem_cons_of_mem _ (List.mem_append_left _ (List.mem_append_right _ h))) (by decide +kernel))) (goodIn_sub (fun _ h => List.mem_cons_of_mem _ (List.mem_append_right _ h)) (by decide +kernel))
set_option maxRecDepth 20000 in
theorem gL_dispute_X2_dispute : GoodIn wsL_dispute (wsV RL 52 RX2 yX2_dispute wsX2_dispute) := goodIn_app (goodIn_of _ (by decide +kernel)) ggL_dispute_X2_dispute
theorem dL_dispute_0 : decode cL_dispute 0 = .ok (.aload_n 3, 1) := by decide +kernel
theorem dL_dispute_1 : decode cL_dispute 1 = .ok (.iconst 0, 1) := by decide +kernel
theorem dL_dispute_2 : decode cL_dispute 2 = .ok (.aload_n 0, 1) := by decide +kernel
theorem dL_dispute_3 : decode cL_dispute 3 = .ok (.iload_n 1, 1) := by decide +kernel
theorem dL_dispute_4 : decode cL_dispute 4 = .ok (.iload_n 2, 1) := by decide +kernel
theorem dL_dispute_5 : decode cL_dispute 5 = .ok (.invokevirtual 52, 3) := by decide +kernel
theorem dL_dispute_8 : decode cL_dispute 8 = .ok (.i2l, 1) := by decide +kernel
theorem dL_dispute_9 : decode cL_dispute 9 = .ok (.lastore, 1) := by decide +kernel
theorem dL_dispute_10 : decode cL_dispute 10 = .ok (.goto 11, 3) := by decide +kernel
theorem dL_dispute_13 : decode cL_dispute 13 = .ok (.astore 4, 2) := by decide +kernel
theorem dL_dispute_15 : decode cL_dispute 15 = .ok (.iconst 1, 1) := by decide +kernel
theorem dL_dispute_16 : decode cL_dispute 16 = .ok (.ireturn, 1) := by decide +kernel
theorem dL_dispute_17 : decode cL_dispute 17 = .ok (.astore 4, 2) := by decide +kernel
theorem dL_dispute_19 : decode cL_dispute 19 = .ok (.iconst 2, 1) := by decide +kernel
theorem dL_dispute_20 : decode cL_dispute 20 = .ok (.ireturn, 1) := by decide +kernel
theorem dL_dispute_21 : decode cL_dispute 21 = .ok (.iconst 0, 1) := by decide +kernel
theorem dL_dispute_22 : decode cL_dispute 22 = .ok (.ireturn, 1) := by decide +kernel
set_option maxRecDepth 20000 in
theorem ggL_decide_X2_decide : GoodIn wsL_decide wsX2_decide := goodIn_ca (goodIn_ca (goodIn_r _ [7, 8, 9, 10, 11, 6, 12, 13, 14, 15, 16, 17, 18, 19, 20, 21, 22, 23, 24, 25, 26, 27, 28, 29, 30, 31, 32, 33, 34, 35, 36, 37, 38, 39, 40, 41, 42, 43, 44, 45, 46, 47, 48, 49, 50, 51, 52, 53, 54, 55, 56, 57, 58, 59, 60, 61, 62, 63, 64, 65] (by decide +kernel) (by decide +kernel)) (goodIn_sub (fun _ h => List.mem_cons_of_mem _ (List.mem_append_left _ (List.mem_append_right _ h))) (by decide +kernel))) (goodIn_sub (fun _ h => List.mem_cons_of_mem _ (List.mem_append_right _ h)) (by decide +kernel))
set_option maxRecDepth 20000 in
theorem gL_decide_X2_decide : GoodIn wsL_decide (wsV RL 55 RX2 yX2_decide wsX2_decide) := goodIn_app (goodIn_of _ (by decide +kernel)) ggL_decide_X2_decide
theorem dL_decide_0 : decode cL_decide 0 = .ok (.aload_n 3, 1) := by decide +kernel
theorem dL_decide_1 : decode cL_decide 1 = .ok (.iconst 0, 1) := by decide +kernel
theorem dL_decide_2 : decode cL_decide 2 = .ok (.aload_n 0, 1) := by decide +kernel
theorem dL_decide_3 : decode cL_decide 3 = .ok (.iload_n 1, 1) := by decide +kernel
theorem dL_decide_4 : decode cL_decide 4 = .ok (.iload_n 2, 1) := by decide +kernel
theorem dL_decide_5 : decode cL_decide 5 = .ok (.invokevirtual 55, 3) := by decide +kernel
theorem dL_decide_8 : decode cL_decide 8 = .ok (.i2l, 1) := by decide +kernel
theorem dL_decide_9 : decode cL_decide 9 = .ok (.lastore, 1) := by decide +kernel
theorem dL_decide_10 : decode cL_decide 10 = .ok (.goto 11, 3) := by decide +kernel
theorem dL_decide_13 : decode cL_decide 13 = .ok (.astore 4, 2) := by decide +kernel
theorem dL_decide_15 : decode cL_decide 15 = .ok (.iconst 1, 1) := by decide +kernel
theorem dL_decide_16 : decode cL_decide 16 = .ok (.ireturn, 1) := by decide +kernel
theorem dL_decide_17 : decode cL_decide 17 = .ok (.astore 4, 2) := by decide +kernel
theorem dL_decide_19 : decode cL_decide 19 = .ok (.iconst 2, 1) := by decide +kernel
theorem dL_decide_20 : decode cL_decide 20 = .ok (.ireturn, 1) := by decide +kernel
theorem dL_decide_21 : decode cL_decide 21 = .ok (.iconst 0, 1) := by decide +kernel
theorem dL_decide_22 : decode cL_decide 22 = .ok (.ireturn, 1) := by decide +kernel
set_option maxRecDepth 20000 in
theorem ggL_pass_X2_pass : GoodIn wsL_pass wsX2_pass := goodIn_ca (goodIn_r _ [6, 7, 8, 9, 5, 10, 11, 12, 13, 14, 15, 16, 17, 18, 19, 20, 21, 22, 23, 24, 25, 26, 27, 28, 29, 30, 31, 32, 33, 34, 35, 36, 37, 38, 39, 40, 41, 42, 43, 44, 45, 46, 47, 48, 49, 50, 51, 52, 53, 54, 55, 56, 57, 58, 59, 60, 61, 62, 63, 64, 65, 66, 67, 68, 69, 70, 71, 72, 73, 74, 75, 76, 77, 78, 79, 80, 81, 82, 83, 84, 85] (by decide +kernel) (by decide +kernel)) (goodIn_sub (fun _ h => List.mem_cons_of_mem _ (List.mem_append_right _ h)) (by decide +kernel))
set_option maxRecDepth 20000 in
theorem gL_pass_X2_pass : GoodIn wsL_pass (wsV RL 59 RX2 yX2_pass wsX2_pass) := goodIn_app (goodIn_of _ (by decide +kernel)) ggL_pass_X2_pass
theorem dL_pass_0 : decode cL_pass 0 = .ok (.aload_n 2, 1) := by decide +kernel
theorem dL_pass_1 : decode cL_pass 1 = .ok (.iconst 0, 1) := by decide +kernel
theorem dL_pass_2 : decode cL_pass 2 = .ok (.aload_n 0, 1) := by decide +kernel
theorem dL_pass_3 : decode cL_pass 3 = .ok (.iload_n 1, 1) := by decide +kernel
theorem dL_pass_4 : decode cL_pass 4 = .ok (.invokevirtual 59, 3) := by decide +kernel
theorem dL_pass_7 : decode cL_pass 7 = .ok (.i2l, 1) := by decide +kernel
theorem dL_pass_8 : decode cL_pass 8 = .ok (.lastore, 1) := by decide +kernel
theorem dL_pass_9 : decode cL_pass 9 = .ok (.goto 6, 3) := by decide +kernel
theorem dL_pass_12 : decode cL_pass 12 = .ok (.astore_n 3, 1) := by decide +kernel
theorem dL_pass_13 : decode cL_pass 13 = .ok (.iconst 1, 1) := by decide +kernel
theorem dL_pass_14 : decode cL_pass 14 = .ok (.ireturn, 1) := by decide +kernel
theorem dL_pass_15 : decode cL_pass 15 = .ok (.iconst 0, 1) := by decide +kernel
theorem dL_pass_16 : decode cL_pass 16 = .ok (.ireturn, 1) := by decide +kernel
set_option maxRecDepth 20000 in
theorem ggL_lookUp_X2_lookUp : GoodIn wsL_lookUp wsX2_lookUp := goodIn_ca (goodIn_r _ [6, 7, 8, 9, 10, 11, 5, 12, 13, 14, 15, 16, 17, 18, 19, 20, 21, 22, 23, 24, 25, 26, 27, 28, 29, 30, 31, 32, 33, 34, 35, 36, 37, 38, 39, 40, 41, 42, 43, 44, 45, 46, 47, 48, 49, 50, 51, 52, 53, 54, 55, 56, 57, 58, 59, 60, 61, 62, 63] (by decide +kernel) (by decide +kernel)) (goodIn_sub (fun _ h => List.mem_cons_of_mem _ (List.mem_append_right _ h)) (by decide +kernel))
set_option maxRecDepth 20000 in
theorem gL_lookUp_X2_lookUp : GoodIn wsL_lookUp (wsV RL 62 RX2 yX2_lookUp wsX2_lookUp) := goodIn_app (goodIn_of _ (by decide +kernel)) ggL_lookUp_X2_lookUp
theorem dL_lookUp_0 : decode cL_lookUp 0 = .ok (.aload_n 3, 1) := by decide +kernel
theorem dL_lookUp_1 : decode cL_lookUp 1 = .ok (.iconst 0, 1) := by decide +kernel
theorem dL_lookUp_2 : decode cL_lookUp 2 = .ok (.aload_n 0, 1) := by decide +kernel
theorem dL_lookUp_3 : decode cL_lookUp 3 = .ok (.iload_n 1, 1) := by decide +kernel
theorem dL_lookUp_4 : decode cL_lookUp 4 = .ok (.iload_n 2, 1) := by decide +kernel
theorem dL_lookUp_5 : decode cL_lookUp 5 = .ok (.invokevirtual 62, 3) := by decide +kernel
theorem dL_lookUp_8 : decode cL_lookUp 8 = .ok (.i2l, 1) := by decide +kernel
theorem dL_lookUp_9 : decode cL_lookUp 9 = .ok (.lastore, 1) := by decide +kernel
theorem dL_lookUp_10 : decode cL_lookUp 10 = .ok (.goto 7, 3) := by decide +kernel
theorem dL_lookUp_13 : decode cL_lookUp 13 = .ok (.astore 4, 2) := by decide +kernel
theorem dL_lookUp_15 : decode cL_lookUp 15 = .ok (.iconst 1, 1) := by decide +kernel
theorem dL_lookUp_16 : decode cL_lookUp 16 = .ok (.ireturn, 1) := by decide +kernel
theorem dL_lookUp_17 : decode cL_lookUp 17 = .ok (.iconst 0, 1) := by decide +kernel
theorem dL_lookUp_18 : decode cL_lookUp 18 = .ok (.ireturn, 1) := by decide +kernel
set_option maxRecDepth 20000 in
theorem ggL_isStale_X2_isStale : GoodIn wsL_isStale wsX2_isStale := goodIn_ca (goodIn_r _ [6, 7, 8, 9, 10, 11, 5, 12, 13, 14, 15, 16, 17, 18, 19, 20, 21, 22, 23, 24, 25, 26, 27, 28, 29, 30, 31, 32, 33, 34, 35, 36, 37, 38, 39, 40, 41, 42, 43, 44, 45, 46, 47, 48, 49, 50, 51, 52, 53, 54, 55] (by decide +kernel) (by decide +kernel)) (goodIn_sub (fun _ h => List.mem_cons_of_mem _ (List.mem_append_right _ h)) (by decide +kernel))
set_option maxRecDepth 20000 in
theorem gL_isStale_X2_isStale : GoodIn wsL_isStale (wsV RL 65 RX2 yX2_isStale wsX2_isStale) := goodIn_app (goodIn_of _ (by decide +kernel)) ggL_isStale_X2_isStale
theorem dL_isStale_0 : decode cL_isStale 0 = .ok (.aload_n 3, 1) := by decide +kernel
theorem dL_isStale_1 : decode cL_isStale 1 = .ok (.iconst 0, 1) := by decide +kernel
theorem dL_isStale_2 : decode cL_isStale 2 = .ok (.aload_n 0, 1) := by decide +kernel
theorem dL_isStale_3 : decode cL_isStale 3 = .ok (.iload_n 1, 1) := by decide +kernel
theorem dL_isStale_4 : decode cL_isStale 4 = .ok (.iload_n 2, 1) := by decide +kernel
theorem dL_isStale_5 : decode cL_isStale 5 = .ok (.invokevirtual 65, 3) := by decide +kernel
theorem dL_isStale_8 : decode cL_isStale 8 = .ok (.ifCond .eq 7, 3) := by decide +kernel
theorem dL_isStale_11 : decode cL_isStale 11 = .ok (.lconst 1, 1) := by decide +kernel
theorem dL_isStale_12 : decode cL_isStale 12 = .ok (.goto 4, 3) := by decide +kernel
theorem dL_isStale_15 : decode cL_isStale 15 = .ok (.lconst 0, 1) := by decide +kernel
theorem dL_isStale_16 : decode cL_isStale 16 = .ok (.lastore, 1) := by decide +kernel
theorem dL_isStale_17 : decode cL_isStale 17 = .ok (.goto 7, 3) := by decide +kernel
theorem dL_isStale_20 : decode cL_isStale 20 = .ok (.astore 4, 2) := by decide +kernel
theorem dL_isStale_22 : decode cL_isStale 22 = .ok (.iconst 1, 1) := by decide +kernel
theorem dL_isStale_23 : decode cL_isStale 23 = .ok (.ireturn, 1) := by decide +kernel
theorem dL_isStale_24 : decode cL_isStale 24 = .ok (.iconst 0, 1) := by decide +kernel
theorem dL_isStale_25 : decode cL_isStale 25 = .ok (.ireturn, 1) := by decide +kernel
set_option maxRecDepth 20000 in
theorem ggL_flush_X2_flush : GoodIn wsL_flush wsX2_flush := goodIn_ca (goodIn_r _ [6, 7, 8, 9, 5, 10, 11, 12, 13, 14, 15, 16, 17, 18, 19, 20, 21, 22, 23, 24, 25, 26, 27] (by decide +kernel) (by decide +kernel)) (goodIn_sub (fun _ h => List.mem_cons_of_mem _ (List.mem_append_right _ h)) (by decide +kernel))
set_option maxRecDepth 20000 in
theorem gL_flush_X2_flush : GoodIn wsL_flush (wsV RL 69 RX2 yX2_flush wsX2_flush) := goodIn_app (goodIn_of _ (by decide +kernel)) ggL_flush_X2_flush
theorem dL_flush_0 : decode cL_flush 0 = .ok (.aload_n 2, 1) := by decide +kernel
theorem dL_flush_1 : decode cL_flush 1 = .ok (.iconst 0, 1) := by decide +kernel
theorem dL_flush_2 : decode cL_flush 2 = .ok (.aload_n 0, 1) := by decide +kernel
theorem dL_flush_3 : decode cL_flush 3 = .ok (.iload_n 1, 1) := by decide +kernel
theorem dL_flush_4 : decode cL_flush 4 = .ok (.invokevirtual 69, 3) := by decide +kernel
theorem dL_flush_7 : decode cL_flush 7 = .ok (.i2l, 1) := by decide +kernel
theorem dL_flush_8 : decode cL_flush 8 = .ok (.lastore, 1) := by decide +kernel
theorem dL_flush_9 : decode cL_flush 9 = .ok (.goto 6, 3) := by decide +kernel
theorem dL_flush_12 : decode cL_flush 12 = .ok (.astore_n 3, 1) := by decide +kernel
theorem dL_flush_13 : decode cL_flush 13 = .ok (.iconst 1, 1) := by decide +kernel
theorem dL_flush_14 : decode cL_flush 14 = .ok (.ireturn, 1) := by decide +kernel
theorem dL_flush_15 : decode cL_flush 15 = .ok (.iconst 0, 1) := by decide +kernel
theorem dL_flush_16 : decode cL_flush 16 = .ok (.ireturn, 1) := by decide +kernel
set_option maxRecDepth 20000 in
theorem ggL_law_X2_init : GoodIn wsL_law wsX2_init := goodIn_r _ [9, 10, 11, 12, 13, 14, 15, 16, 17, 18, 19, 20, 21, 22, 23, 24, 25, 26, 27, 28, 29, 30, 31, 32, 33, 34, 35, 36, 37, 492, 493, 494, 495, 496, 497, 516, 517, 518, 519, 520, 521, 522, 523, 524, 525, 526, 527, 528, 529, 530] (by decide +kernel) (by decide +kernel)
set_option maxRecDepth 20000 in
theorem gL_law_X2_init : GoodIn wsL_law (wsX2_init) := ggL_law_X2_init
set_option maxRecDepth 20000 in
theorem ggL_law_X3_init : GoodIn wsL_law wsX3_init := goodIn_r _ [40, 41, 11, 12, 13, 42, 43, 44, 45, 46, 47, 48, 49, 50, 51, 52, 53, 54, 55, 498, 499, 500, 501, 502, 503, 504, 505, 506, 507, 508, 509, 510, 511, 512, 513, 514, 515] (by decide +kernel) (by decide +kernel)
set_option maxRecDepth 20000 in
theorem gL_law_X3_init : GoodIn wsL_law (wsX3_init) := ggL_law_X3_init
set_option maxRecDepth 20000 in
theorem ggL_law_L_deposit : GoodIn wsL_law wsL_deposit := goodIn_ca (goodIn_ca (goodIn_r _ [59, 60, 61, 62, 63, 64, 2, 65, 66, 14, 67, 68, 69, 70, 71, 72, 73, 74, 75, 76, 492, 493, 494, 495, 496, 497] (by decide +kernel) (by decide +kernel)) (goodIn_sub (fun _ h => List.mem_append_left _ (List.mem_append_left _ (List.mem_append_right _ h))) (by decide +kernel))) (goodIn_sub (fun _ h => List.mem_append_left _ (List.mem_append_right _ h)) (by decide +kernel))
set_option maxRecDepth 20000 in
theorem gL_law_L_deposit : GoodIn wsL_law (va_wsS RL 76 yL_deposit wsL_deposit) := goodIn_app (goodIn_of _ (by decide +kernel)) ggL_law_L_deposit
set_option maxRecDepth 20000 in
theorem ggL_law_X3_deposit : GoodIn wsL_law wsX3_deposit := goodIn_r _ [80, 81, 42, 82, 83, 5, 84, 85, 86, 87, 88, 89, 90, 91, 92, 498, 499, 500, 501, 502, 503, 504, 505, 506, 507, 508, 509, 510, 511, 512, 513, 514, 515] (by decide +kernel) (by decide +kernel)
set_option maxRecDepth 20000 in
theorem gL_law_X3_deposit : GoodIn wsL_law (wsV RL 81 RX3 yX3_deposit wsX3_deposit) := goodIn_app (goodIn_of _ (by decide +kernel)) ggL_law_X3_deposit
set_option maxRecDepth 20000 in
theorem ggL_law_X3_thrown : GoodIn wsL_law wsX3_thrown := goodIn_r _ [96, 92, 498, 499, 500, 501, 502, 503, 504, 505, 506, 507, 508, 509, 510, 511, 512, 513, 514, 515] (by decide +kernel) (by decide +kernel)
set_option maxRecDepth 20000 in
theorem gL_law_X3_thrown : GoodIn wsL_law (wsV RL 82 RX3 yX3_thrown wsX3_thrown) := goodIn_app (goodIn_of _ (by decide +kernel)) ggL_law_X3_thrown
set_option maxRecDepth 20000 in
theorem ggL_law_L_funds : GoodIn wsL_law wsL_funds := goodIn_ca (goodIn_r _ [99, 60, 100, 101, 102, 2, 103, 14, 67, 68, 69, 70, 71, 492, 493, 494, 495, 496, 497] (by decide +kernel) (by decide +kernel)) (goodIn_sub (fun _ h => List.mem_append_left _ (List.mem_append_left _ (List.mem_append_right _ h))) (by decide +kernel))
set_option maxRecDepth 20000 in
theorem gL_law_L_funds : GoodIn wsL_law (va_wsS RL 86 yL_funds wsL_funds) := goodIn_app (goodIn_of _ (by decide +kernel)) ggL_law_L_funds
set_option maxRecDepth 20000 in
theorem ggL_law_X3_funds : GoodIn wsL_law wsX3_funds := goodIn_r _ [107, 42, 82, 83, 5, 84, 85, 86, 87, 88, 89, 90, 91, 92, 498, 499, 500, 501, 502, 503, 504, 505, 506, 507, 508, 509, 510, 511, 512, 513, 514, 515] (by decide +kernel) (by decide +kernel)
set_option maxRecDepth 20000 in
theorem gL_law_X3_funds : GoodIn wsL_law (wsV RL 89 RX3 yX3_funds wsX3_funds) := goodIn_app (goodIn_of _ (by decide +kernel)) ggL_law_X3_funds
set_option maxRecDepth 20000 in
theorem ggL_law_L_bid : GoodIn wsL_law wsL_bid := goodIn_ca (goodIn_ca (goodIn_ca (goodIn_r _ [110, 60, 61, 111, 112, 113, 114, 2, 115, 66, 16, 116, 117, 67, 68, 69, 70, 71, 72, 73, 74, 75, 76, 118, 119, 120, 121, 122, 123, 20, 124, 125, 26, 126, 492, 493, 494, 495, 496, 497, 516, 517, 518, 519, 520, 521, 522, 523, 524, 525, 526] (by decide +kernel) (by decide +kernel)) (goodIn_sub (fun _ h => List.mem_append_left _ (List.mem_append_left _ (List.mem_append_right _ h))) (by decide +kernel))) (goodIn_sub (fun _ h => List.mem_append_left _ (List.mem_append_right _ h)) (by decide +kernel))) (goodIn_sub (fun _ h => List.mem_append_right _ h) (by decide +kernel))
set_option maxRecDepth 20000 in
theorem gL_law_L_bid : GoodIn wsL_law (va_wsS RL 90 yL_bid wsL_bid) := goodIn_app (goodIn_of _ (by decide +kernel)) ggL_law_L_bid
set_option maxRecDepth 20000 in
theorem ggL_law_X3_bid : GoodIn wsL_law wsX3_bid := goodIn_r _ [130, 81, 43, 45, 131, 51, 52, 132, 82, 83, 5, 84, 85, 86, 87, 133, 134, 135, 88, 89, 90, 91, 92, 498, 499, 500, 501, 502, 503, 504, 505, 506, 507, 508, 509, 510, 511, 512, 513, 514, 515] (by decide +kernel) (by decide +kernel)
set_option maxRecDepth 20000 in
theorem gL_law_X3_bid : GoodIn wsL_law (wsV RL 93 RX3 yX3_bid wsX3_bid) := goodIn_app (goodIn_of _ (by decide +kernel)) ggL_law_X3_bid
set_option maxRecDepth 20000 in
theorem ggL_law_L_bids : GoodIn wsL_law wsL_bids := goodIn_ca (goodIn_r _ [138, 60, 139, 140, 141, 2, 142, 16, 67, 68, 69, 70, 71, 143, 20, 144, 145, 28, 492, 493, 494, 495, 496, 497, 516, 517, 518, 519, 520, 521, 522, 523, 524, 525, 526] (by decide +kernel) (by decide +kernel)) (goodIn_sub (fun _ h => List.mem_append_left _ (List.mem_append_left _ (List.mem_append_right _ h))) (by decide +kernel))
set_option maxRecDepth 20000 in
theorem gL_law_L_bids : GoodIn wsL_law (va_wsS RL 94 yL_bids wsL_bids) := goodIn_app (goodIn_of _ (by decide +kernel)) ggL_law_L_bids
set_option maxRecDepth 20000 in
theorem ggL_law_X3_bids : GoodIn wsL_law wsX3_bids := goodIn_r _ [149, 51, 133, 134, 5, 135, 85, 86, 87, 88, 89, 90, 91, 92, 498, 499, 500, 501, 502, 503, 504, 505, 506, 507, 508, 509, 510, 511, 512, 513, 514, 515] (by decide +kernel) (by decide +kernel)
set_option maxRecDepth 20000 in
theorem gL_law_X3_bids : GoodIn wsL_law (wsV RL 96 RX3 yX3_bids wsX3_bids) := goodIn_app (goodIn_of _ (by decide +kernel)) ggL_law_X3_bids
set_option maxRecDepth 20000 in
theorem ggL_law_L_renew : GoodIn wsL_law wsL_renew := goodIn_ca (goodIn_ca (goodIn_ca (goodIn_r _ [152, 60, 61, 111, 153, 154, 155, 2, 156, 16, 116, 67, 68, 69, 70, 71, 72, 73, 74, 75, 76, 157, 158, 159, 160, 161, 162, 163, 14, 118, 119, 120, 121, 122, 164, 165, 166, 167, 168, 492, 493, 494, 495, 496, 497, 516, 517, 518, 519, 520, 521, 522, 523, 524, 525, 526] (by decide +kernel) (by decide +kernel)) (goodIn_sub (fun _ h => List.mem_append_left _ (List.mem_append_left _ (List.mem_append_right _ h))) (by decide +kernel))) (goodIn_sub (fun _ h => List.mem_append_left _ (List.mem_append_right _ h)) (by decide +kernel))) (goodIn_sub (fun _ h => List.mem_append_right _ h) (by decide +kernel))
set_option maxRecDepth 20000 in
theorem gL_law_L_renew : GoodIn wsL_law (va_wsS RL 97 yL_renew wsL_renew) := goodIn_app (goodIn_of _ (by decide +kernel)) ggL_law_L_renew
set_option maxRecDepth 20000 in
theorem ggL_law_X3_renew : GoodIn wsL_law wsX3_renew := goodIn_r _ [172, 43, 45, 131, 42, 44, 133, 134, 5, 135, 85, 86, 87, 88, 89, 90, 91, 92, 173, 174, 175, 176, 177, 498, 499, 500, 501, 502, 503, 504, 505, 506, 507, 508, 509, 510, 511, 512, 513, 514, 515] (by decide +kernel) (by decide +kernel)
set_option maxRecDepth 20000 in
theorem gL_law_X3_renew : GoodIn wsL_law (wsV RL 99 RX3 yX3_renew wsX3_renew) := goodIn_app (goodIn_of _ (by decide +kernel)) ggL_law_X3_renew
set_option maxRecDepth 20000 in
theorem ggL_law_L_redeem : GoodIn wsL_law wsL_redeem := goodIn_ca (goodIn_ca (goodIn_r _ [180, 60, 111, 181, 182, 183, 2, 184, 16, 116, 67, 68, 69, 70, 71, 160, 161, 162, 163, 14, 118, 119, 120, 121, 122, 164, 165, 166, 167, 168, 185, 20, 186, 187, 26, 27, 188, 189, 190, 191, 192, 193, 194, 28, 195, 196, 197, 198, 492, 493, 494, 495, 496, 497, 516, 517, 518, 519, 520, 521, 522, 523, 524, 525, 526] (by decide +kernel) (by decide +kernel)) (goodIn_sub (fun _ h => List.mem_append_left _ (List.mem_append_left _ (List.mem_append_right _ h))) (by decide +kernel))) (goodIn_sub (fun _ h => List.mem_append_right _ h) (by decide +kernel))
set_option maxRecDepth 20000 in
theorem gL_law_L_redeem : GoodIn wsL_law (va_wsS RL 100 yL_redeem wsL_redeem) := goodIn_app (goodIn_of _ (by decide +kernel)) ggL_law_L_redeem
set_option maxRecDepth 20000 in
theorem ggL_law_X3_redeem : GoodIn wsL_law wsX3_redeem := goodIn_r _ [202, 43, 42, 44, 45, 133, 134, 5, 135, 85, 86, 87, 88, 89, 90, 91, 92, 173, 174, 175, 176, 177, 203, 204, 205, 206, 131, 46, 47, 498, 499, 500, 501, 502, 503, 504, 505, 506, 507, 508, 509, 510, 511, 512, 513, 514, 515] (by decide +kernel) (by decide +kernel)
set_option maxRecDepth 20000 in
theorem gL_law_X3_redeem : GoodIn wsL_law (wsV RL 102 RX3 yX3_redeem wsX3_redeem) := goodIn_app (goodIn_of _ (by decide +kernel)) ggL_law_X3_redeem
set_option maxRecDepth 20000 in
theorem ggL_law_L_setRecord : GoodIn wsL_law wsL_setRecord := goodIn_ca (goodIn_ca (goodIn_ca (goodIn_r _ [209, 60, 61, 111, 210, 211, 212, 2, 213, 16, 67, 68, 69, 70, 71, 72, 73, 74, 75, 76, 118, 119, 120, 121, 122, 492, 493, 494, 495, 496, 497, 516, 517, 518, 519, 520, 521, 522, 523, 524, 525, 526] (by decide +kernel) (by decide +kernel)) (goodIn_sub (fun _ h => List.mem_append_left _ (List.mem_append_left _ (List.mem_append_right _ h))) (by decide +kernel))) (goodIn_sub (fun _ h => List.mem_append_left _ (List.mem_append_right _ h)) (by decide +kernel))) (goodIn_sub (fun _ h => List.mem_append_right _ h) (by decide +kernel))
set_option maxRecDepth 20000 in
theorem gL_law_L_setRecord : GoodIn wsL_law (va_wsS RL 103 yL_setRecord wsL_setRecord) := goodIn_app (goodIn_of _ (by decide +kernel)) ggL_law_L_setRecord
set_option maxRecDepth 20000 in
theorem ggL_law_X3_setRecord : GoodIn wsL_law wsX3_setRecord := goodIn_r _ [217, 43, 46, 47, 133, 134, 5, 135, 85, 86, 87, 88, 89, 90, 91, 92, 498, 499, 500, 501, 502, 503, 504, 505, 506, 507, 508, 509, 510, 511, 512, 513, 514, 515] (by decide +kernel) (by decide +kernel)
set_option maxRecDepth 20000 in
theorem gL_law_X3_setRecord : GoodIn wsL_law (wsV RL 105 RX3 yX3_setRecord wsX3_setRecord) := goodIn_app (goodIn_of _ (by decide +kernel)) ggL_law_X3_setRecord
set_option maxRecDepth 20000 in
theorem ggL_law_L_state : GoodIn wsL_law wsL_state := goodIn_ca (goodIn_r _ [220, 60, 221, 222, 223, 2, 224, 16, 67, 68, 69, 70, 71, 492, 493, 494, 495, 496, 497, 516, 517, 518, 519, 520, 521, 522, 523, 524, 525, 526] (by decide +kernel) (by decide +kernel)) (goodIn_sub (fun _ h => List.mem_append_left _ (List.mem_append_left _ (List.mem_append_right _ h))) (by decide +kernel))
set_option maxRecDepth 20000 in
theorem gL_law_L_state : GoodIn wsL_law (va_wsS RL 106 yL_state wsL_state) := goodIn_app (goodIn_of _ (by decide +kernel)) ggL_law_L_state
set_option maxRecDepth 20000 in
theorem ggL_law_X3_state : GoodIn wsL_law wsX3_state := goodIn_r _ [228, 43, 133, 134, 5, 135, 85, 86, 87, 88, 89, 90, 91, 92, 498, 499, 500, 501, 502, 503, 504, 505, 506, 507, 508, 509, 510, 511, 512, 513, 514, 515] (by decide +kernel) (by decide +kernel)
set_option maxRecDepth 20000 in
theorem gL_law_X3_state : GoodIn wsL_law (wsV RL 108 RX3 yX3_state wsX3_state) := goodIn_app (goodIn_of _ (by decide +kernel)) ggL_law_X3_state
set_option maxRecDepth 20000 in
theorem ggL_law_L_sign : GoodIn wsL_law wsL_sign := goodIn_ca (goodIn_r _ [231, 60, 232, 233, 234, 2, 235, 16, 67, 68, 69, 70, 71, 236, 237, 238, 239, 240, 241, 242, 243, 244, 245, 246, 247, 248, 249, 250, 251, 252, 253, 254, 255, 256, 257, 258, 259, 260, 261, 262, 263, 264, 265, 266, 267, 268, 269, 270, 271, 272, 273, 274, 275, 276, 277, 278, 279, 280, 281, 282, 283, 284, 285, 286, 287, 492, 493, 494, 495, 496, 497, 516, 517, 518, 519, 520, 521, 522, 523, 524, 525, 526] (by decide +kernel) (by decide +kernel)) (goodIn_sub (fun _ h => List.mem_append_left _ (List.mem_append_left _ (List.mem_append_right _ h))) (by decide +kernel))
set_option maxRecDepth 20000 in
theorem gL_law_L_sign : GoodIn wsL_law (va_wsS RL 109 yL_sign wsL_sign) := goodIn_app (goodIn_of _ (by decide +kernel)) ggL_law_L_sign
set_option maxRecDepth 20000 in
theorem ggL_law_X3_sign : GoodIn wsL_law wsX3_sign := goodIn_r _ [291, 133, 134, 5, 135, 85, 86, 87, 292, 293, 294, 295, 43, 44, 296, 297, 298, 88, 89, 90, 91, 92, 498, 499, 500, 501, 502, 503, 504, 505, 506, 507, 508, 509, 510, 511, 512, 513, 514, 515] (by decide +kernel) (by decide +kernel)
set_option maxRecDepth 20000 in
theorem gL_law_X3_sign : GoodIn wsL_law (wsV RL 111 RX3 yX3_sign wsX3_sign) := goodIn_app (goodIn_of _ (by decide +kernel)) ggL_law_X3_sign
set_option maxRecDepth 20000 in
theorem ggL_law_L_owner : GoodIn wsL_law wsL_owner := goodIn_ca (goodIn_r _ [301, 60, 302, 303, 304, 2, 305, 16, 67, 68, 69, 70, 71, 492, 493, 494, 495, 496, 497, 516, 517, 518, 519, 520, 521, 522, 523, 524, 525, 526] (by decide +kernel) (by decide +kernel)) (goodIn_sub (fun _ h => List.mem_append_left _ (List.mem_append_left _ (List.mem_append_right _ h))) (by decide +kernel))
set_option maxRecDepth 20000 in
theorem gL_law_L_owner : GoodIn wsL_law (va_wsS RL 112 yL_owner wsL_owner) := goodIn_app (goodIn_of _ (by decide +kernel)) ggL_law_L_owner
set_option maxRecDepth 20000 in
theorem ggL_law_X3_owner : GoodIn wsL_law wsX3_owner := goodIn_r _ [309, 44, 133, 134, 5, 135, 85, 86, 87, 88, 89, 90, 91, 92, 498, 499, 500, 501, 502, 503, 504, 505, 506, 507, 508, 509, 510, 511, 512, 513, 514, 515] (by decide +kernel) (by decide +kernel)
set_option maxRecDepth 20000 in
theorem gL_law_X3_owner : GoodIn wsL_law (wsV RL 114 RX3 yX3_owner wsX3_owner) := goodIn_app (goodIn_of _ (by decide +kernel)) ggL_law_X3_owner
set_option maxRecDepth 20000 in
theorem ggL_law_L_next : GoodIn wsL_law wsL_next := goodIn_ca (goodIn_r _ [312, 60, 313, 314, 315, 2, 316, 16, 67, 68, 69, 70, 71, 317, 20, 318, 319, 26, 126, 188, 492, 493, 494, 495, 496, 497, 516, 517, 518, 519, 520, 521, 522, 523, 524, 525, 526] (by decide +kernel) (by decide +kernel)) (goodIn_sub (fun _ h => List.mem_append_left _ (List.mem_append_left _ (List.mem_append_right _ h))) (by decide +kernel))
set_option maxRecDepth 20000 in
theorem gL_law_L_next : GoodIn wsL_law (va_wsS RL 115 yL_next wsL_next) := goodIn_app (goodIn_of _ (by decide +kernel)) ggL_law_L_next
set_option maxRecDepth 20000 in
theorem ggL_law_X3_next : GoodIn wsL_law wsX3_next := goodIn_r _ [323, 133, 134, 5, 135, 85, 86, 87, 88, 89, 90, 91, 92, 324, 325, 326, 327, 43, 45, 498, 499, 500, 501, 502, 503, 504, 505, 506, 507, 508, 509, 510, 511, 512, 513, 514, 515] (by decide +kernel) (by decide +kernel)
set_option maxRecDepth 20000 in
theorem gL_law_X3_next : GoodIn wsL_law (wsV RL 117 RX3 yX3_next wsX3_next) := goodIn_app (goodIn_of _ (by decide +kernel)) ggL_law_X3_next
set_option maxRecDepth 20000 in
theorem ggL_law_L_dispute : GoodIn wsL_law wsL_dispute := goodIn_ca (goodIn_ca (goodIn_r _ [330, 60, 111, 331, 332, 333, 2, 334, 16, 116, 67, 68, 69, 70, 71, 157, 158, 159, 118, 119, 120, 121, 122, 335, 20, 336, 337, 26, 338, 339, 340, 191, 192, 193, 194, 28, 195, 196, 197, 198, 492, 493, 494, 495, 496, 497, 516, 517, 518, 519, 520, 521, 522, 523, 524, 525, 526] (by decide +kernel) (by decide +kernel)) (goodIn_sub (fun _ h => List.mem_append_left _ (List.mem_append_left _ (List.mem_append_right _ h))) (by decide +kernel))) (goodIn_sub (fun _ h => List.mem_append_right _ h) (by decide +kernel))
set_option maxRecDepth 20000 in
theorem gL_law_L_dispute : GoodIn wsL_law (va_wsS RL 118 yL_dispute wsL_dispute) := goodIn_app (goodIn_of _ (by decide +kernel)) ggL_law_L_dispute
set_option maxRecDepth 20000 in
theorem ggL_law_X3_dispute : GoodIn wsL_law wsX3_dispute := goodIn_r _ [344, 43, 44, 50, 48, 49, 131, 82, 83, 5, 84, 85, 86, 87, 133, 134, 135, 88, 89, 90, 91, 92, 345, 346, 347, 348, 51, 498, 499, 500, 501, 502, 503, 504, 505, 506, 507, 508, 509, 510, 511, 512, 513, 514, 515] (by decide +kernel) (by decide +kernel)
set_option maxRecDepth 20000 in
theorem gL_law_X3_dispute : GoodIn wsL_law (wsV RL 120 RX3 yX3_dispute wsX3_dispute) := goodIn_app (goodIn_of _ (by decide +kernel)) ggL_law_X3_dispute
set_option maxRecDepth 20000 in
theorem ggL_law_L_decide : GoodIn wsL_law wsL_decide := goodIn_ca (goodIn_ca (goodIn_r _ [351, 60, 111, 352, 353, 354, 2, 355, 16, 116, 67, 68, 69, 70, 71, 118, 119, 120, 121, 122, 356, 20, 357, 358, 338, 26, 188, 340, 339, 27, 359, 185, 186, 187, 189, 190, 191, 192, 193, 194, 28, 195, 196, 197, 198, 360, 361, 362, 363, 492, 493, 494, 495, 496, 497, 516, 517, 518, 519, 520, 521, 522, 523, 524, 525, 526] (by decide +kernel) (by decide +kernel)) (goodIn_sub (fun _ h => List.mem_append_left _ (List.mem_append_left _ (List.mem_append_right _ h))) (by decide +kernel))) (goodIn_sub (fun _ h => List.mem_append_right _ h) (by decide +kernel))
set_option maxRecDepth 20000 in
theorem gL_law_L_decide : GoodIn wsL_law (va_wsS RL 121 yL_decide wsL_decide) := goodIn_app (goodIn_of _ (by decide +kernel)) ggL_law_L_decide
set_option maxRecDepth 20000 in
theorem ggL_law_X3_decide : GoodIn wsL_law wsX3_decide := goodIn_r _ [367, 43, 50, 48, 45, 131, 49, 44, 133, 134, 5, 135, 85, 86, 87, 88, 89, 90, 91, 92, 203, 204, 205, 206, 46, 47, 498, 499, 500, 501, 502, 503, 504, 505, 506, 507, 508, 509, 510, 511, 512, 513, 514, 515] (by decide +kernel) (by decide +kernel)
set_option maxRecDepth 20000 in
theorem gL_law_X3_decide : GoodIn wsL_law (wsV RL 124 RX3 yX3_decide wsX3_decide) := goodIn_app (goodIn_of _ (by decide +kernel)) ggL_law_X3_decide
set_option maxRecDepth 20000 in
theorem ggL_law_L_pass : GoodIn wsL_law wsL_pass := goodIn_ca (goodIn_r _ [370, 61, 371, 372, 373, 2, 374, 116, 72, 73, 74, 75, 76, 375, 376, 377, 378, 16, 317, 20, 318, 319, 26, 126, 188, 379, 380, 381, 360, 361, 362, 363, 27, 191, 192, 193, 194, 28, 195, 196, 197, 198, 382, 383, 384, 385, 386, 387, 388, 389, 160, 161, 162, 163, 14, 390, 391, 392, 29, 164, 165, 166, 167, 168, 185, 186, 187, 189, 190, 492, 493, 494, 495, 496, 497, 516, 517, 518, 519, 520, 521, 522, 523, 524, 525, 526] (by decide +kernel) (by decide +kernel)) (goodIn_sub (fun _ h => List.mem_append_left _ (List.mem_append_right _ h)) (by decide +kernel))
set_option maxRecDepth 20000 in
theorem gL_law_L_pass : GoodIn wsL_law (va_wsS RL 125 yL_pass wsL_pass) := goodIn_app (goodIn_of _ (by decide +kernel)) ggL_law_L_pass
set_option maxRecDepth 20000 in
theorem ggL_law_X3_pass : GoodIn wsL_law wsX3_pass := goodIn_r _ [396, 131, 85, 86, 5, 87, 88, 89, 90, 91, 92, 397, 398, 399, 400, 43, 44, 324, 325, 326, 327, 45, 401, 402, 403, 404, 51, 405, 406, 407, 408, 42, 52, 345, 346, 347, 348, 173, 174, 175, 176, 177, 203, 204, 205, 206, 46, 47, 498, 499, 500, 501, 502, 503, 504, 505, 506, 507, 508, 509, 510, 511, 512, 513, 514, 515] (by decide +kernel) (by decide +kernel)
set_option maxRecDepth 20000 in
theorem gL_law_X3_pass : GoodIn wsL_law (wsV RL 127 RX3 yX3_pass wsX3_pass) := goodIn_app (goodIn_of _ (by decide +kernel)) ggL_law_X3_pass
set_option maxRecDepth 20000 in
theorem ggL_law_X2_today : GoodIn wsL_law wsX2_today := goodIn_r _ [412, 116, 492, 493, 494, 495, 496, 497] (by decide +kernel) (by decide +kernel)
set_option maxRecDepth 20000 in
theorem gL_law_X2_today : GoodIn wsL_law (wsV RL 128 RX2 yX2_today wsX2_today) := goodIn_app (goodIn_of _ (by decide +kernel)) ggL_law_X2_today
set_option maxRecDepth 20000 in
theorem ggL_law_X3_today : GoodIn wsL_law wsX3_today := goodIn_r _ [416, 92, 131, 498, 499, 500, 501, 502, 503, 504, 505, 506, 507, 508, 509, 510, 511, 512, 513, 514, 515] (by decide +kernel) (by decide +kernel)
set_option maxRecDepth 20000 in
theorem gL_law_X3_today : GoodIn wsL_law (wsV RL 131 RX3 yX3_today wsX3_today) := goodIn_app (goodIn_of _ (by decide +kernel)) ggL_law_X3_today
set_option maxRecDepth 20000 in
theorem ggL_law_X2_takings : GoodIn wsL_law wsX2_takings := goodIn_r _ [420, 168, 492, 493, 494, 495, 496, 497] (by decide +kernel) (by decide +kernel)
set_option maxRecDepth 20000 in
theorem gL_law_X2_takings : GoodIn wsL_law (wsV RL 132 RX2 yX2_takings wsX2_takings) := goodIn_app (goodIn_of _ (by decide +kernel)) ggL_law_X2_takings
set_option maxRecDepth 20000 in
theorem ggL_law_X3_takings : GoodIn wsL_law wsX3_takings := goodIn_r _ [424, 92, 177, 498, 499, 500, 501, 502, 503, 504, 505, 506, 507, 508, 509, 510, 511, 512, 513, 514, 515] (by decide +kernel) (by decide +kernel)
set_option maxRecDepth 20000 in
theorem gL_law_X3_takings : GoodIn wsL_law (wsV RL 135 RX3 yX3_takings wsX3_takings) := goodIn_app (goodIn_of _ (by decide +kernel)) ggL_law_X3_takings
set_option maxRecDepth 20000 in
theorem ggL_law_L_lookUp : GoodIn wsL_law wsL_lookUp := goodIn_ca (goodIn_r _ [427, 60, 428, 429, 430, 2, 431, 18, 116, 16, 67, 68, 69, 70, 71, 432, 22, 433, 434, 34, 37, 36, 435, 20, 436, 437, 189, 438, 439, 440, 441, 26, 338, 158, 159, 442, 443, 444, 190, 445, 446, 447, 35, 492, 493, 494, 495, 496, 497, 527, 528, 529, 530, 516, 517, 518, 519, 520, 521, 522, 523, 524, 525, 526] (by decide +kernel) (by decide +kernel)) (goodIn_sub (fun _ h => List.mem_append_left _ (List.mem_append_left _ (List.mem_append_right _ h))) (by decide +kernel))
set_option maxRecDepth 20000 in
theorem gL_law_L_lookUp : GoodIn wsL_law (va_wsS RL 136 yL_lookUp wsL_lookUp) := goodIn_app (goodIn_of _ (by decide +kernel)) ggL_law_L_lookUp
set_option maxRecDepth 20000 in
theorem ggL_law_X3_lookUp : GoodIn wsL_law wsX3_lookUp := goodIn_r _ [451, 53, 131, 54, 55, 47, 452, 453, 5, 454, 85, 86, 87, 133, 134, 135, 88, 89, 90, 91, 92, 455, 456, 457, 458, 459, 460, 461, 462, 46, 463, 464, 465, 466, 43, 50, 498, 499, 500, 501, 502, 503, 504, 505, 506, 507, 508, 509, 510, 511, 512, 513, 514, 515] (by decide +kernel) (by decide +kernel)
set_option maxRecDepth 20000 in
theorem gL_law_X3_lookUp : GoodIn wsL_law (wsV RL 138 RX3 yX3_lookUp wsX3_lookUp) := goodIn_app (goodIn_of _ (by decide +kernel)) ggL_law_X3_lookUp
set_option maxRecDepth 20000 in
theorem ggL_law_L_isStale : GoodIn wsL_law wsL_isStale := goodIn_ca (goodIn_r _ [469, 60, 470, 471, 472, 2, 473, 18, 116, 16, 67, 68, 69, 70, 71, 432, 22, 433, 434, 34, 37, 36, 435, 20, 436, 437, 189, 438, 439, 440, 441, 26, 338, 158, 159, 492, 493, 494, 495, 496, 497, 527, 528, 529, 530, 516, 517, 518, 519, 520, 521, 522, 523, 524, 525, 526] (by decide +kernel) (by decide +kernel)) (goodIn_sub (fun _ h => List.mem_append_left _ (List.mem_append_left _ (List.mem_append_right _ h))) (by decide +kernel))
set_option maxRecDepth 20000 in
theorem gL_law_L_isStale : GoodIn wsL_law (va_wsS RL 139 yL_isStale wsL_isStale) := goodIn_app (goodIn_of _ (by decide +kernel)) ggL_law_L_isStale
set_option maxRecDepth 20000 in
theorem ggL_law_X3_isStale : GoodIn wsL_law wsX3_isStale := goodIn_r _ [477, 54, 452, 453, 5, 454, 85, 86, 87, 133, 134, 135, 88, 89, 90, 91, 92, 455, 456, 457, 458, 53, 131, 55, 459, 460, 461, 462, 46, 463, 464, 465, 466, 43, 50, 498, 499, 500, 501, 502, 503, 504, 505, 506, 507, 508, 509, 510, 511, 512, 513, 514, 515] (by decide +kernel) (by decide +kernel)
set_option maxRecDepth 20000 in
theorem gL_law_X3_isStale : GoodIn wsL_law (wsV RL 141 RX3 yX3_isStale wsX3_isStale) := goodIn_app (goodIn_of _ (by decide +kernel)) ggL_law_X3_isStale
set_option maxRecDepth 20000 in
theorem ggL_law_L_flush : GoodIn wsL_law wsL_flush := goodIn_ca (goodIn_r _ [480, 60, 481, 482, 483, 2, 484, 18, 67, 68, 69, 70, 71, 485, 22, 486, 487, 34, 492, 493, 494, 495, 496, 497, 527, 528, 529, 530] (by decide +kernel) (by decide +kernel)) (goodIn_sub (fun _ h => List.mem_append_left _ (List.mem_append_left _ (List.mem_append_right _ h))) (by decide +kernel))
set_option maxRecDepth 20000 in
theorem gL_law_L_flush : GoodIn wsL_law (va_wsS RL 142 yL_flush wsL_flush) := goodIn_app (goodIn_of _ (by decide +kernel)) ggL_law_L_flush
set_option maxRecDepth 20000 in
theorem ggL_law_X3_flush : GoodIn wsL_law wsX3_flush := goodIn_r _ [491, 53, 85, 86, 5, 87, 88, 89, 90, 91, 92, 498, 499, 500, 501, 502, 503, 504, 505, 506, 507, 508, 509, 510, 511, 512, 513, 514, 515] (by decide +kernel) (by decide +kernel)
set_option maxRecDepth 20000 in
theorem gL_law_X3_flush : GoodIn wsL_law (wsV RL 144 RX3 yX3_flush wsX3_flush) := goodIn_app (goodIn_of _ (by decide +kernel)) ggL_law_X3_flush
theorem dL_law_0 : decode cL_law 0 = .ok (.new 8, 3) := by decide +kernel
theorem dL_law_3 : decode cL_law 3 = .ok (.dup, 1) := by decide +kernel
theorem dL_law_4 : decode cL_law 4 = .ok (.invokespecial 72, 3) := by decide +kernel
theorem dL_law_7 : decode cL_law 7 = .ok (.astore_n 1, 1) := by decide +kernel
theorem dL_law_8 : decode cL_law 8 = .ok (.new 73, 3) := by decide +kernel
theorem dL_law_11 : decode cL_law 11 = .ok (.dup, 1) := by decide +kernel
theorem dL_law_12 : decode cL_law 12 = .ok (.invokespecial 75, 3) := by decide +kernel
theorem dL_law_15 : decode cL_law 15 = .ok (.astore_n 2, 1) := by decide +kernel
theorem dL_law_16 : decode cL_law 16 = .ok (.iconst 1, 1) := by decide +kernel
theorem dL_law_17 : decode cL_law 17 = .ok (.newarray .long, 2) := by decide +kernel
theorem dL_law_19 : decode cL_law 19 = .ok (.astore_n 3, 1) := by decide +kernel
theorem dL_law_20 : decode cL_law 20 = .ok (.iconst 0, 1) := by decide +kernel
theorem dL_law_21 : decode cL_law 21 = .ok (.istore 4, 2) := by decide +kernel
theorem dL_law_23 : decode cL_law 23 = .ok (.iload 4, 2) := by decide +kernel
theorem dL_law_25 : decode cL_law 25 = .ok (.aload_n 0, 1) := by decide +kernel
theorem dL_law_26 : decode cL_law 26 = .ok (.arraylength, 1) := by decide +kernel
theorem dL_law_27 : decode cL_law 27 = .ok (.iconst 4, 1) := by decide +kernel
theorem dL_law_28 : decode cL_law 28 = .ok (.isub, 1) := by decide +kernel
theorem dL_law_29 : decode cL_law 29 = .ok (.if_icmp .gt 1238, 3) := by decide +kernel
theorem dL_law_32 : decode cL_law 32 = .ok (.aload_n 0, 1) := by decide +kernel
theorem dL_law_33 : decode cL_law 33 = .ok (.iload 4, 2) := by decide +kernel
theorem dL_law_35 : decode cL_law 35 = .ok (.iaload, 1) := by decide +kernel
theorem dL_law_36 : decode cL_law 36 = .ok (.bipush 31, 2) := by decide +kernel
theorem dL_law_38 : decode cL_law 38 = .ok (.iand, 1) := by decide +kernel
theorem dL_law_39 : decode cL_law 39 = .ok (.tableswitch 1222 0 18 #[89, 157, 213, 293, 349, 417, 473, 553, 609, 677, 733, 789, 857, 941, 997, 1010, 1023, 1091, 1166], 89) := by decide +kernel
theorem dL_law_128 : decode cL_law 128 = .ok (.aload_n 1, 1) := by decide +kernel
theorem dL_law_129 : decode cL_law 129 = .ok (.aload_n 0, 1) := by decide +kernel
theorem dL_law_130 : decode cL_law 130 = .ok (.iload 4, 2) := by decide +kernel
theorem dL_law_132 : decode cL_law 132 = .ok (.iconst 1, 1) := by decide +kernel
theorem dL_law_133 : decode cL_law 133 = .ok (.iadd, 1) := by decide +kernel
theorem dL_law_134 : decode cL_law 134 = .ok (.iaload, 1) := by decide +kernel
theorem dL_law_135 : decode cL_law 135 = .ok (.aload_n 0, 1) := by decide +kernel
theorem dL_law_136 : decode cL_law 136 = .ok (.iload 4, 2) := by decide +kernel
theorem dL_law_138 : decode cL_law 138 = .ok (.iconst 2, 1) := by decide +kernel
theorem dL_law_139 : decode cL_law 139 = .ok (.iadd, 1) := by decide +kernel
theorem dL_law_140 : decode cL_law 140 = .ok (.iaload, 1) := by decide +kernel
theorem dL_law_141 : decode cL_law 141 = .ok (.aload_n 3, 1) := by decide +kernel
theorem dL_law_142 : decode cL_law 142 = .ok (.invokestatic 76, 3) := by decide +kernel
theorem dL_law_145 : decode cL_law 145 = .ok (.istore 5, 2) := by decide +kernel
theorem dL_law_147 : decode cL_law 147 = .ok (.aload_n 2, 1) := by decide +kernel
theorem dL_law_148 : decode cL_law 148 = .ok (.aload_n 0, 1) := by decide +kernel
theorem dL_law_149 : decode cL_law 149 = .ok (.iload 4, 2) := by decide +kernel
theorem dL_law_151 : decode cL_law 151 = .ok (.iconst 1, 1) := by decide +kernel
theorem dL_law_152 : decode cL_law 152 = .ok (.iadd, 1) := by decide +kernel
theorem dL_law_153 : decode cL_law 153 = .ok (.iaload, 1) := by decide +kernel
theorem dL_law_154 : decode cL_law 154 = .ok (.aload_n 0, 1) := by decide +kernel
theorem dL_law_155 : decode cL_law 155 = .ok (.iload 4, 2) := by decide +kernel
theorem dL_law_157 : decode cL_law 157 = .ok (.iconst 2, 1) := by decide +kernel
theorem dL_law_158 : decode cL_law 158 = .ok (.iadd, 1) := by decide +kernel
theorem dL_law_159 : decode cL_law 159 = .ok (.iaload, 1) := by decide +kernel
theorem dL_law_160 : decode cL_law 160 = .ok (.invokevirtual 81, 3) := by decide +kernel
theorem dL_law_163 : decode cL_law 163 = .ok (.istore 6, 2) := by decide +kernel
theorem dL_law_165 : decode cL_law 165 = .ok (.aload_n 2, 1) := by decide +kernel
theorem dL_law_166 : decode cL_law 166 = .ok (.invokevirtual 82, 3) := by decide +kernel
theorem dL_law_169 : decode cL_law 169 = .ok (.iload 5, 2) := by decide +kernel
theorem dL_law_171 : decode cL_law 171 = .ok (.if_icmp .eq 5, 3) := by decide +kernel
theorem dL_law_174 : decode cL_law 174 = .ok (.iconst 0, 1) := by decide +kernel
theorem dL_law_175 : decode cL_law 175 = .ok (.ireturn, 1) := by decide +kernel
theorem dL_law_176 : decode cL_law 176 = .ok (.iload 5, 2) := by decide +kernel
theorem dL_law_178 : decode cL_law 178 = .ok (.ifCond .ne 15, 3) := by decide +kernel
theorem dL_law_181 : decode cL_law 181 = .ok (.aload_n 3, 1) := by decide +kernel
theorem dL_law_182 : decode cL_law 182 = .ok (.iconst 0, 1) := by decide +kernel
theorem dL_law_183 : decode cL_law 183 = .ok (.laload, 1) := by decide +kernel
theorem dL_law_184 : decode cL_law 184 = .ok (.iload 6, 2) := by decide +kernel
theorem dL_law_186 : decode cL_law 186 = .ok (.i2l, 1) := by decide +kernel
theorem dL_law_187 : decode cL_law 187 = .ok (.lcmp, 1) := by decide +kernel
theorem dL_law_188 : decode cL_law 188 = .ok (.ifCond .eq 5, 3) := by decide +kernel
theorem dL_law_191 : decode cL_law 191 = .ok (.iconst 0, 1) := by decide +kernel
theorem dL_law_192 : decode cL_law 192 = .ok (.ireturn, 1) := by decide +kernel
theorem dL_law_193 : decode cL_law 193 = .ok (.goto 1068, 3) := by decide +kernel
theorem dL_law_196 : decode cL_law 196 = .ok (.aload_n 1, 1) := by decide +kernel
theorem dL_law_197 : decode cL_law 197 = .ok (.aload_n 0, 1) := by decide +kernel
theorem dL_law_198 : decode cL_law 198 = .ok (.iload 4, 2) := by decide +kernel
theorem dL_law_200 : decode cL_law 200 = .ok (.iconst 1, 1) := by decide +kernel
theorem dL_law_201 : decode cL_law 201 = .ok (.iadd, 1) := by decide +kernel
theorem dL_law_202 : decode cL_law 202 = .ok (.iaload, 1) := by decide +kernel
theorem dL_law_203 : decode cL_law 203 = .ok (.aload_n 3, 1) := by decide +kernel
theorem dL_law_204 : decode cL_law 204 = .ok (.invokestatic 86, 3) := by decide +kernel
theorem dL_law_207 : decode cL_law 207 = .ok (.istore 5, 2) := by decide +kernel
theorem dL_law_209 : decode cL_law 209 = .ok (.aload_n 2, 1) := by decide +kernel
theorem dL_law_210 : decode cL_law 210 = .ok (.aload_n 0, 1) := by decide +kernel
theorem dL_law_211 : decode cL_law 211 = .ok (.iload 4, 2) := by decide +kernel
theorem dL_law_213 : decode cL_law 213 = .ok (.iconst 1, 1) := by decide +kernel
theorem dL_law_214 : decode cL_law 214 = .ok (.iadd, 1) := by decide +kernel
theorem dL_law_215 : decode cL_law 215 = .ok (.iaload, 1) := by decide +kernel
theorem dL_law_216 : decode cL_law 216 = .ok (.invokevirtual 89, 3) := by decide +kernel
theorem dL_law_219 : decode cL_law 219 = .ok (.istore 6, 2) := by decide +kernel
theorem dL_law_221 : decode cL_law 221 = .ok (.aload_n 2, 1) := by decide +kernel
theorem dL_law_222 : decode cL_law 222 = .ok (.invokevirtual 82, 3) := by decide +kernel
theorem dL_law_225 : decode cL_law 225 = .ok (.iload 5, 2) := by decide +kernel
theorem dL_law_227 : decode cL_law 227 = .ok (.if_icmp .eq 5, 3) := by decide +kernel
theorem dL_law_230 : decode cL_law 230 = .ok (.iconst 0, 1) := by decide +kernel
theorem dL_law_231 : decode cL_law 231 = .ok (.ireturn, 1) := by decide +kernel
theorem dL_law_232 : decode cL_law 232 = .ok (.iload 5, 2) := by decide +kernel
theorem dL_law_234 : decode cL_law 234 = .ok (.ifCond .ne 15, 3) := by decide +kernel
theorem dL_law_237 : decode cL_law 237 = .ok (.aload_n 3, 1) := by decide +kernel
theorem dL_law_238 : decode cL_law 238 = .ok (.iconst 0, 1) := by decide +kernel
theorem dL_law_239 : decode cL_law 239 = .ok (.laload, 1) := by decide +kernel
theorem dL_law_240 : decode cL_law 240 = .ok (.iload 6, 2) := by decide +kernel
theorem dL_law_242 : decode cL_law 242 = .ok (.i2l, 1) := by decide +kernel
theorem dL_law_243 : decode cL_law 243 = .ok (.lcmp, 1) := by decide +kernel
theorem dL_law_244 : decode cL_law 244 = .ok (.ifCond .eq 5, 3) := by decide +kernel
theorem dL_law_247 : decode cL_law 247 = .ok (.iconst 0, 1) := by decide +kernel
theorem dL_law_248 : decode cL_law 248 = .ok (.ireturn, 1) := by decide +kernel
theorem dL_law_249 : decode cL_law 249 = .ok (.goto 1012, 3) := by decide +kernel
theorem dL_law_252 : decode cL_law 252 = .ok (.aload_n 1, 1) := by decide +kernel
theorem dL_law_253 : decode cL_law 253 = .ok (.aload_n 0, 1) := by decide +kernel
theorem dL_law_254 : decode cL_law 254 = .ok (.iload 4, 2) := by decide +kernel
theorem dL_law_256 : decode cL_law 256 = .ok (.iconst 1, 1) := by decide +kernel
theorem dL_law_257 : decode cL_law 257 = .ok (.iadd, 1) := by decide +kernel
theorem dL_law_258 : decode cL_law 258 = .ok (.iaload, 1) := by decide +kernel
theorem dL_law_259 : decode cL_law 259 = .ok (.aload_n 0, 1) := by decide +kernel
theorem dL_law_260 : decode cL_law 260 = .ok (.iload 4, 2) := by decide +kernel
theorem dL_law_262 : decode cL_law 262 = .ok (.iconst 2, 1) := by decide +kernel
theorem dL_law_263 : decode cL_law 263 = .ok (.iadd, 1) := by decide +kernel
theorem dL_law_264 : decode cL_law 264 = .ok (.iaload, 1) := by decide +kernel
theorem dL_law_265 : decode cL_law 265 = .ok (.aload_n 0, 1) := by decide +kernel
theorem dL_law_266 : decode cL_law 266 = .ok (.iload 4, 2) := by decide +kernel
theorem dL_law_268 : decode cL_law 268 = .ok (.iconst 3, 1) := by decide +kernel
theorem dL_law_269 : decode cL_law 269 = .ok (.iadd, 1) := by decide +kernel
theorem dL_law_270 : decode cL_law 270 = .ok (.iaload, 1) := by decide +kernel
theorem dL_law_271 : decode cL_law 271 = .ok (.aload_n 3, 1) := by decide +kernel
theorem dL_law_272 : decode cL_law 272 = .ok (.invokestatic 90, 3) := by decide +kernel
theorem dL_law_275 : decode cL_law 275 = .ok (.istore 5, 2) := by decide +kernel
theorem dL_law_277 : decode cL_law 277 = .ok (.aload_n 2, 1) := by decide +kernel
theorem dL_law_278 : decode cL_law 278 = .ok (.aload_n 0, 1) := by decide +kernel
theorem dL_law_279 : decode cL_law 279 = .ok (.iload 4, 2) := by decide +kernel
theorem dL_law_281 : decode cL_law 281 = .ok (.iconst 1, 1) := by decide +kernel
theorem dL_law_282 : decode cL_law 282 = .ok (.iadd, 1) := by decide +kernel
theorem dL_law_283 : decode cL_law 283 = .ok (.iaload, 1) := by decide +kernel
theorem dL_law_284 : decode cL_law 284 = .ok (.aload_n 0, 1) := by decide +kernel
theorem dL_law_285 : decode cL_law 285 = .ok (.iload 4, 2) := by decide +kernel
theorem dL_law_287 : decode cL_law 287 = .ok (.iconst 2, 1) := by decide +kernel
theorem dL_law_288 : decode cL_law 288 = .ok (.iadd, 1) := by decide +kernel
theorem dL_law_289 : decode cL_law 289 = .ok (.iaload, 1) := by decide +kernel
theorem dL_law_290 : decode cL_law 290 = .ok (.aload_n 0, 1) := by decide +kernel
theorem dL_law_291 : decode cL_law 291 = .ok (.iload 4, 2) := by decide +kernel
theorem dL_law_293 : decode cL_law 293 = .ok (.iconst 3, 1) := by decide +kernel
theorem dL_law_294 : decode cL_law 294 = .ok (.iadd, 1) := by decide +kernel
theorem dL_law_295 : decode cL_law 295 = .ok (.iaload, 1) := by decide +kernel
theorem dL_law_296 : decode cL_law 296 = .ok (.invokevirtual 93, 3) := by decide +kernel
theorem dL_law_299 : decode cL_law 299 = .ok (.istore 6, 2) := by decide +kernel
theorem dL_law_301 : decode cL_law 301 = .ok (.aload_n 2, 1) := by decide +kernel
theorem dL_law_302 : decode cL_law 302 = .ok (.invokevirtual 82, 3) := by decide +kernel
theorem dL_law_305 : decode cL_law 305 = .ok (.iload 5, 2) := by decide +kernel
theorem dL_law_307 : decode cL_law 307 = .ok (.if_icmp .eq 5, 3) := by decide +kernel
theorem dL_law_310 : decode cL_law 310 = .ok (.iconst 0, 1) := by decide +kernel
theorem dL_law_311 : decode cL_law 311 = .ok (.ireturn, 1) := by decide +kernel
theorem dL_law_312 : decode cL_law 312 = .ok (.iload 5, 2) := by decide +kernel
theorem dL_law_314 : decode cL_law 314 = .ok (.ifCond .ne 15, 3) := by decide +kernel
theorem dL_law_317 : decode cL_law 317 = .ok (.aload_n 3, 1) := by decide +kernel
theorem dL_law_318 : decode cL_law 318 = .ok (.iconst 0, 1) := by decide +kernel
theorem dL_law_319 : decode cL_law 319 = .ok (.laload, 1) := by decide +kernel
theorem dL_law_320 : decode cL_law 320 = .ok (.iload 6, 2) := by decide +kernel
theorem dL_law_322 : decode cL_law 322 = .ok (.i2l, 1) := by decide +kernel
theorem dL_law_323 : decode cL_law 323 = .ok (.lcmp, 1) := by decide +kernel
theorem dL_law_324 : decode cL_law 324 = .ok (.ifCond .eq 5, 3) := by decide +kernel
theorem dL_law_327 : decode cL_law 327 = .ok (.iconst 0, 1) := by decide +kernel
theorem dL_law_328 : decode cL_law 328 = .ok (.ireturn, 1) := by decide +kernel
theorem dL_law_329 : decode cL_law 329 = .ok (.goto 932, 3) := by decide +kernel
theorem dL_law_332 : decode cL_law 332 = .ok (.aload_n 1, 1) := by decide +kernel
theorem dL_law_333 : decode cL_law 333 = .ok (.aload_n 0, 1) := by decide +kernel
theorem dL_law_334 : decode cL_law 334 = .ok (.iload 4, 2) := by decide +kernel
theorem dL_law_336 : decode cL_law 336 = .ok (.iconst 1, 1) := by decide +kernel
theorem dL_law_337 : decode cL_law 337 = .ok (.iadd, 1) := by decide +kernel
theorem dL_law_338 : decode cL_law 338 = .ok (.iaload, 1) := by decide +kernel
theorem dL_law_339 : decode cL_law 339 = .ok (.aload_n 3, 1) := by decide +kernel
theorem dL_law_340 : decode cL_law 340 = .ok (.invokestatic 94, 3) := by decide +kernel
theorem dL_law_343 : decode cL_law 343 = .ok (.istore 5, 2) := by decide +kernel
theorem dL_law_345 : decode cL_law 345 = .ok (.aload_n 2, 1) := by decide +kernel
theorem dL_law_346 : decode cL_law 346 = .ok (.aload_n 0, 1) := by decide +kernel
theorem dL_law_347 : decode cL_law 347 = .ok (.iload 4, 2) := by decide +kernel
theorem dL_law_349 : decode cL_law 349 = .ok (.iconst 1, 1) := by decide +kernel
theorem dL_law_350 : decode cL_law 350 = .ok (.iadd, 1) := by decide +kernel
theorem dL_law_351 : decode cL_law 351 = .ok (.iaload, 1) := by decide +kernel
theorem dL_law_352 : decode cL_law 352 = .ok (.invokevirtual 96, 3) := by decide +kernel
theorem dL_law_355 : decode cL_law 355 = .ok (.istore 6, 2) := by decide +kernel
theorem dL_law_357 : decode cL_law 357 = .ok (.aload_n 2, 1) := by decide +kernel
theorem dL_law_358 : decode cL_law 358 = .ok (.invokevirtual 82, 3) := by decide +kernel
theorem dL_law_361 : decode cL_law 361 = .ok (.iload 5, 2) := by decide +kernel
theorem dL_law_363 : decode cL_law 363 = .ok (.if_icmp .eq 5, 3) := by decide +kernel
theorem dL_law_366 : decode cL_law 366 = .ok (.iconst 0, 1) := by decide +kernel
theorem dL_law_367 : decode cL_law 367 = .ok (.ireturn, 1) := by decide +kernel
theorem dL_law_368 : decode cL_law 368 = .ok (.iload 5, 2) := by decide +kernel
theorem dL_law_370 : decode cL_law 370 = .ok (.ifCond .ne 15, 3) := by decide +kernel
theorem dL_law_373 : decode cL_law 373 = .ok (.aload_n 3, 1) := by decide +kernel
theorem dL_law_374 : decode cL_law 374 = .ok (.iconst 0, 1) := by decide +kernel
theorem dL_law_375 : decode cL_law 375 = .ok (.laload, 1) := by decide +kernel
theorem dL_law_376 : decode cL_law 376 = .ok (.iload 6, 2) := by decide +kernel
theorem dL_law_378 : decode cL_law 378 = .ok (.i2l, 1) := by decide +kernel
theorem dL_law_379 : decode cL_law 379 = .ok (.lcmp, 1) := by decide +kernel
theorem dL_law_380 : decode cL_law 380 = .ok (.ifCond .eq 5, 3) := by decide +kernel
theorem dL_law_383 : decode cL_law 383 = .ok (.iconst 0, 1) := by decide +kernel
theorem dL_law_384 : decode cL_law 384 = .ok (.ireturn, 1) := by decide +kernel
theorem dL_law_385 : decode cL_law 385 = .ok (.goto 876, 3) := by decide +kernel
theorem dL_law_388 : decode cL_law 388 = .ok (.aload_n 1, 1) := by decide +kernel
theorem dL_law_389 : decode cL_law 389 = .ok (.aload_n 0, 1) := by decide +kernel
theorem dL_law_390 : decode cL_law 390 = .ok (.iload 4, 2) := by decide +kernel
theorem dL_law_392 : decode cL_law 392 = .ok (.iconst 1, 1) := by decide +kernel
theorem dL_law_393 : decode cL_law 393 = .ok (.iadd, 1) := by decide +kernel
theorem dL_law_394 : decode cL_law 394 = .ok (.iaload, 1) := by decide +kernel
theorem dL_law_395 : decode cL_law 395 = .ok (.aload_n 0, 1) := by decide +kernel
theorem dL_law_396 : decode cL_law 396 = .ok (.iload 4, 2) := by decide +kernel
theorem dL_law_398 : decode cL_law 398 = .ok (.iconst 2, 1) := by decide +kernel
theorem dL_law_399 : decode cL_law 399 = .ok (.iadd, 1) := by decide +kernel
theorem dL_law_400 : decode cL_law 400 = .ok (.iaload, 1) := by decide +kernel
theorem dL_law_401 : decode cL_law 401 = .ok (.aload_n 3, 1) := by decide +kernel
theorem dL_law_402 : decode cL_law 402 = .ok (.invokestatic 97, 3) := by decide +kernel
theorem dL_law_405 : decode cL_law 405 = .ok (.istore 5, 2) := by decide +kernel
theorem dL_law_407 : decode cL_law 407 = .ok (.aload_n 2, 1) := by decide +kernel
theorem dL_law_408 : decode cL_law 408 = .ok (.aload_n 0, 1) := by decide +kernel
theorem dL_law_409 : decode cL_law 409 = .ok (.iload 4, 2) := by decide +kernel
theorem dL_law_411 : decode cL_law 411 = .ok (.iconst 1, 1) := by decide +kernel
theorem dL_law_412 : decode cL_law 412 = .ok (.iadd, 1) := by decide +kernel
theorem dL_law_413 : decode cL_law 413 = .ok (.iaload, 1) := by decide +kernel
theorem dL_law_414 : decode cL_law 414 = .ok (.aload_n 0, 1) := by decide +kernel
theorem dL_law_415 : decode cL_law 415 = .ok (.iload 4, 2) := by decide +kernel
theorem dL_law_417 : decode cL_law 417 = .ok (.iconst 2, 1) := by decide +kernel
theorem dL_law_418 : decode cL_law 418 = .ok (.iadd, 1) := by decide +kernel
theorem dL_law_419 : decode cL_law 419 = .ok (.iaload, 1) := by decide +kernel
theorem dL_law_420 : decode cL_law 420 = .ok (.invokevirtual 99, 3) := by decide +kernel
theorem dL_law_423 : decode cL_law 423 = .ok (.istore 6, 2) := by decide +kernel
theorem dL_law_425 : decode cL_law 425 = .ok (.aload_n 2, 1) := by decide +kernel
theorem dL_law_426 : decode cL_law 426 = .ok (.invokevirtual 82, 3) := by decide +kernel
theorem dL_law_429 : decode cL_law 429 = .ok (.iload 5, 2) := by decide +kernel
theorem dL_law_431 : decode cL_law 431 = .ok (.if_icmp .eq 5, 3) := by decide +kernel
theorem dL_law_434 : decode cL_law 434 = .ok (.iconst 0, 1) := by decide +kernel
theorem dL_law_435 : decode cL_law 435 = .ok (.ireturn, 1) := by decide +kernel
theorem dL_law_436 : decode cL_law 436 = .ok (.iload 5, 2) := by decide +kernel
theorem dL_law_438 : decode cL_law 438 = .ok (.ifCond .ne 15, 3) := by decide +kernel
theorem dL_law_441 : decode cL_law 441 = .ok (.aload_n 3, 1) := by decide +kernel
theorem dL_law_442 : decode cL_law 442 = .ok (.iconst 0, 1) := by decide +kernel
theorem dL_law_443 : decode cL_law 443 = .ok (.laload, 1) := by decide +kernel
theorem dL_law_444 : decode cL_law 444 = .ok (.iload 6, 2) := by decide +kernel
theorem dL_law_446 : decode cL_law 446 = .ok (.i2l, 1) := by decide +kernel
theorem dL_law_447 : decode cL_law 447 = .ok (.lcmp, 1) := by decide +kernel
theorem dL_law_448 : decode cL_law 448 = .ok (.ifCond .eq 5, 3) := by decide +kernel
theorem dL_law_451 : decode cL_law 451 = .ok (.iconst 0, 1) := by decide +kernel
theorem dL_law_452 : decode cL_law 452 = .ok (.ireturn, 1) := by decide +kernel
theorem dL_law_453 : decode cL_law 453 = .ok (.goto 808, 3) := by decide +kernel
theorem dL_law_456 : decode cL_law 456 = .ok (.aload_n 1, 1) := by decide +kernel
theorem dL_law_457 : decode cL_law 457 = .ok (.aload_n 0, 1) := by decide +kernel
theorem dL_law_458 : decode cL_law 458 = .ok (.iload 4, 2) := by decide +kernel
theorem dL_law_460 : decode cL_law 460 = .ok (.iconst 1, 1) := by decide +kernel
theorem dL_law_461 : decode cL_law 461 = .ok (.iadd, 1) := by decide +kernel
theorem dL_law_462 : decode cL_law 462 = .ok (.iaload, 1) := by decide +kernel
theorem dL_law_463 : decode cL_law 463 = .ok (.aload_n 3, 1) := by decide +kernel
theorem dL_law_464 : decode cL_law 464 = .ok (.invokestatic 100, 3) := by decide +kernel
theorem dL_law_467 : decode cL_law 467 = .ok (.istore 5, 2) := by decide +kernel
theorem dL_law_469 : decode cL_law 469 = .ok (.aload_n 2, 1) := by decide +kernel
theorem dL_law_470 : decode cL_law 470 = .ok (.aload_n 0, 1) := by decide +kernel
theorem dL_law_471 : decode cL_law 471 = .ok (.iload 4, 2) := by decide +kernel
theorem dL_law_473 : decode cL_law 473 = .ok (.iconst 1, 1) := by decide +kernel
theorem dL_law_474 : decode cL_law 474 = .ok (.iadd, 1) := by decide +kernel
theorem dL_law_475 : decode cL_law 475 = .ok (.iaload, 1) := by decide +kernel
theorem dL_law_476 : decode cL_law 476 = .ok (.invokevirtual 102, 3) := by decide +kernel
theorem dL_law_479 : decode cL_law 479 = .ok (.istore 6, 2) := by decide +kernel
theorem dL_law_481 : decode cL_law 481 = .ok (.aload_n 2, 1) := by decide +kernel
theorem dL_law_482 : decode cL_law 482 = .ok (.invokevirtual 82, 3) := by decide +kernel
theorem dL_law_485 : decode cL_law 485 = .ok (.iload 5, 2) := by decide +kernel
theorem dL_law_487 : decode cL_law 487 = .ok (.if_icmp .eq 5, 3) := by decide +kernel
theorem dL_law_490 : decode cL_law 490 = .ok (.iconst 0, 1) := by decide +kernel
theorem dL_law_491 : decode cL_law 491 = .ok (.ireturn, 1) := by decide +kernel
theorem dL_law_492 : decode cL_law 492 = .ok (.iload 5, 2) := by decide +kernel
theorem dL_law_494 : decode cL_law 494 = .ok (.ifCond .ne 15, 3) := by decide +kernel
theorem dL_law_497 : decode cL_law 497 = .ok (.aload_n 3, 1) := by decide +kernel
theorem dL_law_498 : decode cL_law 498 = .ok (.iconst 0, 1) := by decide +kernel
theorem dL_law_499 : decode cL_law 499 = .ok (.laload, 1) := by decide +kernel
theorem dL_law_500 : decode cL_law 500 = .ok (.iload 6, 2) := by decide +kernel
theorem dL_law_502 : decode cL_law 502 = .ok (.i2l, 1) := by decide +kernel
theorem dL_law_503 : decode cL_law 503 = .ok (.lcmp, 1) := by decide +kernel
theorem dL_law_504 : decode cL_law 504 = .ok (.ifCond .eq 5, 3) := by decide +kernel
theorem dL_law_507 : decode cL_law 507 = .ok (.iconst 0, 1) := by decide +kernel
theorem dL_law_508 : decode cL_law 508 = .ok (.ireturn, 1) := by decide +kernel
theorem dL_law_509 : decode cL_law 509 = .ok (.goto 752, 3) := by decide +kernel
theorem dL_law_512 : decode cL_law 512 = .ok (.aload_n 1, 1) := by decide +kernel
theorem dL_law_513 : decode cL_law 513 = .ok (.aload_n 0, 1) := by decide +kernel
theorem dL_law_514 : decode cL_law 514 = .ok (.iload 4, 2) := by decide +kernel
theorem dL_law_516 : decode cL_law 516 = .ok (.iconst 1, 1) := by decide +kernel
theorem dL_law_517 : decode cL_law 517 = .ok (.iadd, 1) := by decide +kernel
theorem dL_law_518 : decode cL_law 518 = .ok (.iaload, 1) := by decide +kernel
theorem dL_law_519 : decode cL_law 519 = .ok (.aload_n 0, 1) := by decide +kernel
theorem dL_law_520 : decode cL_law 520 = .ok (.iload 4, 2) := by decide +kernel
theorem dL_law_522 : decode cL_law 522 = .ok (.iconst 2, 1) := by decide +kernel
theorem dL_law_523 : decode cL_law 523 = .ok (.iadd, 1) := by decide +kernel
theorem dL_law_524 : decode cL_law 524 = .ok (.iaload, 1) := by decide +kernel
theorem dL_law_525 : decode cL_law 525 = .ok (.aload_n 0, 1) := by decide +kernel
theorem dL_law_526 : decode cL_law 526 = .ok (.iload 4, 2) := by decide +kernel
theorem dL_law_528 : decode cL_law 528 = .ok (.iconst 3, 1) := by decide +kernel
theorem dL_law_529 : decode cL_law 529 = .ok (.iadd, 1) := by decide +kernel
theorem dL_law_530 : decode cL_law 530 = .ok (.iaload, 1) := by decide +kernel
theorem dL_law_531 : decode cL_law 531 = .ok (.aload_n 3, 1) := by decide +kernel
theorem dL_law_532 : decode cL_law 532 = .ok (.invokestatic 103, 3) := by decide +kernel
theorem dL_law_535 : decode cL_law 535 = .ok (.istore 5, 2) := by decide +kernel
theorem dL_law_537 : decode cL_law 537 = .ok (.aload_n 2, 1) := by decide +kernel
theorem dL_law_538 : decode cL_law 538 = .ok (.aload_n 0, 1) := by decide +kernel
theorem dL_law_539 : decode cL_law 539 = .ok (.iload 4, 2) := by decide +kernel
theorem dL_law_541 : decode cL_law 541 = .ok (.iconst 1, 1) := by decide +kernel
theorem dL_law_542 : decode cL_law 542 = .ok (.iadd, 1) := by decide +kernel
theorem dL_law_543 : decode cL_law 543 = .ok (.iaload, 1) := by decide +kernel
theorem dL_law_544 : decode cL_law 544 = .ok (.aload_n 0, 1) := by decide +kernel
theorem dL_law_545 : decode cL_law 545 = .ok (.iload 4, 2) := by decide +kernel
theorem dL_law_547 : decode cL_law 547 = .ok (.iconst 2, 1) := by decide +kernel
theorem dL_law_548 : decode cL_law 548 = .ok (.iadd, 1) := by decide +kernel
theorem dL_law_549 : decode cL_law 549 = .ok (.iaload, 1) := by decide +kernel
theorem dL_law_550 : decode cL_law 550 = .ok (.aload_n 0, 1) := by decide +kernel
theorem dL_law_551 : decode cL_law 551 = .ok (.iload 4, 2) := by decide +kernel
theorem dL_law_553 : decode cL_law 553 = .ok (.iconst 3, 1) := by decide +kernel
theorem dL_law_554 : decode cL_law 554 = .ok (.iadd, 1) := by decide +kernel
theorem dL_law_555 : decode cL_law 555 = .ok (.iaload, 1) := by decide +kernel
theorem dL_law_556 : decode cL_law 556 = .ok (.invokevirtual 105, 3) := by decide +kernel
theorem dL_law_559 : decode cL_law 559 = .ok (.istore 6, 2) := by decide +kernel
theorem dL_law_561 : decode cL_law 561 = .ok (.aload_n 2, 1) := by decide +kernel
theorem dL_law_562 : decode cL_law 562 = .ok (.invokevirtual 82, 3) := by decide +kernel
theorem dL_law_565 : decode cL_law 565 = .ok (.iload 5, 2) := by decide +kernel
theorem dL_law_567 : decode cL_law 567 = .ok (.if_icmp .eq 5, 3) := by decide +kernel
theorem dL_law_570 : decode cL_law 570 = .ok (.iconst 0, 1) := by decide +kernel
theorem dL_law_571 : decode cL_law 571 = .ok (.ireturn, 1) := by decide +kernel
theorem dL_law_572 : decode cL_law 572 = .ok (.iload 5, 2) := by decide +kernel
theorem dL_law_574 : decode cL_law 574 = .ok (.ifCond .ne 15, 3) := by decide +kernel
theorem dL_law_577 : decode cL_law 577 = .ok (.aload_n 3, 1) := by decide +kernel
theorem dL_law_578 : decode cL_law 578 = .ok (.iconst 0, 1) := by decide +kernel
theorem dL_law_579 : decode cL_law 579 = .ok (.laload, 1) := by decide +kernel
theorem dL_law_580 : decode cL_law 580 = .ok (.iload 6, 2) := by decide +kernel
theorem dL_law_582 : decode cL_law 582 = .ok (.i2l, 1) := by decide +kernel
theorem dL_law_583 : decode cL_law 583 = .ok (.lcmp, 1) := by decide +kernel
theorem dL_law_584 : decode cL_law 584 = .ok (.ifCond .eq 5, 3) := by decide +kernel
theorem dL_law_587 : decode cL_law 587 = .ok (.iconst 0, 1) := by decide +kernel
theorem dL_law_588 : decode cL_law 588 = .ok (.ireturn, 1) := by decide +kernel
theorem dL_law_589 : decode cL_law 589 = .ok (.goto 672, 3) := by decide +kernel
theorem dL_law_592 : decode cL_law 592 = .ok (.aload_n 1, 1) := by decide +kernel
theorem dL_law_593 : decode cL_law 593 = .ok (.aload_n 0, 1) := by decide +kernel
theorem dL_law_594 : decode cL_law 594 = .ok (.iload 4, 2) := by decide +kernel
theorem dL_law_596 : decode cL_law 596 = .ok (.iconst 1, 1) := by decide +kernel
theorem dL_law_597 : decode cL_law 597 = .ok (.iadd, 1) := by decide +kernel
theorem dL_law_598 : decode cL_law 598 = .ok (.iaload, 1) := by decide +kernel
theorem dL_law_599 : decode cL_law 599 = .ok (.aload_n 3, 1) := by decide +kernel
theorem dL_law_600 : decode cL_law 600 = .ok (.invokestatic 106, 3) := by decide +kernel
theorem dL_law_603 : decode cL_law 603 = .ok (.istore 5, 2) := by decide +kernel
theorem dL_law_605 : decode cL_law 605 = .ok (.aload_n 2, 1) := by decide +kernel
theorem dL_law_606 : decode cL_law 606 = .ok (.aload_n 0, 1) := by decide +kernel
theorem dL_law_607 : decode cL_law 607 = .ok (.iload 4, 2) := by decide +kernel
theorem dL_law_609 : decode cL_law 609 = .ok (.iconst 1, 1) := by decide +kernel
theorem dL_law_610 : decode cL_law 610 = .ok (.iadd, 1) := by decide +kernel
theorem dL_law_611 : decode cL_law 611 = .ok (.iaload, 1) := by decide +kernel
theorem dL_law_612 : decode cL_law 612 = .ok (.invokevirtual 108, 3) := by decide +kernel
theorem dL_law_615 : decode cL_law 615 = .ok (.istore 6, 2) := by decide +kernel
theorem dL_law_617 : decode cL_law 617 = .ok (.aload_n 2, 1) := by decide +kernel
theorem dL_law_618 : decode cL_law 618 = .ok (.invokevirtual 82, 3) := by decide +kernel
theorem dL_law_621 : decode cL_law 621 = .ok (.iload 5, 2) := by decide +kernel
theorem dL_law_623 : decode cL_law 623 = .ok (.if_icmp .eq 5, 3) := by decide +kernel
theorem dL_law_626 : decode cL_law 626 = .ok (.iconst 0, 1) := by decide +kernel
theorem dL_law_627 : decode cL_law 627 = .ok (.ireturn, 1) := by decide +kernel
theorem dL_law_628 : decode cL_law 628 = .ok (.iload 5, 2) := by decide +kernel
theorem dL_law_630 : decode cL_law 630 = .ok (.ifCond .ne 15, 3) := by decide +kernel
theorem dL_law_633 : decode cL_law 633 = .ok (.aload_n 3, 1) := by decide +kernel
theorem dL_law_634 : decode cL_law 634 = .ok (.iconst 0, 1) := by decide +kernel
theorem dL_law_635 : decode cL_law 635 = .ok (.laload, 1) := by decide +kernel
theorem dL_law_636 : decode cL_law 636 = .ok (.iload 6, 2) := by decide +kernel
theorem dL_law_638 : decode cL_law 638 = .ok (.i2l, 1) := by decide +kernel
theorem dL_law_639 : decode cL_law 639 = .ok (.lcmp, 1) := by decide +kernel
theorem dL_law_640 : decode cL_law 640 = .ok (.ifCond .eq 5, 3) := by decide +kernel
theorem dL_law_643 : decode cL_law 643 = .ok (.iconst 0, 1) := by decide +kernel
theorem dL_law_644 : decode cL_law 644 = .ok (.ireturn, 1) := by decide +kernel
theorem dL_law_645 : decode cL_law 645 = .ok (.goto 616, 3) := by decide +kernel
theorem dL_law_648 : decode cL_law 648 = .ok (.aload_n 1, 1) := by decide +kernel
theorem dL_law_649 : decode cL_law 649 = .ok (.aload_n 0, 1) := by decide +kernel
theorem dL_law_650 : decode cL_law 650 = .ok (.iload 4, 2) := by decide +kernel
theorem dL_law_652 : decode cL_law 652 = .ok (.iconst 1, 1) := by decide +kernel
theorem dL_law_653 : decode cL_law 653 = .ok (.iadd, 1) := by decide +kernel
theorem dL_law_654 : decode cL_law 654 = .ok (.iaload, 1) := by decide +kernel
theorem dL_law_655 : decode cL_law 655 = .ok (.aload_n 0, 1) := by decide +kernel
theorem dL_law_656 : decode cL_law 656 = .ok (.iload 4, 2) := by decide +kernel
theorem dL_law_658 : decode cL_law 658 = .ok (.iconst 2, 1) := by decide +kernel
theorem dL_law_659 : decode cL_law 659 = .ok (.iadd, 1) := by decide +kernel
theorem dL_law_660 : decode cL_law 660 = .ok (.iaload, 1) := by decide +kernel
theorem dL_law_661 : decode cL_law 661 = .ok (.aload_n 3, 1) := by decide +kernel
theorem dL_law_662 : decode cL_law 662 = .ok (.invokestatic 109, 3) := by decide +kernel
theorem dL_law_665 : decode cL_law 665 = .ok (.istore 5, 2) := by decide +kernel
theorem dL_law_667 : decode cL_law 667 = .ok (.aload_n 2, 1) := by decide +kernel
theorem dL_law_668 : decode cL_law 668 = .ok (.aload_n 0, 1) := by decide +kernel
theorem dL_law_669 : decode cL_law 669 = .ok (.iload 4, 2) := by decide +kernel
theorem dL_law_671 : decode cL_law 671 = .ok (.iconst 1, 1) := by decide +kernel
theorem dL_law_672 : decode cL_law 672 = .ok (.iadd, 1) := by decide +kernel
theorem dL_law_673 : decode cL_law 673 = .ok (.iaload, 1) := by decide +kernel
theorem dL_law_674 : decode cL_law 674 = .ok (.aload_n 0, 1) := by decide +kernel
theorem dL_law_675 : decode cL_law 675 = .ok (.iload 4, 2) := by decide +kernel
theorem dL_law_677 : decode cL_law 677 = .ok (.iconst 2, 1) := by decide +kernel
theorem dL_law_678 : decode cL_law 678 = .ok (.iadd, 1) := by decide +kernel
theorem dL_law_679 : decode cL_law 679 = .ok (.iaload, 1) := by decide +kernel
theorem dL_law_680 : decode cL_law 680 = .ok (.invokevirtual 111, 3) := by decide +kernel
theorem dL_law_683 : decode cL_law 683 = .ok (.istore 6, 2) := by decide +kernel
theorem dL_law_685 : decode cL_law 685 = .ok (.aload_n 2, 1) := by decide +kernel
theorem dL_law_686 : decode cL_law 686 = .ok (.invokevirtual 82, 3) := by decide +kernel
theorem dL_law_689 : decode cL_law 689 = .ok (.iload 5, 2) := by decide +kernel
theorem dL_law_691 : decode cL_law 691 = .ok (.if_icmp .eq 5, 3) := by decide +kernel
theorem dL_law_694 : decode cL_law 694 = .ok (.iconst 0, 1) := by decide +kernel
theorem dL_law_695 : decode cL_law 695 = .ok (.ireturn, 1) := by decide +kernel
theorem dL_law_696 : decode cL_law 696 = .ok (.iload 5, 2) := by decide +kernel
theorem dL_law_698 : decode cL_law 698 = .ok (.ifCond .ne 15, 3) := by decide +kernel
theorem dL_law_701 : decode cL_law 701 = .ok (.aload_n 3, 1) := by decide +kernel
theorem dL_law_702 : decode cL_law 702 = .ok (.iconst 0, 1) := by decide +kernel
theorem dL_law_703 : decode cL_law 703 = .ok (.laload, 1) := by decide +kernel
theorem dL_law_704 : decode cL_law 704 = .ok (.iload 6, 2) := by decide +kernel
theorem dL_law_706 : decode cL_law 706 = .ok (.i2l, 1) := by decide +kernel
theorem dL_law_707 : decode cL_law 707 = .ok (.lcmp, 1) := by decide +kernel
theorem dL_law_708 : decode cL_law 708 = .ok (.ifCond .eq 5, 3) := by decide +kernel
theorem dL_law_711 : decode cL_law 711 = .ok (.iconst 0, 1) := by decide +kernel
theorem dL_law_712 : decode cL_law 712 = .ok (.ireturn, 1) := by decide +kernel
theorem dL_law_713 : decode cL_law 713 = .ok (.goto 548, 3) := by decide +kernel
theorem dL_law_716 : decode cL_law 716 = .ok (.aload_n 1, 1) := by decide +kernel
theorem dL_law_717 : decode cL_law 717 = .ok (.aload_n 0, 1) := by decide +kernel
theorem dL_law_718 : decode cL_law 718 = .ok (.iload 4, 2) := by decide +kernel
theorem dL_law_720 : decode cL_law 720 = .ok (.iconst 1, 1) := by decide +kernel
theorem dL_law_721 : decode cL_law 721 = .ok (.iadd, 1) := by decide +kernel
theorem dL_law_722 : decode cL_law 722 = .ok (.iaload, 1) := by decide +kernel
theorem dL_law_723 : decode cL_law 723 = .ok (.aload_n 3, 1) := by decide +kernel
theorem dL_law_724 : decode cL_law 724 = .ok (.invokestatic 112, 3) := by decide +kernel
theorem dL_law_727 : decode cL_law 727 = .ok (.istore 5, 2) := by decide +kernel
theorem dL_law_729 : decode cL_law 729 = .ok (.aload_n 2, 1) := by decide +kernel
theorem dL_law_730 : decode cL_law 730 = .ok (.aload_n 0, 1) := by decide +kernel
theorem dL_law_731 : decode cL_law 731 = .ok (.iload 4, 2) := by decide +kernel
theorem dL_law_733 : decode cL_law 733 = .ok (.iconst 1, 1) := by decide +kernel
theorem dL_law_734 : decode cL_law 734 = .ok (.iadd, 1) := by decide +kernel
theorem dL_law_735 : decode cL_law 735 = .ok (.iaload, 1) := by decide +kernel
theorem dL_law_736 : decode cL_law 736 = .ok (.invokevirtual 114, 3) := by decide +kernel
theorem dL_law_739 : decode cL_law 739 = .ok (.istore 6, 2) := by decide +kernel
theorem dL_law_741 : decode cL_law 741 = .ok (.aload_n 2, 1) := by decide +kernel
theorem dL_law_742 : decode cL_law 742 = .ok (.invokevirtual 82, 3) := by decide +kernel
theorem dL_law_745 : decode cL_law 745 = .ok (.iload 5, 2) := by decide +kernel
theorem dL_law_747 : decode cL_law 747 = .ok (.if_icmp .eq 5, 3) := by decide +kernel
theorem dL_law_750 : decode cL_law 750 = .ok (.iconst 0, 1) := by decide +kernel
theorem dL_law_751 : decode cL_law 751 = .ok (.ireturn, 1) := by decide +kernel
theorem dL_law_752 : decode cL_law 752 = .ok (.iload 5, 2) := by decide +kernel
theorem dL_law_754 : decode cL_law 754 = .ok (.ifCond .ne 15, 3) := by decide +kernel
theorem dL_law_757 : decode cL_law 757 = .ok (.aload_n 3, 1) := by decide +kernel
theorem dL_law_758 : decode cL_law 758 = .ok (.iconst 0, 1) := by decide +kernel
theorem dL_law_759 : decode cL_law 759 = .ok (.laload, 1) := by decide +kernel
theorem dL_law_760 : decode cL_law 760 = .ok (.iload 6, 2) := by decide +kernel
theorem dL_law_762 : decode cL_law 762 = .ok (.i2l, 1) := by decide +kernel
theorem dL_law_763 : decode cL_law 763 = .ok (.lcmp, 1) := by decide +kernel
theorem dL_law_764 : decode cL_law 764 = .ok (.ifCond .eq 5, 3) := by decide +kernel
theorem dL_law_767 : decode cL_law 767 = .ok (.iconst 0, 1) := by decide +kernel
theorem dL_law_768 : decode cL_law 768 = .ok (.ireturn, 1) := by decide +kernel
theorem dL_law_769 : decode cL_law 769 = .ok (.goto 492, 3) := by decide +kernel
theorem dL_law_772 : decode cL_law 772 = .ok (.aload_n 1, 1) := by decide +kernel
theorem dL_law_773 : decode cL_law 773 = .ok (.aload_n 0, 1) := by decide +kernel
theorem dL_law_774 : decode cL_law 774 = .ok (.iload 4, 2) := by decide +kernel
theorem dL_law_776 : decode cL_law 776 = .ok (.iconst 1, 1) := by decide +kernel
theorem dL_law_777 : decode cL_law 777 = .ok (.iadd, 1) := by decide +kernel
theorem dL_law_778 : decode cL_law 778 = .ok (.iaload, 1) := by decide +kernel
theorem dL_law_779 : decode cL_law 779 = .ok (.aload_n 3, 1) := by decide +kernel
theorem dL_law_780 : decode cL_law 780 = .ok (.invokestatic 115, 3) := by decide +kernel
theorem dL_law_783 : decode cL_law 783 = .ok (.istore 5, 2) := by decide +kernel
theorem dL_law_785 : decode cL_law 785 = .ok (.aload_n 2, 1) := by decide +kernel
theorem dL_law_786 : decode cL_law 786 = .ok (.aload_n 0, 1) := by decide +kernel
theorem dL_law_787 : decode cL_law 787 = .ok (.iload 4, 2) := by decide +kernel
theorem dL_law_789 : decode cL_law 789 = .ok (.iconst 1, 1) := by decide +kernel
theorem dL_law_790 : decode cL_law 790 = .ok (.iadd, 1) := by decide +kernel
theorem dL_law_791 : decode cL_law 791 = .ok (.iaload, 1) := by decide +kernel
theorem dL_law_792 : decode cL_law 792 = .ok (.invokevirtual 117, 3) := by decide +kernel
theorem dL_law_795 : decode cL_law 795 = .ok (.istore 6, 2) := by decide +kernel
theorem dL_law_797 : decode cL_law 797 = .ok (.aload_n 2, 1) := by decide +kernel
theorem dL_law_798 : decode cL_law 798 = .ok (.invokevirtual 82, 3) := by decide +kernel
theorem dL_law_801 : decode cL_law 801 = .ok (.iload 5, 2) := by decide +kernel
theorem dL_law_803 : decode cL_law 803 = .ok (.if_icmp .eq 5, 3) := by decide +kernel
theorem dL_law_806 : decode cL_law 806 = .ok (.iconst 0, 1) := by decide +kernel
theorem dL_law_807 : decode cL_law 807 = .ok (.ireturn, 1) := by decide +kernel
theorem dL_law_808 : decode cL_law 808 = .ok (.iload 5, 2) := by decide +kernel
theorem dL_law_810 : decode cL_law 810 = .ok (.ifCond .ne 15, 3) := by decide +kernel
theorem dL_law_813 : decode cL_law 813 = .ok (.aload_n 3, 1) := by decide +kernel
theorem dL_law_814 : decode cL_law 814 = .ok (.iconst 0, 1) := by decide +kernel
theorem dL_law_815 : decode cL_law 815 = .ok (.laload, 1) := by decide +kernel
theorem dL_law_816 : decode cL_law 816 = .ok (.iload 6, 2) := by decide +kernel
theorem dL_law_818 : decode cL_law 818 = .ok (.i2l, 1) := by decide +kernel
theorem dL_law_819 : decode cL_law 819 = .ok (.lcmp, 1) := by decide +kernel
theorem dL_law_820 : decode cL_law 820 = .ok (.ifCond .eq 5, 3) := by decide +kernel
theorem dL_law_823 : decode cL_law 823 = .ok (.iconst 0, 1) := by decide +kernel
theorem dL_law_824 : decode cL_law 824 = .ok (.ireturn, 1) := by decide +kernel
theorem dL_law_825 : decode cL_law 825 = .ok (.goto 436, 3) := by decide +kernel
theorem dL_law_828 : decode cL_law 828 = .ok (.aload_n 1, 1) := by decide +kernel
theorem dL_law_829 : decode cL_law 829 = .ok (.aload_n 0, 1) := by decide +kernel
theorem dL_law_830 : decode cL_law 830 = .ok (.iload 4, 2) := by decide +kernel
theorem dL_law_832 : decode cL_law 832 = .ok (.iconst 1, 1) := by decide +kernel
theorem dL_law_833 : decode cL_law 833 = .ok (.iadd, 1) := by decide +kernel
theorem dL_law_834 : decode cL_law 834 = .ok (.iaload, 1) := by decide +kernel
theorem dL_law_835 : decode cL_law 835 = .ok (.aload_n 0, 1) := by decide +kernel
theorem dL_law_836 : decode cL_law 836 = .ok (.iload 4, 2) := by decide +kernel
theorem dL_law_838 : decode cL_law 838 = .ok (.iconst 2, 1) := by decide +kernel
theorem dL_law_839 : decode cL_law 839 = .ok (.iadd, 1) := by decide +kernel
theorem dL_law_840 : decode cL_law 840 = .ok (.iaload, 1) := by decide +kernel
theorem dL_law_841 : decode cL_law 841 = .ok (.aload_n 3, 1) := by decide +kernel
theorem dL_law_842 : decode cL_law 842 = .ok (.invokestatic 118, 3) := by decide +kernel
theorem dL_law_845 : decode cL_law 845 = .ok (.istore 5, 2) := by decide +kernel
theorem dL_law_847 : decode cL_law 847 = .ok (.aload_n 2, 1) := by decide +kernel
theorem dL_law_848 : decode cL_law 848 = .ok (.aload_n 0, 1) := by decide +kernel
theorem dL_law_849 : decode cL_law 849 = .ok (.iload 4, 2) := by decide +kernel
theorem dL_law_851 : decode cL_law 851 = .ok (.iconst 1, 1) := by decide +kernel
theorem dL_law_852 : decode cL_law 852 = .ok (.iadd, 1) := by decide +kernel
theorem dL_law_853 : decode cL_law 853 = .ok (.iaload, 1) := by decide +kernel
theorem dL_law_854 : decode cL_law 854 = .ok (.aload_n 0, 1) := by decide +kernel
theorem dL_law_855 : decode cL_law 855 = .ok (.iload 4, 2) := by decide +kernel
theorem dL_law_857 : decode cL_law 857 = .ok (.iconst 2, 1) := by decide +kernel
theorem dL_law_858 : decode cL_law 858 = .ok (.iadd, 1) := by decide +kernel
theorem dL_law_859 : decode cL_law 859 = .ok (.iaload, 1) := by decide +kernel
theorem dL_law_860 : decode cL_law 860 = .ok (.invokevirtual 120, 3) := by decide +kernel
theorem dL_law_863 : decode cL_law 863 = .ok (.istore 6, 2) := by decide +kernel
theorem dL_law_865 : decode cL_law 865 = .ok (.aload_n 2, 1) := by decide +kernel
theorem dL_law_866 : decode cL_law 866 = .ok (.invokevirtual 82, 3) := by decide +kernel
theorem dL_law_869 : decode cL_law 869 = .ok (.iload 5, 2) := by decide +kernel
theorem dL_law_871 : decode cL_law 871 = .ok (.if_icmp .eq 5, 3) := by decide +kernel
theorem dL_law_874 : decode cL_law 874 = .ok (.iconst 0, 1) := by decide +kernel
theorem dL_law_875 : decode cL_law 875 = .ok (.ireturn, 1) := by decide +kernel
theorem dL_law_876 : decode cL_law 876 = .ok (.iload 5, 2) := by decide +kernel
theorem dL_law_878 : decode cL_law 878 = .ok (.ifCond .ne 15, 3) := by decide +kernel
theorem dL_law_881 : decode cL_law 881 = .ok (.aload_n 3, 1) := by decide +kernel
theorem dL_law_882 : decode cL_law 882 = .ok (.iconst 0, 1) := by decide +kernel
theorem dL_law_883 : decode cL_law 883 = .ok (.laload, 1) := by decide +kernel
theorem dL_law_884 : decode cL_law 884 = .ok (.iload 6, 2) := by decide +kernel
theorem dL_law_886 : decode cL_law 886 = .ok (.i2l, 1) := by decide +kernel
theorem dL_law_887 : decode cL_law 887 = .ok (.lcmp, 1) := by decide +kernel
theorem dL_law_888 : decode cL_law 888 = .ok (.ifCond .eq 5, 3) := by decide +kernel
theorem dL_law_891 : decode cL_law 891 = .ok (.iconst 0, 1) := by decide +kernel
theorem dL_law_892 : decode cL_law 892 = .ok (.ireturn, 1) := by decide +kernel
theorem dL_law_893 : decode cL_law 893 = .ok (.goto 368, 3) := by decide +kernel
theorem dL_law_896 : decode cL_law 896 = .ok (.aload_n 1, 1) := by decide +kernel
theorem dL_law_897 : decode cL_law 897 = .ok (.aload_n 0, 1) := by decide +kernel
theorem dL_law_898 : decode cL_law 898 = .ok (.iload 4, 2) := by decide +kernel
theorem dL_law_900 : decode cL_law 900 = .ok (.iconst 1, 1) := by decide +kernel
theorem dL_law_901 : decode cL_law 901 = .ok (.iadd, 1) := by decide +kernel
theorem dL_law_902 : decode cL_law 902 = .ok (.iaload, 1) := by decide +kernel
theorem dL_law_903 : decode cL_law 903 = .ok (.aload_n 0, 1) := by decide +kernel
theorem dL_law_904 : decode cL_law 904 = .ok (.iload 4, 2) := by decide +kernel
theorem dL_law_906 : decode cL_law 906 = .ok (.iconst 2, 1) := by decide +kernel
theorem dL_law_907 : decode cL_law 907 = .ok (.iadd, 1) := by decide +kernel
theorem dL_law_908 : decode cL_law 908 = .ok (.iaload, 1) := by decide +kernel
theorem dL_law_909 : decode cL_law 909 = .ok (.ifCond .eq 7, 3) := by decide +kernel
theorem dL_law_912 : decode cL_law 912 = .ok (.iconst 1, 1) := by decide +kernel
theorem dL_law_913 : decode cL_law 913 = .ok (.goto 4, 3) := by decide +kernel
theorem dL_law_916 : decode cL_law 916 = .ok (.iconst 0, 1) := by decide +kernel
theorem dL_law_917 : decode cL_law 917 = .ok (.aload_n 3, 1) := by decide +kernel
theorem dL_law_918 : decode cL_law 918 = .ok (.invokestatic 121, 3) := by decide +kernel
theorem dL_law_921 : decode cL_law 921 = .ok (.istore 5, 2) := by decide +kernel
theorem dL_law_923 : decode cL_law 923 = .ok (.aload_n 2, 1) := by decide +kernel
theorem dL_law_924 : decode cL_law 924 = .ok (.aload_n 0, 1) := by decide +kernel
theorem dL_law_925 : decode cL_law 925 = .ok (.iload 4, 2) := by decide +kernel
theorem dL_law_927 : decode cL_law 927 = .ok (.iconst 1, 1) := by decide +kernel
theorem dL_law_928 : decode cL_law 928 = .ok (.iadd, 1) := by decide +kernel
theorem dL_law_929 : decode cL_law 929 = .ok (.iaload, 1) := by decide +kernel
theorem dL_law_930 : decode cL_law 930 = .ok (.aload_n 0, 1) := by decide +kernel
theorem dL_law_931 : decode cL_law 931 = .ok (.iload 4, 2) := by decide +kernel
theorem dL_law_933 : decode cL_law 933 = .ok (.iconst 2, 1) := by decide +kernel
theorem dL_law_934 : decode cL_law 934 = .ok (.iadd, 1) := by decide +kernel
theorem dL_law_935 : decode cL_law 935 = .ok (.iaload, 1) := by decide +kernel
theorem dL_law_936 : decode cL_law 936 = .ok (.ifCond .eq 7, 3) := by decide +kernel
theorem dL_law_939 : decode cL_law 939 = .ok (.iconst 1, 1) := by decide +kernel
theorem dL_law_940 : decode cL_law 940 = .ok (.goto 4, 3) := by decide +kernel
theorem dL_law_943 : decode cL_law 943 = .ok (.iconst 0, 1) := by decide +kernel
theorem dL_law_944 : decode cL_law 944 = .ok (.invokevirtual 124, 3) := by decide +kernel
theorem dL_law_947 : decode cL_law 947 = .ok (.istore 6, 2) := by decide +kernel
theorem dL_law_949 : decode cL_law 949 = .ok (.aload_n 2, 1) := by decide +kernel
theorem dL_law_950 : decode cL_law 950 = .ok (.invokevirtual 82, 3) := by decide +kernel
theorem dL_law_953 : decode cL_law 953 = .ok (.iload 5, 2) := by decide +kernel
theorem dL_law_955 : decode cL_law 955 = .ok (.if_icmp .eq 5, 3) := by decide +kernel
theorem dL_law_958 : decode cL_law 958 = .ok (.iconst 0, 1) := by decide +kernel
theorem dL_law_959 : decode cL_law 959 = .ok (.ireturn, 1) := by decide +kernel
theorem dL_law_960 : decode cL_law 960 = .ok (.iload 5, 2) := by decide +kernel
theorem dL_law_962 : decode cL_law 962 = .ok (.ifCond .ne 15, 3) := by decide +kernel
theorem dL_law_965 : decode cL_law 965 = .ok (.aload_n 3, 1) := by decide +kernel
theorem dL_law_966 : decode cL_law 966 = .ok (.iconst 0, 1) := by decide +kernel
theorem dL_law_967 : decode cL_law 967 = .ok (.laload, 1) := by decide +kernel
theorem dL_law_968 : decode cL_law 968 = .ok (.iload 6, 2) := by decide +kernel
theorem dL_law_970 : decode cL_law 970 = .ok (.i2l, 1) := by decide +kernel
theorem dL_law_971 : decode cL_law 971 = .ok (.lcmp, 1) := by decide +kernel
theorem dL_law_972 : decode cL_law 972 = .ok (.ifCond .eq 5, 3) := by decide +kernel
theorem dL_law_975 : decode cL_law 975 = .ok (.iconst 0, 1) := by decide +kernel
theorem dL_law_976 : decode cL_law 976 = .ok (.ireturn, 1) := by decide +kernel
theorem dL_law_977 : decode cL_law 977 = .ok (.goto 284, 3) := by decide +kernel
theorem dL_law_980 : decode cL_law 980 = .ok (.aload_n 1, 1) := by decide +kernel
theorem dL_law_981 : decode cL_law 981 = .ok (.aload_n 0, 1) := by decide +kernel
theorem dL_law_982 : decode cL_law 982 = .ok (.iload 4, 2) := by decide +kernel
theorem dL_law_984 : decode cL_law 984 = .ok (.iconst 1, 1) := by decide +kernel
theorem dL_law_985 : decode cL_law 985 = .ok (.iadd, 1) := by decide +kernel
theorem dL_law_986 : decode cL_law 986 = .ok (.iaload, 1) := by decide +kernel
theorem dL_law_987 : decode cL_law 987 = .ok (.aload_n 3, 1) := by decide +kernel
theorem dL_law_988 : decode cL_law 988 = .ok (.invokestatic 125, 3) := by decide +kernel
theorem dL_law_991 : decode cL_law 991 = .ok (.istore 5, 2) := by decide +kernel
theorem dL_law_993 : decode cL_law 993 = .ok (.aload_n 2, 1) := by decide +kernel
theorem dL_law_994 : decode cL_law 994 = .ok (.aload_n 0, 1) := by decide +kernel
theorem dL_law_995 : decode cL_law 995 = .ok (.iload 4, 2) := by decide +kernel
theorem dL_law_997 : decode cL_law 997 = .ok (.iconst 1, 1) := by decide +kernel
theorem dL_law_998 : decode cL_law 998 = .ok (.iadd, 1) := by decide +kernel
theorem dL_law_999 : decode cL_law 999 = .ok (.iaload, 1) := by decide +kernel
theorem dL_law_1000 : decode cL_law 1000 = .ok (.invokevirtual 127, 3) := by decide +kernel
theorem dL_law_1003 : decode cL_law 1003 = .ok (.istore 6, 2) := by decide +kernel
theorem dL_law_1005 : decode cL_law 1005 = .ok (.aload_n 2, 1) := by decide +kernel
theorem dL_law_1006 : decode cL_law 1006 = .ok (.invokevirtual 82, 3) := by decide +kernel
theorem dL_law_1009 : decode cL_law 1009 = .ok (.iload 5, 2) := by decide +kernel
theorem dL_law_1011 : decode cL_law 1011 = .ok (.if_icmp .eq 5, 3) := by decide +kernel
theorem dL_law_1014 : decode cL_law 1014 = .ok (.iconst 0, 1) := by decide +kernel
theorem dL_law_1015 : decode cL_law 1015 = .ok (.ireturn, 1) := by decide +kernel
theorem dL_law_1016 : decode cL_law 1016 = .ok (.iload 5, 2) := by decide +kernel
theorem dL_law_1018 : decode cL_law 1018 = .ok (.ifCond .ne 15, 3) := by decide +kernel
theorem dL_law_1021 : decode cL_law 1021 = .ok (.aload_n 3, 1) := by decide +kernel
theorem dL_law_1022 : decode cL_law 1022 = .ok (.iconst 0, 1) := by decide +kernel
theorem dL_law_1023 : decode cL_law 1023 = .ok (.laload, 1) := by decide +kernel
theorem dL_law_1024 : decode cL_law 1024 = .ok (.iload 6, 2) := by decide +kernel
theorem dL_law_1026 : decode cL_law 1026 = .ok (.i2l, 1) := by decide +kernel
theorem dL_law_1027 : decode cL_law 1027 = .ok (.lcmp, 1) := by decide +kernel
theorem dL_law_1028 : decode cL_law 1028 = .ok (.ifCond .eq 5, 3) := by decide +kernel
theorem dL_law_1031 : decode cL_law 1031 = .ok (.iconst 0, 1) := by decide +kernel
theorem dL_law_1032 : decode cL_law 1032 = .ok (.ireturn, 1) := by decide +kernel
theorem dL_law_1033 : decode cL_law 1033 = .ok (.goto 228, 3) := by decide +kernel
theorem dL_law_1036 : decode cL_law 1036 = .ok (.aload_n 1, 1) := by decide +kernel
theorem dL_law_1037 : decode cL_law 1037 = .ok (.invokevirtual 128, 3) := by decide +kernel
theorem dL_law_1040 : decode cL_law 1040 = .ok (.aload_n 2, 1) := by decide +kernel
theorem dL_law_1041 : decode cL_law 1041 = .ok (.invokevirtual 131, 3) := by decide +kernel
theorem dL_law_1044 : decode cL_law 1044 = .ok (.if_icmp .eq 217, 3) := by decide +kernel
theorem dL_law_1047 : decode cL_law 1047 = .ok (.iconst 0, 1) := by decide +kernel
theorem dL_law_1048 : decode cL_law 1048 = .ok (.ireturn, 1) := by decide +kernel
theorem dL_law_1049 : decode cL_law 1049 = .ok (.aload_n 1, 1) := by decide +kernel
theorem dL_law_1050 : decode cL_law 1050 = .ok (.invokevirtual 132, 3) := by decide +kernel
theorem dL_law_1053 : decode cL_law 1053 = .ok (.aload_n 2, 1) := by decide +kernel
theorem dL_law_1054 : decode cL_law 1054 = .ok (.invokevirtual 135, 3) := by decide +kernel
theorem dL_law_1057 : decode cL_law 1057 = .ok (.if_icmp .eq 204, 3) := by decide +kernel
theorem dL_law_1060 : decode cL_law 1060 = .ok (.iconst 0, 1) := by decide +kernel
theorem dL_law_1061 : decode cL_law 1061 = .ok (.ireturn, 1) := by decide +kernel
theorem dL_law_1062 : decode cL_law 1062 = .ok (.aload_n 1, 1) := by decide +kernel
theorem dL_law_1063 : decode cL_law 1063 = .ok (.aload_n 0, 1) := by decide +kernel
theorem dL_law_1064 : decode cL_law 1064 = .ok (.iload 4, 2) := by decide +kernel
theorem dL_law_1066 : decode cL_law 1066 = .ok (.iconst 1, 1) := by decide +kernel
theorem dL_law_1067 : decode cL_law 1067 = .ok (.iadd, 1) := by decide +kernel
theorem dL_law_1068 : decode cL_law 1068 = .ok (.iaload, 1) := by decide +kernel
theorem dL_law_1069 : decode cL_law 1069 = .ok (.aload_n 0, 1) := by decide +kernel
theorem dL_law_1070 : decode cL_law 1070 = .ok (.iload 4, 2) := by decide +kernel
theorem dL_law_1072 : decode cL_law 1072 = .ok (.iconst 2, 1) := by decide +kernel
theorem dL_law_1073 : decode cL_law 1073 = .ok (.iadd, 1) := by decide +kernel
theorem dL_law_1074 : decode cL_law 1074 = .ok (.iaload, 1) := by decide +kernel
theorem dL_law_1075 : decode cL_law 1075 = .ok (.aload_n 3, 1) := by decide +kernel
theorem dL_law_1076 : decode cL_law 1076 = .ok (.invokestatic 136, 3) := by decide +kernel
theorem dL_law_1079 : decode cL_law 1079 = .ok (.istore 5, 2) := by decide +kernel
theorem dL_law_1081 : decode cL_law 1081 = .ok (.aload_n 2, 1) := by decide +kernel
theorem dL_law_1082 : decode cL_law 1082 = .ok (.aload_n 0, 1) := by decide +kernel
theorem dL_law_1083 : decode cL_law 1083 = .ok (.iload 4, 2) := by decide +kernel
theorem dL_law_1085 : decode cL_law 1085 = .ok (.iconst 1, 1) := by decide +kernel
theorem dL_law_1086 : decode cL_law 1086 = .ok (.iadd, 1) := by decide +kernel
theorem dL_law_1087 : decode cL_law 1087 = .ok (.iaload, 1) := by decide +kernel
theorem dL_law_1088 : decode cL_law 1088 = .ok (.aload_n 0, 1) := by decide +kernel
theorem dL_law_1089 : decode cL_law 1089 = .ok (.iload 4, 2) := by decide +kernel
theorem dL_law_1091 : decode cL_law 1091 = .ok (.iconst 2, 1) := by decide +kernel
theorem dL_law_1092 : decode cL_law 1092 = .ok (.iadd, 1) := by decide +kernel
theorem dL_law_1093 : decode cL_law 1093 = .ok (.iaload, 1) := by decide +kernel
theorem dL_law_1094 : decode cL_law 1094 = .ok (.invokevirtual 138, 3) := by decide +kernel
theorem dL_law_1097 : decode cL_law 1097 = .ok (.istore 6, 2) := by decide +kernel
theorem dL_law_1099 : decode cL_law 1099 = .ok (.aload_n 2, 1) := by decide +kernel
theorem dL_law_1100 : decode cL_law 1100 = .ok (.invokevirtual 82, 3) := by decide +kernel
theorem dL_law_1103 : decode cL_law 1103 = .ok (.iload 5, 2) := by decide +kernel
theorem dL_law_1105 : decode cL_law 1105 = .ok (.if_icmp .eq 5, 3) := by decide +kernel
theorem dL_law_1108 : decode cL_law 1108 = .ok (.iconst 0, 1) := by decide +kernel
theorem dL_law_1109 : decode cL_law 1109 = .ok (.ireturn, 1) := by decide +kernel
theorem dL_law_1110 : decode cL_law 1110 = .ok (.iload 5, 2) := by decide +kernel
theorem dL_law_1112 : decode cL_law 1112 = .ok (.ifCond .ne 15, 3) := by decide +kernel
theorem dL_law_1115 : decode cL_law 1115 = .ok (.aload_n 3, 1) := by decide +kernel
theorem dL_law_1116 : decode cL_law 1116 = .ok (.iconst 0, 1) := by decide +kernel
theorem dL_law_1117 : decode cL_law 1117 = .ok (.laload, 1) := by decide +kernel
theorem dL_law_1118 : decode cL_law 1118 = .ok (.iload 6, 2) := by decide +kernel
theorem dL_law_1120 : decode cL_law 1120 = .ok (.i2l, 1) := by decide +kernel
theorem dL_law_1121 : decode cL_law 1121 = .ok (.lcmp, 1) := by decide +kernel
theorem dL_law_1122 : decode cL_law 1122 = .ok (.ifCond .eq 5, 3) := by decide +kernel
theorem dL_law_1125 : decode cL_law 1125 = .ok (.iconst 0, 1) := by decide +kernel
theorem dL_law_1126 : decode cL_law 1126 = .ok (.ireturn, 1) := by decide +kernel
theorem dL_law_1127 : decode cL_law 1127 = .ok (.goto 134, 3) := by decide +kernel
theorem dL_law_1130 : decode cL_law 1130 = .ok (.aload_n 1, 1) := by decide +kernel
theorem dL_law_1131 : decode cL_law 1131 = .ok (.aload_n 0, 1) := by decide +kernel
theorem dL_law_1132 : decode cL_law 1132 = .ok (.iload 4, 2) := by decide +kernel
theorem dL_law_1134 : decode cL_law 1134 = .ok (.iconst 1, 1) := by decide +kernel
theorem dL_law_1135 : decode cL_law 1135 = .ok (.iadd, 1) := by decide +kernel
theorem dL_law_1136 : decode cL_law 1136 = .ok (.iaload, 1) := by decide +kernel
theorem dL_law_1137 : decode cL_law 1137 = .ok (.aload_n 0, 1) := by decide +kernel
theorem dL_law_1138 : decode cL_law 1138 = .ok (.iload 4, 2) := by decide +kernel
theorem dL_law_1140 : decode cL_law 1140 = .ok (.iconst 2, 1) := by decide +kernel
theorem dL_law_1141 : decode cL_law 1141 = .ok (.iadd, 1) := by decide +kernel
theorem dL_law_1142 : decode cL_law 1142 = .ok (.iaload, 1) := by decide +kernel
theorem dL_law_1143 : decode cL_law 1143 = .ok (.aload_n 3, 1) := by decide +kernel
theorem dL_law_1144 : decode cL_law 1144 = .ok (.invokestatic 139, 3) := by decide +kernel
theorem dL_law_1147 : decode cL_law 1147 = .ok (.istore 5, 2) := by decide +kernel
theorem dL_law_1149 : decode cL_law 1149 = .ok (.aload_n 2, 1) := by decide +kernel
theorem dL_law_1150 : decode cL_law 1150 = .ok (.aload_n 0, 1) := by decide +kernel
theorem dL_law_1151 : decode cL_law 1151 = .ok (.iload 4, 2) := by decide +kernel
theorem dL_law_1153 : decode cL_law 1153 = .ok (.iconst 1, 1) := by decide +kernel
theorem dL_law_1154 : decode cL_law 1154 = .ok (.iadd, 1) := by decide +kernel
theorem dL_law_1155 : decode cL_law 1155 = .ok (.iaload, 1) := by decide +kernel
theorem dL_law_1156 : decode cL_law 1156 = .ok (.aload_n 0, 1) := by decide +kernel
theorem dL_law_1157 : decode cL_law 1157 = .ok (.iload 4, 2) := by decide +kernel
theorem dL_law_1159 : decode cL_law 1159 = .ok (.iconst 2, 1) := by decide +kernel
theorem dL_law_1160 : decode cL_law 1160 = .ok (.iadd, 1) := by decide +kernel
theorem dL_law_1161 : decode cL_law 1161 = .ok (.iaload, 1) := by decide +kernel
theorem dL_law_1162 : decode cL_law 1162 = .ok (.invokevirtual 141, 3) := by decide +kernel
theorem dL_law_1165 : decode cL_law 1165 = .ok (.istore 6, 2) := by decide +kernel
theorem dL_law_1167 : decode cL_law 1167 = .ok (.aload_n 2, 1) := by decide +kernel
theorem dL_law_1168 : decode cL_law 1168 = .ok (.invokevirtual 82, 3) := by decide +kernel
theorem dL_law_1171 : decode cL_law 1171 = .ok (.iload 5, 2) := by decide +kernel
theorem dL_law_1173 : decode cL_law 1173 = .ok (.if_icmp .eq 5, 3) := by decide +kernel
theorem dL_law_1176 : decode cL_law 1176 = .ok (.iconst 0, 1) := by decide +kernel
theorem dL_law_1177 : decode cL_law 1177 = .ok (.ireturn, 1) := by decide +kernel
theorem dL_law_1178 : decode cL_law 1178 = .ok (.iload 5, 2) := by decide +kernel
theorem dL_law_1180 : decode cL_law 1180 = .ok (.ifCond .ne 22, 3) := by decide +kernel
theorem dL_law_1183 : decode cL_law 1183 = .ok (.aload_n 3, 1) := by decide +kernel
theorem dL_law_1184 : decode cL_law 1184 = .ok (.iconst 0, 1) := by decide +kernel
theorem dL_law_1185 : decode cL_law 1185 = .ok (.laload, 1) := by decide +kernel
theorem dL_law_1186 : decode cL_law 1186 = .ok (.iload 6, 2) := by decide +kernel
theorem dL_law_1188 : decode cL_law 1188 = .ok (.ifCond .eq 7, 3) := by decide +kernel
theorem dL_law_1191 : decode cL_law 1191 = .ok (.lconst 1, 1) := by decide +kernel
theorem dL_law_1192 : decode cL_law 1192 = .ok (.goto 4, 3) := by decide +kernel
theorem dL_law_1195 : decode cL_law 1195 = .ok (.lconst 0, 1) := by decide +kernel
theorem dL_law_1196 : decode cL_law 1196 = .ok (.lcmp, 1) := by decide +kernel
theorem dL_law_1197 : decode cL_law 1197 = .ok (.ifCond .eq 5, 3) := by decide +kernel
theorem dL_law_1200 : decode cL_law 1200 = .ok (.iconst 0, 1) := by decide +kernel
theorem dL_law_1201 : decode cL_law 1201 = .ok (.ireturn, 1) := by decide +kernel
theorem dL_law_1202 : decode cL_law 1202 = .ok (.goto 59, 3) := by decide +kernel
theorem dL_law_1205 : decode cL_law 1205 = .ok (.aload_n 1, 1) := by decide +kernel
theorem dL_law_1206 : decode cL_law 1206 = .ok (.aload_n 0, 1) := by decide +kernel
theorem dL_law_1207 : decode cL_law 1207 = .ok (.iload 4, 2) := by decide +kernel
theorem dL_law_1209 : decode cL_law 1209 = .ok (.iconst 1, 1) := by decide +kernel
theorem dL_law_1210 : decode cL_law 1210 = .ok (.iadd, 1) := by decide +kernel
theorem dL_law_1211 : decode cL_law 1211 = .ok (.iaload, 1) := by decide +kernel
theorem dL_law_1212 : decode cL_law 1212 = .ok (.aload_n 3, 1) := by decide +kernel
theorem dL_law_1213 : decode cL_law 1213 = .ok (.invokestatic 142, 3) := by decide +kernel
theorem dL_law_1216 : decode cL_law 1216 = .ok (.istore 5, 2) := by decide +kernel
theorem dL_law_1218 : decode cL_law 1218 = .ok (.aload_n 2, 1) := by decide +kernel
theorem dL_law_1219 : decode cL_law 1219 = .ok (.aload_n 0, 1) := by decide +kernel
theorem dL_law_1220 : decode cL_law 1220 = .ok (.iload 4, 2) := by decide +kernel
theorem dL_law_1222 : decode cL_law 1222 = .ok (.iconst 1, 1) := by decide +kernel
theorem dL_law_1223 : decode cL_law 1223 = .ok (.iadd, 1) := by decide +kernel
theorem dL_law_1224 : decode cL_law 1224 = .ok (.iaload, 1) := by decide +kernel
theorem dL_law_1225 : decode cL_law 1225 = .ok (.invokevirtual 144, 3) := by decide +kernel
theorem dL_law_1228 : decode cL_law 1228 = .ok (.istore 6, 2) := by decide +kernel
theorem dL_law_1230 : decode cL_law 1230 = .ok (.aload_n 2, 1) := by decide +kernel
theorem dL_law_1231 : decode cL_law 1231 = .ok (.invokevirtual 82, 3) := by decide +kernel
theorem dL_law_1234 : decode cL_law 1234 = .ok (.iload 5, 2) := by decide +kernel
theorem dL_law_1236 : decode cL_law 1236 = .ok (.if_icmp .eq 5, 3) := by decide +kernel
theorem dL_law_1239 : decode cL_law 1239 = .ok (.iconst 0, 1) := by decide +kernel
theorem dL_law_1240 : decode cL_law 1240 = .ok (.ireturn, 1) := by decide +kernel
theorem dL_law_1241 : decode cL_law 1241 = .ok (.iload 5, 2) := by decide +kernel
theorem dL_law_1243 : decode cL_law 1243 = .ok (.ifCond .ne 15, 3) := by decide +kernel
theorem dL_law_1246 : decode cL_law 1246 = .ok (.aload_n 3, 1) := by decide +kernel
theorem dL_law_1247 : decode cL_law 1247 = .ok (.iconst 0, 1) := by decide +kernel
theorem dL_law_1248 : decode cL_law 1248 = .ok (.laload, 1) := by decide +kernel
theorem dL_law_1249 : decode cL_law 1249 = .ok (.iload 6, 2) := by decide +kernel
theorem dL_law_1251 : decode cL_law 1251 = .ok (.i2l, 1) := by decide +kernel
theorem dL_law_1252 : decode cL_law 1252 = .ok (.lcmp, 1) := by decide +kernel
theorem dL_law_1253 : decode cL_law 1253 = .ok (.ifCond .eq 5, 3) := by decide +kernel
theorem dL_law_1256 : decode cL_law 1256 = .ok (.iconst 0, 1) := by decide +kernel
theorem dL_law_1257 : decode cL_law 1257 = .ok (.ireturn, 1) := by decide +kernel
theorem dL_law_1258 : decode cL_law 1258 = .ok (.goto 3, 3) := by decide +kernel
theorem dL_law_1261 : decode cL_law 1261 = .ok (.iinc 4 4, 3) := by decide +kernel
theorem dL_law_1264 : decode cL_law 1264 = .ok (.goto (-1241), 3) := by decide +kernel
theorem dL_law_1267 : decode cL_law 1267 = .ok (.iconst 1, 1) := by decide +kernel
theorem dL_law_1268 : decode cL_law 1268 = .ok (.ireturn, 1) := by decide +kernel
abbrev vwCl : List vw_C := [(RX0, TX0, 11), (RX1, TX1, 4), (RX2, TX2, 6), (RX3, TX3, 18)]
