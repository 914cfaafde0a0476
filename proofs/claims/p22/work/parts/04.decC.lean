theorem dL_isRedeemed_51 : decode cL_isRedeemed 51 = .ok (.iload 4, 2) := by decide +kernel
theorem dL_isRedeemed_53 : decode cL_isRedeemed 53 = .ok (.iadd, 1) := by decide +kernel
theorem dL_isRedeemed_54 : decode cL_isRedeemed 54 = .ok (.iaload, 1) := by decide +kernel
theorem dL_isRedeemed_55 : decode cL_isRedeemed 55 = .ok (.invokevirtual 47, 3) := by decide +kernel
theorem dL_isRedeemed_58 : decode cL_isRedeemed 58 = .ok (.istore 5, 2) := by decide +kernel
theorem dL_isRedeemed_60 : decode cL_isRedeemed 60 = .ok (.iload 5, 2) := by decide +kernel
theorem dL_isRedeemed_62 : decode cL_isRedeemed 62 = .ok (.bipush 49, 2) := by decide +kernel
theorem dL_isRedeemed_64 : decode cL_isRedeemed 64 = .ok (.if_icmp .le 7, 3) := by decide +kernel
theorem dL_isRedeemed_67 : decode cL_isRedeemed 67 = .ok (.iconst 1, 1) := by decide +kernel
theorem dL_isRedeemed_68 : decode cL_isRedeemed 68 = .ok (.goto 4, 3) := by decide +kernel
theorem dL_isRedeemed_71 : decode cL_isRedeemed 71 = .ok (.iconst 0, 1) := by decide +kernel
theorem dL_isRedeemed_72 : decode cL_isRedeemed 72 = .ok (.istore 6, 2) := by decide +kernel
theorem dL_isRedeemed_74 : decode cL_isRedeemed 74 = .ok (.iload 6, 2) := by decide +kernel
theorem dL_isRedeemed_76 : decode cL_isRedeemed 76 = .ok (.ifCond .eq 35, 3) := by decide +kernel
theorem dL_isRedeemed_79 : decode cL_isRedeemed 79 = .ok (.aload_n 1, 1) := by decide +kernel
theorem dL_isRedeemed_80 : decode cL_isRedeemed 80 = .ok (.iload 4, 2) := by decide +kernel
theorem dL_isRedeemed_82 : decode cL_isRedeemed 82 = .ok (.iconst 2, 1) := by decide +kernel
theorem dL_isRedeemed_83 : decode cL_isRedeemed 83 = .ok (.iastore, 1) := by decide +kernel
theorem dL_isRedeemed_84 : decode cL_isRedeemed 84 = .ok (.aload_n 1, 1) := by decide +kernel
theorem dL_isRedeemed_85 : decode cL_isRedeemed 85 = .ok (.bipush 32, 2) := by decide +kernel
theorem dL_isRedeemed_87 : decode cL_isRedeemed 87 = .ok (.iload 4, 2) := by decide +kernel
theorem dL_isRedeemed_89 : decode cL_isRedeemed 89 = .ok (.iadd, 1) := by decide +kernel
theorem dL_isRedeemed_90 : decode cL_isRedeemed 90 = .ok (.aload_n 3, 1) := by decide +kernel
theorem dL_isRedeemed_91 : decode cL_isRedeemed 91 = .ok (.iconst 0, 1) := by decide +kernel
theorem dL_isRedeemed_92 : decode cL_isRedeemed 92 = .ok (.iaload, 1) := by decide +kernel
theorem dL_isRedeemed_93 : decode cL_isRedeemed 93 = .ok (.bipush 100, 2) := by decide +kernel
theorem dL_isRedeemed_95 : decode cL_isRedeemed 95 = .ok (.iadd, 1) := by decide +kernel
theorem dL_isRedeemed_96 : decode cL_isRedeemed 96 = .ok (.iastore, 1) := by decide +kernel
theorem dL_isRedeemed_97 : decode cL_isRedeemed 97 = .ok (.aload_n 2, 1) := by decide +kernel
theorem dL_isRedeemed_98 : decode cL_isRedeemed 98 = .ok (.iload 4, 2) := by decide +kernel
theorem dL_isRedeemed_100 : decode cL_isRedeemed 100 = .ok (.iconst 0, 1) := by decide +kernel
theorem dL_isRedeemed_101 : decode cL_isRedeemed 101 = .ok (.iastore, 1) := by decide +kernel
theorem dL_isRedeemed_102 : decode cL_isRedeemed 102 = .ok (.aload_n 2, 1) := by decide +kernel
theorem dL_isRedeemed_103 : decode cL_isRedeemed 103 = .ok (.bipush 16, 2) := by decide +kernel
theorem dL_isRedeemed_105 : decode cL_isRedeemed 105 = .ok (.iload 4, 2) := by decide +kernel
theorem dL_isRedeemed_107 : decode cL_isRedeemed 107 = .ok (.iadd, 1) := by decide +kernel
theorem dL_isRedeemed_108 : decode cL_isRedeemed 108 = .ok (.bipush 10, 2) := by decide +kernel
theorem dL_isRedeemed_110 : decode cL_isRedeemed 110 = .ok (.iastore, 1) := by decide +kernel
theorem dL_isRedeemed_111 : decode cL_isRedeemed 111 = .ok (.aload_n 0, 1) := by decide +kernel
theorem dL_isRedeemed_112 : decode cL_isRedeemed 112 = .ok (.iconst 3, 1) := by decide +kernel
theorem dL_isRedeemed_113 : decode cL_isRedeemed 113 = .ok (.iload 4, 2) := by decide +kernel
theorem dL_isRedeemed_115 : decode cL_isRedeemed 115 = .ok (.iconst 0, 1) := by decide +kernel
theorem dL_isRedeemed_116 : decode cL_isRedeemed 116 = .ok (.iconst 0, 1) := by decide +kernel
theorem dL_isRedeemed_117 : decode cL_isRedeemed 117 = .ok (.invokestatic 87, 3) := by decide +kernel
theorem dL_isRedeemed_120 : decode cL_isRedeemed 120 = .ok (.iload 6, 2) := by decide +kernel
theorem dL_isRedeemed_122 : decode cL_isRedeemed 122 = .ok (.ifCond .eq 12, 3) := by decide +kernel
theorem dL_isRedeemed_125 : decode cL_isRedeemed 125 = .ok (.aload_n 3, 1) := by decide +kernel
theorem dL_isRedeemed_126 : decode cL_isRedeemed 126 = .ok (.iconst 0, 1) := by decide +kernel
theorem dL_isRedeemed_127 : decode cL_isRedeemed 127 = .ok (.iaload, 1) := by decide +kernel
theorem dL_isRedeemed_128 : decode cL_isRedeemed 128 = .ok (.bipush 100, 2) := by decide +kernel
theorem dL_isRedeemed_130 : decode cL_isRedeemed 130 = .ok (.iadd, 1) := by decide +kernel
theorem dL_isRedeemed_131 : decode cL_isRedeemed 131 = .ok (.goto 5, 3) := by decide +kernel
theorem dL_isRedeemed_134 : decode cL_isRedeemed 134 = .ok (.bipush (-10), 2) := by decide +kernel
theorem dL_isRedeemed_136 : decode cL_isRedeemed 136 = .ok (.if_icmp .ne 35, 3) := by decide +kernel
theorem dL_isRedeemed_139 : decode cL_isRedeemed 139 = .ok (.aload_n 0, 1) := by decide +kernel
theorem dL_isRedeemed_140 : decode cL_isRedeemed 140 = .ok (.aload_n 1, 1) := by decide +kernel
theorem dL_isRedeemed_141 : decode cL_isRedeemed 141 = .ok (.bipush 16, 2) := by decide +kernel
theorem dL_isRedeemed_143 : decode cL_isRedeemed 143 = .ok (.iload 4, 2) := by decide +kernel
theorem dL_isRedeemed_145 : decode cL_isRedeemed 145 = .ok (.iadd, 1) := by decide +kernel
theorem dL_isRedeemed_146 : decode cL_isRedeemed 146 = .ok (.iaload, 1) := by decide +kernel
theorem dL_isRedeemed_147 : decode cL_isRedeemed 147 = .ok (.invokevirtual 47, 3) := by decide +kernel
theorem dL_isRedeemed_150 : decode cL_isRedeemed 150 = .ok (.iload 5, 2) := by decide +kernel
theorem dL_isRedeemed_152 : decode cL_isRedeemed 152 = .ok (.iload 6, 2) := by decide +kernel
theorem dL_isRedeemed_154 : decode cL_isRedeemed 154 = .ok (.ifCond .eq 8, 3) := by decide +kernel
theorem dL_isRedeemed_157 : decode cL_isRedeemed 157 = .ok (.bipush 50, 2) := by decide +kernel
theorem dL_isRedeemed_159 : decode cL_isRedeemed 159 = .ok (.goto 4, 3) := by decide +kernel
theorem dL_isRedeemed_162 : decode cL_isRedeemed 162 = .ok (.iconst 0, 1) := by decide +kernel
theorem dL_isRedeemed_163 : decode cL_isRedeemed 163 = .ok (.isub, 1) := by decide +kernel
theorem dL_isRedeemed_164 : decode cL_isRedeemed 164 = .ok (.if_icmp .ne 7, 3) := by decide +kernel
theorem dL_isRedeemed_167 : decode cL_isRedeemed 167 = .ok (.iconst 1, 1) := by decide +kernel
theorem dL_isRedeemed_168 : decode cL_isRedeemed 168 = .ok (.goto 4, 3) := by decide +kernel
theorem dL_isRedeemed_171 : decode cL_isRedeemed 171 = .ok (.iconst 0, 1) := by decide +kernel
theorem dL_isRedeemed_172 : decode cL_isRedeemed 172 = .ok (.ireturn, 1) := by decide +kernel
set_option maxRecDepth 20000 in
theorem ggL_isRecord_L_does : GoodIn wsL_isRecord wsL_does := goodIn_ca (goodIn_ca (goodIn_ca (goodIn_r _ [4, 5, 6, 7, 8, 9, 10, 11, 12, 13, 14, 15, 16, 17, 18, 19, 20, 21, 22, 23, 24, 25, 26, 27, 28, 29, 30, 31, 32, 33, 34, 35, 36, 37, 38, 39, 40, 41, 42, 43, 44, 45, 46, 47, 48, 49, 50, 51, 52, 53, 54, 55, 56, 57, 58, 59, 60, 61, 62, 63, 64, 65, 66, 67, 68, 69, 70, 71, 72, 73, 74, 75, 76, 77, 78, 79, 80, 81, 82, 83, 84, 85, 86, 87, 88, 89, 90, 91, 92, 93, 94, 95, 96, 97, 98, 99, 100, 101, 102, 103, 104, 105, 106, 107, 108, 109, 110, 111, 112, 113, 114, 115, 116, 117, 118, 119, 120, 121, 122, 123, 124, 125, 126, 127, 128, 129, 130, 131, 132, 133, 134, 135, 136, 137, 138, 139, 140, 141, 142, 143, 144, 145, 146, 147, 148, 149, 150, 151, 152, 153, 154, 155, 156, 157, 158, 159, 160, 161] (by decide +kernel) (by decide +kernel)) (goodIn_sub (fun _ h => List.mem_cons_of_mem _ (List.mem_append_left _ (List.mem_append_left _ (List.mem_append_right _ h)))) (by decide +kernel))) (goodIn_sub (fun _ h => List.mem_cons_of_mem _ (List.mem_append_left _ (List.mem_append_right _ h))) (by decide +kernel))) (goodIn_sub (fun _ h => List.mem_cons_of_mem _ (List.mem_append_right _ h)) (by decide +kernel))
set_option maxRecDepth 20000 in
theorem gL_isRecord_L_does : GoodIn wsL_isRecord (va_wsS RL 87 yL_does wsL_does) := goodIn_app (goodIn_of _ (by decide +kernel)) ggL_isRecord_L_does
theorem dL_isRecord_0 : decode cL_isRecord 0 = .ok (.iload 4, 2) := by decide +kernel
theorem dL_isRecord_2 : decode cL_isRecord 2 = .ok (.sipush 1000, 3) := by decide +kernel
theorem dL_isRecord_5 : decode cL_isRecord 5 = .ok (.if_icmp .ge 19, 3) := by decide +kernel
theorem dL_isRecord_8 : decode cL_isRecord 8 = .ok (.iload 5, 2) := by decide +kernel
theorem dL_isRecord_10 : decode cL_isRecord 10 = .ok (.ifCond .le 14, 3) := by decide +kernel
theorem dL_isRecord_13 : decode cL_isRecord 13 = .ok (.iload 5, 2) := by decide +kernel
theorem dL_isRecord_15 : decode cL_isRecord 15 = .ok (.bipush 51, 2) := by decide +kernel
theorem dL_isRecord_17 : decode cL_isRecord 17 = .ok (.if_icmp .ge 7, 3) := by decide +kernel
theorem dL_isRecord_20 : decode cL_isRecord 20 = .ok (.iconst 1, 1) := by decide +kernel
theorem dL_isRecord_21 : decode cL_isRecord 21 = .ok (.goto 4, 3) := by decide +kernel
theorem dL_isRecord_24 : decode cL_isRecord 24 = .ok (.iconst 0, 1) := by decide +kernel
theorem dL_isRecord_25 : decode cL_isRecord 25 = .ok (.istore 6, 2) := by decide +kernel
theorem dL_isRecord_27 : decode cL_isRecord 27 = .ok (.iload_n 3, 1) := by decide +kernel
theorem dL_isRecord_28 : decode cL_isRecord 28 = .ok (.bipush 16, 2) := by decide +kernel
theorem dL_isRecord_30 : decode cL_isRecord 30 = .ok (.if_icmp .ne 8, 3) := by decide +kernel
theorem dL_isRecord_33 : decode cL_isRecord 33 = .ok (.bipush (-30), 2) := by decide +kernel
theorem dL_isRecord_35 : decode cL_isRecord 35 = .ok (.goto 28, 3) := by decide +kernel
theorem dL_isRecord_38 : decode cL_isRecord 38 = .ok (.iload 6, 2) := by decide +kernel
theorem dL_isRecord_40 : decode cL_isRecord 40 = .ok (.ifCond .ne 8, 3) := by decide +kernel
theorem dL_isRecord_43 : decode cL_isRecord 43 = .ok (.bipush (-20), 2) := by decide +kernel
theorem dL_isRecord_45 : decode cL_isRecord 45 = .ok (.goto 18, 3) := by decide +kernel
theorem dL_isRecord_48 : decode cL_isRecord 48 = .ok (.aload_n 1, 1) := by decide +kernel
theorem dL_isRecord_49 : decode cL_isRecord 49 = .ok (.iload_n 3, 1) := by decide +kernel
theorem dL_isRecord_50 : decode cL_isRecord 50 = .ok (.iaload, 1) := by decide +kernel
theorem dL_isRecord_51 : decode cL_isRecord 51 = .ok (.iconst 2, 1) := by decide +kernel
theorem dL_isRecord_52 : decode cL_isRecord 52 = .ok (.if_icmp .eq 8, 3) := by decide +kernel
theorem dL_isRecord_55 : decode cL_isRecord 55 = .ok (.bipush (-10), 2) := by decide +kernel
theorem dL_isRecord_57 : decode cL_isRecord 57 = .ok (.goto 6, 3) := by decide +kernel
theorem dL_isRecord_60 : decode cL_isRecord 60 = .ok (.aload_n 2, 1) := by decide +kernel
theorem dL_isRecord_61 : decode cL_isRecord 61 = .ok (.iload_n 3, 1) := by decide +kernel
theorem dL_isRecord_62 : decode cL_isRecord 62 = .ok (.iaload, 1) := by decide +kernel
theorem dL_isRecord_63 : decode cL_isRecord 63 = .ok (.istore 7, 2) := by decide +kernel
theorem dL_isRecord_65 : decode cL_isRecord 65 = .ok (.iload 7, 2) := by decide +kernel
theorem dL_isRecord_67 : decode cL_isRecord 67 = .ok (.ifCond .lt 16, 3) := by decide +kernel
theorem dL_isRecord_70 : decode cL_isRecord 70 = .ok (.aload_n 2, 1) := by decide +kernel
theorem dL_isRecord_71 : decode cL_isRecord 71 = .ok (.iload_n 3, 1) := by decide +kernel
theorem dL_isRecord_72 : decode cL_isRecord 72 = .ok (.iload 4, 2) := by decide +kernel
theorem dL_isRecord_74 : decode cL_isRecord 74 = .ok (.iastore, 1) := by decide +kernel
theorem dL_isRecord_75 : decode cL_isRecord 75 = .ok (.aload_n 2, 1) := by decide +kernel
theorem dL_isRecord_76 : decode cL_isRecord 76 = .ok (.bipush 16, 2) := by decide +kernel
theorem dL_isRecord_78 : decode cL_isRecord 78 = .ok (.iload_n 3, 1) := by decide +kernel
theorem dL_isRecord_79 : decode cL_isRecord 79 = .ok (.iadd, 1) := by decide +kernel
theorem dL_isRecord_80 : decode cL_isRecord 80 = .ok (.iload 5, 2) := by decide +kernel
theorem dL_isRecord_82 : decode cL_isRecord 82 = .ok (.iastore, 1) := by decide +kernel
theorem dL_isRecord_83 : decode cL_isRecord 83 = .ok (.aload_n 0, 1) := by decide +kernel
theorem dL_isRecord_84 : decode cL_isRecord 84 = .ok (.iconst 4, 1) := by decide +kernel
theorem dL_isRecord_85 : decode cL_isRecord 85 = .ok (.iload_n 3, 1) := by decide +kernel
theorem dL_isRecord_86 : decode cL_isRecord 86 = .ok (.iload 4, 2) := by decide +kernel
theorem dL_isRecord_88 : decode cL_isRecord 88 = .ok (.iload 5, 2) := by decide +kernel
theorem dL_isRecord_90 : decode cL_isRecord 90 = .ok (.invokestatic 87, 3) := by decide +kernel
theorem dL_isRecord_93 : decode cL_isRecord 93 = .ok (.iload 7, 2) := by decide +kernel
theorem dL_isRecord_95 : decode cL_isRecord 95 = .ok (.if_icmp .ne 7, 3) := by decide +kernel
theorem dL_isRecord_98 : decode cL_isRecord 98 = .ok (.iconst 1, 1) := by decide +kernel
theorem dL_isRecord_99 : decode cL_isRecord 99 = .ok (.goto 4, 3) := by decide +kernel
theorem dL_isRecord_102 : decode cL_isRecord 102 = .ok (.iconst 0, 1) := by decide +kernel
theorem dL_isRecord_103 : decode cL_isRecord 103 = .ok (.ireturn, 1) := by decide +kernel
set_option maxRecDepth 20000 in
theorem ggL_isDisputed_L_does : GoodIn wsL_isDisputed wsL_does := goodIn_ca (goodIn_ca (goodIn_ca (goodIn_r _ [4, 5, 6, 7, 8, 9, 10, 11, 12, 13, 14, 15, 16, 17, 18, 19, 20, 21, 22, 23, 24, 25, 26, 27, 28, 29, 30, 31, 32, 33, 34, 35, 36, 37, 38, 39, 40, 41, 42, 43, 44, 45, 46, 47, 48, 49, 50, 51, 52, 53, 54, 55, 56, 57, 58, 59, 60, 61, 62, 63, 64, 65, 66, 67, 68, 69, 70, 71, 72, 73, 74, 75, 76, 77, 78, 79, 80, 81, 82, 83, 84, 85, 86, 87, 88, 89, 90, 91, 92, 93, 94, 95, 96, 97, 98, 99, 100, 101, 102, 103, 104, 105, 106, 107, 108, 109, 110, 111, 112, 113, 114, 115, 116, 117, 118, 119, 120, 121, 122, 123, 124, 125, 126, 127, 128, 129, 130, 131, 132, 133, 134, 135, 136, 137, 138, 139, 140, 141, 142, 143, 144, 145, 146, 147, 148, 149, 150, 151, 152, 153, 154, 155, 156, 157, 158, 159, 160, 161] (by decide +kernel) (by decide +kernel)) (goodIn_sub (fun _ h => List.mem_cons_of_mem _ (List.mem_append_left _ (List.mem_append_left _ (List.mem_append_right _ h)))) (by decide +kernel))) (goodIn_sub (fun _ h => List.mem_cons_of_mem _ (List.mem_append_left _ (List.mem_append_right _ h))) (by decide +kernel))) (goodIn_sub (fun _ h => List.mem_cons_of_mem _ (List.mem_append_right _ h)) (by decide +kernel))
set_option maxRecDepth 20000 in
theorem gL_isDisputed_L_does : GoodIn wsL_isDisputed (va_wsS RL 87 yL_does wsL_does) := goodIn_app (goodIn_of _ (by decide +kernel)) ggL_isDisputed_L_does
theorem dL_isDisputed_0 : decode cL_isDisputed 0 = .ok (.iload_n 3, 1) := by decide +kernel
theorem dL_isDisputed_1 : decode cL_isDisputed 1 = .ok (.bipush 6, 2) := by decide +kernel
theorem dL_isDisputed_3 : decode cL_isDisputed 3 = .ok (.if_icmp .ge 14, 3) := by decide +kernel
theorem dL_isDisputed_6 : decode cL_isDisputed 6 = .ok (.iload 4, 2) := by decide +kernel
theorem dL_isDisputed_8 : decode cL_isDisputed 8 = .ok (.bipush 16, 2) := by decide +kernel
theorem dL_isDisputed_10 : decode cL_isDisputed 10 = .ok (.if_icmp .ge 7, 3) := by decide +kernel
theorem dL_isDisputed_13 : decode cL_isDisputed 13 = .ok (.iconst 1, 1) := by decide +kernel
theorem dL_isDisputed_14 : decode cL_isDisputed 14 = .ok (.goto 4, 3) := by decide +kernel
theorem dL_isDisputed_17 : decode cL_isDisputed 17 = .ok (.iconst 0, 1) := by decide +kernel
theorem dL_isDisputed_18 : decode cL_isDisputed 18 = .ok (.istore 5, 2) := by decide +kernel
theorem dL_isDisputed_20 : decode cL_isDisputed 20 = .ok (.iload 5, 2) := by decide +kernel
theorem dL_isDisputed_22 : decode cL_isDisputed 22 = .ok (.ifCond .eq 33, 3) := by decide +kernel
theorem dL_isDisputed_25 : decode cL_isDisputed 25 = .ok (.aload_n 1, 1) := by decide +kernel
theorem dL_isDisputed_26 : decode cL_isDisputed 26 = .ok (.iload 4, 2) := by decide +kernel
theorem dL_isDisputed_28 : decode cL_isDisputed 28 = .ok (.iaload, 1) := by decide +kernel
theorem dL_isDisputed_29 : decode cL_isDisputed 29 = .ok (.ifCond .le 26, 3) := by decide +kernel
theorem dL_isDisputed_32 : decode cL_isDisputed 32 = .ok (.aload_n 1, 1) := by decide +kernel
theorem dL_isDisputed_33 : decode cL_isDisputed 33 = .ok (.iload 4, 2) := by decide +kernel
theorem dL_isDisputed_35 : decode cL_isDisputed 35 = .ok (.iaload, 1) := by decide +kernel
theorem dL_isDisputed_36 : decode cL_isDisputed 36 = .ok (.iconst 4, 1) := by decide +kernel
theorem dL_isDisputed_37 : decode cL_isDisputed 37 = .ok (.if_icmp .ge 18, 3) := by decide +kernel
theorem dL_isDisputed_40 : decode cL_isDisputed 40 = .ok (.aload_n 1, 1) := by decide +kernel
theorem dL_isDisputed_41 : decode cL_isDisputed 41 = .ok (.bipush 16, 2) := by decide +kernel
theorem dL_isDisputed_43 : decode cL_isDisputed 43 = .ok (.iload 4, 2) := by decide +kernel
theorem dL_isDisputed_45 : decode cL_isDisputed 45 = .ok (.iadd, 1) := by decide +kernel
theorem dL_isDisputed_46 : decode cL_isDisputed 46 = .ok (.iaload, 1) := by decide +kernel
theorem dL_isDisputed_47 : decode cL_isDisputed 47 = .ok (.iload_n 3, 1) := by decide +kernel
theorem dL_isDisputed_48 : decode cL_isDisputed 48 = .ok (.if_icmp .eq 7, 3) := by decide +kernel
theorem dL_isDisputed_51 : decode cL_isDisputed 51 = .ok (.iconst 1, 1) := by decide +kernel
theorem dL_isDisputed_52 : decode cL_isDisputed 52 = .ok (.goto 4, 3) := by decide +kernel
theorem dL_isDisputed_55 : decode cL_isDisputed 55 = .ok (.iconst 0, 1) := by decide +kernel
theorem dL_isDisputed_56 : decode cL_isDisputed 56 = .ok (.istore 6, 2) := by decide +kernel
theorem dL_isDisputed_58 : decode cL_isDisputed 58 = .ok (.iload 5, 2) := by decide +kernel
theorem dL_isDisputed_60 : decode cL_isDisputed 60 = .ok (.ifCond .ne 8, 3) := by decide +kernel
theorem dL_isDisputed_63 : decode cL_isDisputed 63 = .ok (.bipush (-30), 2) := by decide +kernel
theorem dL_isDisputed_65 : decode cL_isDisputed 65 = .ok (.goto 17, 3) := by decide +kernel
theorem dL_isDisputed_68 : decode cL_isDisputed 68 = .ok (.iload 6, 2) := by decide +kernel
theorem dL_isDisputed_70 : decode cL_isDisputed 70 = .ok (.ifCond .eq 10, 3) := by decide +kernel
theorem dL_isDisputed_73 : decode cL_isDisputed 73 = .ok (.aload_n 1, 1) := by decide +kernel
theorem dL_isDisputed_74 : decode cL_isDisputed 74 = .ok (.iload 4, 2) := by decide +kernel
theorem dL_isDisputed_76 : decode cL_isDisputed 76 = .ok (.iaload, 1) := by decide +kernel
theorem dL_isDisputed_77 : decode cL_isDisputed 77 = .ok (.goto 5, 3) := by decide +kernel
theorem dL_isDisputed_80 : decode cL_isDisputed 80 = .ok (.bipush (-10), 2) := by decide +kernel
theorem dL_isDisputed_82 : decode cL_isDisputed 82 = .ok (.istore 7, 2) := by decide +kernel
theorem dL_isDisputed_84 : decode cL_isDisputed 84 = .ok (.iload 6, 2) := by decide +kernel
theorem dL_isDisputed_86 : decode cL_isDisputed 86 = .ok (.ifCond .eq 36, 3) := by decide +kernel
theorem dL_isDisputed_89 : decode cL_isDisputed 89 = .ok (.aload_n 2, 1) := by decide +kernel
theorem dL_isDisputed_90 : decode cL_isDisputed 90 = .ok (.bipush 32, 2) := by decide +kernel
theorem dL_isDisputed_92 : decode cL_isDisputed 92 = .ok (.iload 4, 2) := by decide +kernel
theorem dL_isDisputed_94 : decode cL_isDisputed 94 = .ok (.iadd, 1) := by decide +kernel
theorem dL_isDisputed_95 : decode cL_isDisputed 95 = .ok (.aload_n 1, 1) := by decide +kernel
theorem dL_isDisputed_96 : decode cL_isDisputed 96 = .ok (.iload 4, 2) := by decide +kernel
theorem dL_isDisputed_98 : decode cL_isDisputed 98 = .ok (.iaload, 1) := by decide +kernel
theorem dL_isDisputed_99 : decode cL_isDisputed 99 = .ok (.iconst 1, 1) := by decide +kernel
theorem dL_isDisputed_100 : decode cL_isDisputed 100 = .ok (.if_icmp .ne 7, 3) := by decide +kernel
theorem dL_isDisputed_103 : decode cL_isDisputed 103 = .ok (.iconst 1, 1) := by decide +kernel
theorem dL_isDisputed_104 : decode cL_isDisputed 104 = .ok (.goto 4, 3) := by decide +kernel
theorem dL_isDisputed_107 : decode cL_isDisputed 107 = .ok (.iconst 0, 1) := by decide +kernel
theorem dL_isDisputed_108 : decode cL_isDisputed 108 = .ok (.iastore, 1) := by decide +kernel
theorem dL_isDisputed_109 : decode cL_isDisputed 109 = .ok (.aload_n 1, 1) := by decide +kernel
theorem dL_isDisputed_110 : decode cL_isDisputed 110 = .ok (.iload 4, 2) := by decide +kernel
theorem dL_isDisputed_112 : decode cL_isDisputed 112 = .ok (.iconst 5, 1) := by decide +kernel
theorem dL_isDisputed_113 : decode cL_isDisputed 113 = .ok (.iastore, 1) := by decide +kernel
theorem dL_isDisputed_114 : decode cL_isDisputed 114 = .ok (.aload_n 1, 1) := by decide +kernel
theorem dL_isDisputed_115 : decode cL_isDisputed 115 = .ok (.bipush 32, 2) := by decide +kernel
theorem dL_isDisputed_117 : decode cL_isDisputed 117 = .ok (.iload 4, 2) := by decide +kernel
theorem dL_isDisputed_119 : decode cL_isDisputed 119 = .ok (.iadd, 1) := by decide +kernel
theorem dL_isDisputed_120 : decode cL_isDisputed 120 = .ok (.iconst (-1), 1) := by decide +kernel
theorem dL_isDisputed_121 : decode cL_isDisputed 121 = .ok (.iastore, 1) := by decide +kernel
theorem dL_isDisputed_122 : decode cL_isDisputed 122 = .ok (.aload_n 0, 1) := by decide +kernel
theorem dL_isDisputed_123 : decode cL_isDisputed 123 = .ok (.iconst 5, 1) := by decide +kernel
theorem dL_isDisputed_124 : decode cL_isDisputed 124 = .ok (.iload_n 3, 1) := by decide +kernel
theorem dL_isDisputed_125 : decode cL_isDisputed 125 = .ok (.iload 4, 2) := by decide +kernel
theorem dL_isDisputed_127 : decode cL_isDisputed 127 = .ok (.iconst 0, 1) := by decide +kernel
theorem dL_isDisputed_128 : decode cL_isDisputed 128 = .ok (.invokestatic 87, 3) := by decide +kernel
theorem dL_isDisputed_131 : decode cL_isDisputed 131 = .ok (.iload 7, 2) := by decide +kernel
theorem dL_isDisputed_133 : decode cL_isDisputed 133 = .ok (.if_icmp .ne 7, 3) := by decide +kernel
theorem dL_isDisputed_136 : decode cL_isDisputed 136 = .ok (.iconst 1, 1) := by decide +kernel
theorem dL_isDisputed_137 : decode cL_isDisputed 137 = .ok (.goto 4, 3) := by decide +kernel
theorem dL_isDisputed_140 : decode cL_isDisputed 140 = .ok (.iconst 0, 1) := by decide +kernel
theorem dL_isDisputed_141 : decode cL_isDisputed 141 = .ok (.ireturn, 1) := by decide +kernel
set_option maxRecDepth 20000 in
theorem ggL_isDecided_L_does : GoodIn wsL_isDecided wsL_does := goodIn_ca (goodIn_ca (goodIn_ca (goodIn_r _ [4, 5, 6, 7, 8, 9, 10, 11, 12, 13, 14, 15, 16, 17, 18, 19, 20, 21, 22, 23, 24, 25, 26, 27, 28, 29, 30, 31, 32, 33, 34, 35, 36, 37, 38, 39, 40, 41, 42, 43, 44, 45, 46, 47, 48, 49, 50, 51, 52, 53, 54, 55, 56, 57, 58, 59, 60, 61, 62, 63, 64, 65, 66, 67, 68, 69, 70, 71, 72, 73, 74, 75, 76, 77, 78, 79, 80, 81, 82, 83, 84, 85, 86, 87, 88, 89, 90, 91, 92, 93, 94, 95, 96, 97, 98, 99, 100, 101, 102, 103, 104, 105, 106, 107, 108, 109, 110, 111, 112, 113, 114, 115, 116, 117, 118, 119, 120, 121, 122, 123, 124, 125, 126, 127, 128, 129, 130, 131, 132, 133, 134, 135, 136, 137, 138, 139, 140, 156, 157, 158, 159, 160, 161, 162, 163, 164, 165, 166, 167, 168, 169, 170, 171, 172, 173, 174, 175, 176] (by decide +kernel) (by decide +kernel)) (goodIn_sub (fun _ h => List.mem_cons_of_mem _ (List.mem_append_left _ (List.mem_append_left _ (List.mem_append_right _ h)))) (by decide +kernel))) (goodIn_sub (fun _ h => List.mem_cons_of_mem _ (List.mem_append_left _ (List.mem_append_right _ h))) (by decide +kernel))) (goodIn_sub (fun _ h => List.mem_cons_of_mem _ (List.mem_append_right _ h)) (by decide +kernel))
set_option maxRecDepth 20000 in
theorem gL_isDecided_L_does : GoodIn wsL_isDecided (va_wsS RL 87 yL_does wsL_does) := goodIn_app (goodIn_of _ (by decide +kernel)) ggL_isDecided_L_does
set_option maxRecDepth 20000 in
theorem ggL_isDecided_L_sees : GoodIn wsL_isDecided wsL_sees := goodIn_ca (goodIn_r _ [143, 144, 145, 146, 11, 147, 29, 15, 16, 17, 18, 19, 148, 149, 150, 151, 152, 153, 154, 155, 113, 38, 114, 115, 41, 42, 67, 156, 157, 158, 159, 160, 161, 162, 163, 164, 165, 166, 167, 168, 169, 170, 171, 172] (by decide +kernel) (by decide +kernel)) (goodIn_sub (fun _ h => List.mem_cons_of_mem _ (List.mem_append_left _ (List.mem_append_left _ (List.mem_append_right _ h)))) (by decide +kernel))
set_option maxRecDepth 20000 in
theorem gL_isDecided_L_sees : GoodIn wsL_isDecided (va_wsS RL 91 yL_sees wsL_sees) := goodIn_app (goodIn_of _ (by decide +kernel)) ggL_isDecided_L_sees
theorem dL_isDecided_0 : decode cL_isDecided 0 = .ok (.iload 4, 2) := by decide +kernel
theorem dL_isDecided_2 : decode cL_isDecided 2 = .ok (.bipush 16, 2) := by decide +kernel
theorem dL_isDecided_4 : decode cL_isDecided 4 = .ok (.if_icmp .eq 11, 3) := by decide +kernel
theorem dL_isDecided_7 : decode cL_isDecided 7 = .ok (.aload_n 1, 1) := by decide +kernel
theorem dL_isDecided_8 : decode cL_isDecided 8 = .ok (.iload 4, 2) := by decide +kernel
theorem dL_isDecided_10 : decode cL_isDecided 10 = .ok (.iaload, 1) := by decide +kernel
theorem dL_isDecided_11 : decode cL_isDecided 11 = .ok (.iconst 5, 1) := by decide +kernel
theorem dL_isDecided_12 : decode cL_isDecided 12 = .ok (.if_icmp .eq 37, 3) := by decide +kernel
theorem dL_isDecided_15 : decode cL_isDecided 15 = .ok (.aload_n 0, 1) := by decide +kernel
theorem dL_isDecided_16 : decode cL_isDecided 16 = .ok (.bipush 6, 2) := by decide +kernel
theorem dL_isDecided_18 : decode cL_isDecided 18 = .ok (.iload 4, 2) := by decide +kernel
theorem dL_isDecided_20 : decode cL_isDecided 20 = .ok (.iload 5, 2) := by decide +kernel
theorem dL_isDecided_22 : decode cL_isDecided 22 = .ok (.iconst 0, 1) := by decide +kernel
theorem dL_isDecided_23 : decode cL_isDecided 23 = .ok (.invokestatic 87, 3) := by decide +kernel
theorem dL_isDecided_26 : decode cL_isDecided 26 = .ok (.iload 4, 2) := by decide +kernel
theorem dL_isDecided_28 : decode cL_isDecided 28 = .ok (.bipush 16, 2) := by decide +kernel
theorem dL_isDecided_30 : decode cL_isDecided 30 = .ok (.if_icmp .ne 8, 3) := by decide +kernel
theorem dL_isDecided_33 : decode cL_isDecided 33 = .ok (.bipush (-30), 2) := by decide +kernel
theorem dL_isDecided_35 : decode cL_isDecided 35 = .ok (.goto 5, 3) := by decide +kernel
theorem dL_isDecided_38 : decode cL_isDecided 38 = .ok (.bipush (-10), 2) := by decide +kernel
theorem dL_isDecided_40 : decode cL_isDecided 40 = .ok (.if_icmp .ne 7, 3) := by decide +kernel
theorem dL_isDecided_43 : decode cL_isDecided 43 = .ok (.iconst 1, 1) := by decide +kernel
theorem dL_isDecided_44 : decode cL_isDecided 44 = .ok (.goto 4, 3) := by decide +kernel
theorem dL_isDecided_47 : decode cL_isDecided 47 = .ok (.iconst 0, 1) := by decide +kernel
theorem dL_isDecided_48 : decode cL_isDecided 48 = .ok (.ireturn, 1) := by decide +kernel
theorem dL_isDecided_49 : decode cL_isDecided 49 = .ok (.aload_n 1, 1) := by decide +kernel
theorem dL_isDecided_50 : decode cL_isDecided 50 = .ok (.bipush 16, 2) := by decide +kernel
theorem dL_isDecided_52 : decode cL_isDecided 52 = .ok (.iload 4, 2) := by decide +kernel
theorem dL_isDecided_54 : decode cL_isDecided 54 = .ok (.iadd, 1) := by decide +kernel
theorem dL_isDecided_55 : decode cL_isDecided 55 = .ok (.iaload, 1) := by decide +kernel
theorem dL_isDecided_56 : decode cL_isDecided 56 = .ok (.istore 6, 2) := by decide +kernel
theorem dL_isDecided_58 : decode cL_isDecided 58 = .ok (.aload_n 0, 1) := by decide +kernel
theorem dL_isDecided_59 : decode cL_isDecided 59 = .ok (.bipush 6, 2) := by decide +kernel
theorem dL_isDecided_61 : decode cL_isDecided 61 = .ok (.iload 4, 2) := by decide +kernel
theorem dL_isDecided_63 : decode cL_isDecided 63 = .ok (.iload 5, 2) := by decide +kernel
theorem dL_isDecided_65 : decode cL_isDecided 65 = .ok (.iconst 0, 1) := by decide +kernel
theorem dL_isDecided_66 : decode cL_isDecided 66 = .ok (.invokestatic 87, 3) := by decide +kernel
theorem dL_isDecided_69 : decode cL_isDecided 69 = .ok (.istore 7, 2) := by decide +kernel
theorem dL_isDecided_71 : decode cL_isDecided 71 = .ok (.aload_n 0, 1) := by decide +kernel
theorem dL_isDecided_72 : decode cL_isDecided 72 = .ok (.aload_n 1, 1) := by decide +kernel
theorem dL_isDecided_73 : decode cL_isDecided 73 = .ok (.iload 4, 2) := by decide +kernel
theorem dL_isDecided_75 : decode cL_isDecided 75 = .ok (.invokestatic 91, 3) := by decide +kernel
theorem dL_isDecided_78 : decode cL_isDecided 78 = .ok (.aload_n 2, 1) := by decide +kernel
theorem dL_isDecided_79 : decode cL_isDecided 79 = .ok (.bipush 32, 2) := by decide +kernel
theorem dL_isDecided_81 : decode cL_isDecided 81 = .ok (.iload 4, 2) := by decide +kernel
theorem dL_isDecided_83 : decode cL_isDecided 83 = .ok (.iadd, 1) := by decide +kernel
theorem dL_isDecided_84 : decode cL_isDecided 84 = .ok (.iaload, 1) := by decide +kernel
theorem dL_isDecided_85 : decode cL_isDecided 85 = .ok (.iconst 1, 1) := by decide +kernel
theorem dL_isDecided_86 : decode cL_isDecided 86 = .ok (.if_icmp .ne 75, 3) := by decide +kernel
theorem dL_isDecided_89 : decode cL_isDecided 89 = .ok (.aload_n 2, 1) := by decide +kernel
theorem dL_isDecided_90 : decode cL_isDecided 90 = .ok (.bipush 32, 2) := by decide +kernel
theorem dL_isDecided_92 : decode cL_isDecided 92 = .ok (.iload 4, 2) := by decide +kernel
theorem dL_isDecided_94 : decode cL_isDecided 94 = .ok (.iadd, 1) := by decide +kernel
theorem dL_isDecided_95 : decode cL_isDecided 95 = .ok (.iconst 0, 1) := by decide +kernel
theorem dL_isDecided_96 : decode cL_isDecided 96 = .ok (.iastore, 1) := by decide +kernel
theorem dL_isDecided_97 : decode cL_isDecided 97 = .ok (.aload_n 2, 1) := by decide +kernel
theorem dL_isDecided_98 : decode cL_isDecided 98 = .ok (.iload 4, 2) := by decide +kernel
theorem dL_isDecided_100 : decode cL_isDecided 100 = .ok (.iconst 0, 1) := by decide +kernel
theorem dL_isDecided_101 : decode cL_isDecided 101 = .ok (.iastore, 1) := by decide +kernel
theorem dL_isDecided_102 : decode cL_isDecided 102 = .ok (.aload_n 2, 1) := by decide +kernel
theorem dL_isDecided_103 : decode cL_isDecided 103 = .ok (.bipush 16, 2) := by decide +kernel
theorem dL_isDecided_105 : decode cL_isDecided 105 = .ok (.iload 4, 2) := by decide +kernel
theorem dL_isDecided_107 : decode cL_isDecided 107 = .ok (.iadd, 1) := by decide +kernel
theorem dL_isDecided_108 : decode cL_isDecided 108 = .ok (.bipush 10, 2) := by decide +kernel
theorem dL_isDecided_110 : decode cL_isDecided 110 = .ok (.iastore, 1) := by decide +kernel
theorem dL_isDecided_111 : decode cL_isDecided 111 = .ok (.iload 7, 2) := by decide +kernel
theorem dL_isDecided_113 : decode cL_isDecided 113 = .ok (.iconst 2, 1) := by decide +kernel
theorem dL_isDecided_114 : decode cL_isDecided 114 = .ok (.iload 5, 2) := by decide +kernel
theorem dL_isDecided_116 : decode cL_isDecided 116 = .ok (.imul, 1) := by decide +kernel
theorem dL_isDecided_117 : decode cL_isDecided 117 = .ok (.if_icmp .ne 42, 3) := by decide +kernel
theorem dL_isDecided_120 : decode cL_isDecided 120 = .ok (.aload_n 1, 1) := by decide +kernel
theorem dL_isDecided_121 : decode cL_isDecided 121 = .ok (.iload 4, 2) := by decide +kernel
theorem dL_isDecided_123 : decode cL_isDecided 123 = .ok (.iaload, 1) := by decide +kernel
theorem dL_isDecided_124 : decode cL_isDecided 124 = .ok (.iload 7, 2) := by decide +kernel
theorem dL_isDecided_126 : decode cL_isDecided 126 = .ok (.if_icmp .ne 33, 3) := by decide +kernel
theorem dL_isDecided_129 : decode cL_isDecided 129 = .ok (.aload_n 1, 1) := by decide +kernel
theorem dL_isDecided_130 : decode cL_isDecided 130 = .ok (.bipush 32, 2) := by decide +kernel
theorem dL_isDecided_132 : decode cL_isDecided 132 = .ok (.iload 4, 2) := by decide +kernel
theorem dL_isDecided_134 : decode cL_isDecided 134 = .ok (.iadd, 1) := by decide +kernel
theorem dL_isDecided_135 : decode cL_isDecided 135 = .ok (.iaload, 1) := by decide +kernel
theorem dL_isDecided_136 : decode cL_isDecided 136 = .ok (.iload 5, 2) := by decide +kernel
theorem dL_isDecided_138 : decode cL_isDecided 138 = .ok (.iconst 1, 1) := by decide +kernel
theorem dL_isDecided_139 : decode cL_isDecided 139 = .ok (.if_icmp .ne 12, 3) := by decide +kernel
theorem dL_isDecided_142 : decode cL_isDecided 142 = .ok (.aload_n 3, 1) := by decide +kernel
theorem dL_isDecided_143 : decode cL_isDecided 143 = .ok (.iconst 0, 1) := by decide +kernel
theorem dL_isDecided_144 : decode cL_isDecided 144 = .ok (.iaload, 1) := by decide +kernel
theorem dL_isDecided_145 : decode cL_isDecided 145 = .ok (.bipush 100, 2) := by decide +kernel
theorem dL_isDecided_147 : decode cL_isDecided 147 = .ok (.iadd, 1) := by decide +kernel
theorem dL_isDecided_148 : decode cL_isDecided 148 = .ok (.goto 4, 3) := by decide +kernel
theorem dL_isDecided_151 : decode cL_isDecided 151 = .ok (.iconst (-1), 1) := by decide +kernel
theorem dL_isDecided_152 : decode cL_isDecided 152 = .ok (.if_icmp .ne 7, 3) := by decide +kernel
theorem dL_isDecided_155 : decode cL_isDecided 155 = .ok (.iconst 1, 1) := by decide +kernel
theorem dL_isDecided_156 : decode cL_isDecided 156 = .ok (.goto 4, 3) := by decide +kernel
theorem dL_isDecided_159 : decode cL_isDecided 159 = .ok (.iconst 0, 1) := by decide +kernel
theorem dL_isDecided_160 : decode cL_isDecided 160 = .ok (.ireturn, 1) := by decide +kernel
theorem dL_isDecided_161 : decode cL_isDecided 161 = .ok (.iload 7, 2) := by decide +kernel
theorem dL_isDecided_163 : decode cL_isDecided 163 = .ok (.iconst 2, 1) := by decide +kernel
theorem dL_isDecided_164 : decode cL_isDecided 164 = .ok (.if_icmp .eq 9, 3) := by decide +kernel
theorem dL_isDecided_167 : decode cL_isDecided 167 = .ok (.iload 7, 2) := by decide +kernel
theorem dL_isDecided_169 : decode cL_isDecided 169 = .ok (.iconst 3, 1) := by decide +kernel
theorem dL_isDecided_170 : decode cL_isDecided 170 = .ok (.if_icmp .ne 49, 3) := by decide +kernel
theorem dL_isDecided_173 : decode cL_isDecided 173 = .ok (.aload_n 1, 1) := by decide +kernel
theorem dL_isDecided_174 : decode cL_isDecided 174 = .ok (.iload 4, 2) := by decide +kernel
theorem dL_isDecided_176 : decode cL_isDecided 176 = .ok (.iaload, 1) := by decide +kernel
theorem dL_isDecided_177 : decode cL_isDecided 177 = .ok (.iload 7, 2) := by decide +kernel
theorem dL_isDecided_179 : decode cL_isDecided 179 = .ok (.if_icmp .ne 40, 3) := by decide +kernel
theorem dL_isDecided_182 : decode cL_isDecided 182 = .ok (.iload 5, 2) := by decide +kernel
theorem dL_isDecided_184 : decode cL_isDecided 184 = .ok (.iconst 1, 1) := by decide +kernel
theorem dL_isDecided_185 : decode cL_isDecided 185 = .ok (.if_icmp .ne 18, 3) := by decide +kernel
theorem dL_isDecided_188 : decode cL_isDecided 188 = .ok (.aload_n 1, 1) := by decide +kernel
theorem dL_isDecided_189 : decode cL_isDecided 189 = .ok (.bipush 16, 2) := by decide +kernel
theorem dL_isDecided_191 : decode cL_isDecided 191 = .ok (.iload 4, 2) := by decide +kernel
theorem dL_isDecided_193 : decode cL_isDecided 193 = .ok (.iadd, 1) := by decide +kernel
theorem dL_isDecided_194 : decode cL_isDecided 194 = .ok (.iaload, 1) := by decide +kernel
theorem dL_isDecided_195 : decode cL_isDecided 195 = .ok (.iload 6, 2) := by decide +kernel
theorem dL_isDecided_197 : decode cL_isDecided 197 = .ok (.if_icmp .eq 22, 3) := by decide +kernel
theorem dL_isDecided_200 : decode cL_isDecided 200 = .ok (.goto 15, 3) := by decide +kernel
theorem dL_isDecided_203 : decode cL_isDecided 203 = .ok (.aload_n 1, 1) := by decide +kernel
theorem dL_isDecided_204 : decode cL_isDecided 204 = .ok (.bipush 16, 2) := by decide +kernel
theorem dL_isDecided_206 : decode cL_isDecided 206 = .ok (.iload 4, 2) := by decide +kernel
theorem dL_isDecided_208 : decode cL_isDecided 208 = .ok (.iadd, 1) := by decide +kernel
theorem dL_isDecided_209 : decode cL_isDecided 209 = .ok (.iaload, 1) := by decide +kernel
theorem dL_isDecided_210 : decode cL_isDecided 210 = .ok (.iload 6, 2) := by decide +kernel
theorem dL_isDecided_212 : decode cL_isDecided 212 = .ok (.if_icmp .ne 7, 3) := by decide +kernel
theorem dL_isDecided_215 : decode cL_isDecided 215 = .ok (.iconst 1, 1) := by decide +kernel
theorem dL_isDecided_216 : decode cL_isDecided 216 = .ok (.goto 4, 3) := by decide +kernel
theorem dL_isDecided_219 : decode cL_isDecided 219 = .ok (.iconst 0, 1) := by decide +kernel
theorem dL_isDecided_220 : decode cL_isDecided 220 = .ok (.ireturn, 1) := by decide +kernel
set_option maxRecDepth 20000 in
theorem ggL_isDay_X2_takings : GoodIn wsL_isDay wsX2_takings := goodIn_r _ [5, 6, 93, 94, 95, 96, 97, 98] (by decide +kernel) (by decide +kernel)
set_option maxRecDepth 20000 in
theorem gL_isDay_X2_takings : GoodIn wsL_isDay (wsV RL 79 RX2 yX2_takings wsX2_takings) := goodIn_app (goodIn_of _ (by decide +kernel)) ggL_isDay_X2_takings
set_option maxRecDepth 20000 in
theorem ggL_isDay_X2_pass : GoodIn wsL_isDay wsX2_pass := goodIn_ca (goodIn_r _ [10, 11, 12, 13, 4, 14, 15, 16, 17, 18, 19, 20, 21, 22, 23, 24, 25, 26, 27, 28, 29, 30, 31, 32, 33, 34, 35, 36, 37, 38, 39, 40, 41, 42, 43, 44, 45, 46, 47, 48, 49, 50, 51, 52, 53, 54, 55, 56, 57, 58, 59, 60, 61, 62, 63, 64, 65, 66, 6, 67, 68, 69, 70, 71, 93, 94, 95, 96, 97, 98, 99, 100, 101, 102, 103, 104, 105, 106, 107, 108, 109] (by decide +kernel) (by decide +kernel)) (goodIn_sub (fun _ h => List.mem_cons_of_mem _ (List.mem_append_left _ (List.mem_append_right _ h))) (by decide +kernel))
set_option maxRecDepth 20000 in
theorem gL_isDay_X2_pass : GoodIn wsL_isDay (wsV RL 35 RX2 yX2_pass wsX2_pass) := goodIn_app (goodIn_of _ (by decide +kernel)) ggL_isDay_X2_pass
set_option maxRecDepth 20000 in
theorem ggL_isDay_L_sees : GoodIn wsL_isDay wsL_sees := goodIn_ca (goodIn_r _ [75, 76, 77, 78, 4, 79, 21, 80, 81, 82, 83, 84, 85, 86, 87, 88, 89, 90, 91, 92, 22, 23, 24, 25, 26, 27, 28, 93, 94, 95, 96, 97, 98, 99, 100, 101, 102, 103, 104, 105, 106, 107, 108, 109] (by decide +kernel) (by decide +kernel)) (goodIn_sub (fun _ h => List.mem_cons_of_mem _ (List.mem_append_right _ h)) (by decide +kernel))
set_option maxRecDepth 20000 in
theorem gL_isDay_L_sees : GoodIn wsL_isDay (va_wsS RL 91 yL_sees wsL_sees) := goodIn_app (goodIn_of _ (by decide +kernel)) ggL_isDay_L_sees
theorem dL_isDay_0 : decode cL_isDay 0 = .ok (.aload_n 0, 1) := by decide +kernel
theorem dL_isDay_1 : decode cL_isDay 1 = .ok (.invokevirtual 79, 3) := by decide +kernel
theorem dL_isDay_4 : decode cL_isDay 4 = .ok (.istore 4, 2) := by decide +kernel
theorem dL_isDay_6 : decode cL_isDay 6 = .ok (.aload_n 3, 1) := by decide +kernel
theorem dL_isDay_7 : decode cL_isDay 7 = .ok (.iconst 0, 1) := by decide +kernel
theorem dL_isDay_8 : decode cL_isDay 8 = .ok (.dup2, 1) := by decide +kernel
theorem dL_isDay_9 : decode cL_isDay 9 = .ok (.iaload, 1) := by decide +kernel
theorem dL_isDay_10 : decode cL_isDay 10 = .ok (.iconst 1, 1) := by decide +kernel
theorem dL_isDay_11 : decode cL_isDay 11 = .ok (.iadd, 1) := by decide +kernel
theorem dL_isDay_12 : decode cL_isDay 12 = .ok (.iastore, 1) := by decide +kernel
theorem dL_isDay_13 : decode cL_isDay 13 = .ok (.aload_n 0, 1) := by decide +kernel
theorem dL_isDay_14 : decode cL_isDay 14 = .ok (.iconst 1, 1) := by decide +kernel
theorem dL_isDay_15 : decode cL_isDay 15 = .ok (.invokevirtual 35, 3) := by decide +kernel
theorem dL_isDay_18 : decode cL_isDay 18 = .ok (.istore 5, 2) := by decide +kernel
theorem dL_isDay_20 : decode cL_isDay 20 = .ok (.iconst 0, 1) := by decide +kernel
theorem dL_isDay_21 : decode cL_isDay 21 = .ok (.istore 6, 2) := by decide +kernel
theorem dL_isDay_23 : decode cL_isDay 23 = .ok (.iconst 1, 1) := by decide +kernel
theorem dL_isDay_24 : decode cL_isDay 24 = .ok (.istore 7, 2) := by decide +kernel
theorem dL_isDay_26 : decode cL_isDay 26 = .ok (.iconst 0, 1) := by decide +kernel
theorem dL_isDay_27 : decode cL_isDay 27 = .ok (.istore 8, 2) := by decide +kernel
theorem dL_isDay_29 : decode cL_isDay 29 = .ok (.iload 8, 2) := by decide +kernel
theorem dL_isDay_31 : decode cL_isDay 31 = .ok (.bipush 16, 2) := by decide +kernel
theorem dL_isDay_33 : decode cL_isDay 33 = .ok (.if_icmp .ge 225, 3) := by decide +kernel
theorem dL_isDay_36 : decode cL_isDay 36 = .ok (.iload 7, 2) := by decide +kernel
theorem dL_isDay_38 : decode cL_isDay 38 = .ok (.ifCond .eq 220, 3) := by decide +kernel
theorem dL_isDay_41 : decode cL_isDay 41 = .ok (.aload_n 1, 1) := by decide +kernel
theorem dL_isDay_42 : decode cL_isDay 42 = .ok (.iload 8, 2) := by decide +kernel
theorem dL_isDay_44 : decode cL_isDay 44 = .ok (.iaload, 1) := by decide +kernel
theorem dL_isDay_45 : decode cL_isDay 45 = .ok (.istore 9, 2) := by decide +kernel
theorem dL_isDay_47 : decode cL_isDay 47 = .ok (.aload_n 1, 1) := by decide +kernel
theorem dL_isDay_48 : decode cL_isDay 48 = .ok (.bipush 32, 2) := by decide +kernel
theorem dL_isDay_50 : decode cL_isDay 50 = .ok (.iload 8, 2) := by decide +kernel
theorem dL_isDay_52 : decode cL_isDay 52 = .ok (.iadd, 1) := by decide +kernel
theorem dL_isDay_53 : decode cL_isDay 53 = .ok (.iaload, 1) := by decide +kernel
theorem dL_isDay_54 : decode cL_isDay 54 = .ok (.aload_n 3, 1) := by decide +kernel
theorem dL_isDay_55 : decode cL_isDay 55 = .ok (.iconst 0, 1) := by decide +kernel
theorem dL_isDay_56 : decode cL_isDay 56 = .ok (.iaload, 1) := by decide +kernel
theorem dL_isDay_57 : decode cL_isDay 57 = .ok (.if_icmp .ne 7, 3) := by decide +kernel
theorem dL_isDay_60 : decode cL_isDay 60 = .ok (.iconst 1, 1) := by decide +kernel
theorem dL_isDay_61 : decode cL_isDay 61 = .ok (.goto 4, 3) := by decide +kernel
theorem dL_isDay_64 : decode cL_isDay 64 = .ok (.iconst 0, 1) := by decide +kernel
theorem dL_isDay_65 : decode cL_isDay 65 = .ok (.istore 10, 2) := by decide +kernel
theorem dL_isDay_67 : decode cL_isDay 67 = .ok (.aload_n 1, 1) := by decide +kernel
theorem dL_isDay_68 : decode cL_isDay 68 = .ok (.bipush 16, 2) := by decide +kernel
theorem dL_isDay_70 : decode cL_isDay 70 = .ok (.iload 8, 2) := by decide +kernel
theorem dL_isDay_72 : decode cL_isDay 72 = .ok (.iadd, 1) := by decide +kernel
theorem dL_isDay_73 : decode cL_isDay 73 = .ok (.iaload, 1) := by decide +kernel
theorem dL_isDay_74 : decode cL_isDay 74 = .ok (.istore 11, 2) := by decide +kernel
theorem dL_isDay_76 : decode cL_isDay 76 = .ok (.aload_n 0, 1) := by decide +kernel
theorem dL_isDay_77 : decode cL_isDay 77 = .ok (.aload_n 1, 1) := by decide +kernel
theorem dL_isDay_78 : decode cL_isDay 78 = .ok (.iload 8, 2) := by decide +kernel
theorem dL_isDay_80 : decode cL_isDay 80 = .ok (.invokestatic 91, 3) := by decide +kernel
theorem dL_isDay_83 : decode cL_isDay 83 = .ok (.iload 10, 2) := by decide +kernel
theorem dL_isDay_85 : decode cL_isDay 85 = .ok (.ifCond .ne 34, 3) := by decide +kernel
theorem dL_isDay_88 : decode cL_isDay 88 = .ok (.aload_n 1, 1) := by decide +kernel
theorem dL_isDay_89 : decode cL_isDay 89 = .ok (.iload 8, 2) := by decide +kernel
theorem dL_isDay_91 : decode cL_isDay 91 = .ok (.iaload, 1) := by decide +kernel
theorem dL_isDay_92 : decode cL_isDay 92 = .ok (.iload 9, 2) := by decide +kernel
theorem dL_isDay_94 : decode cL_isDay 94 = .ok (.if_icmp .ne 19, 3) := by decide +kernel
theorem dL_isDay_97 : decode cL_isDay 97 = .ok (.aload_n 1, 1) := by decide +kernel
theorem dL_isDay_98 : decode cL_isDay 98 = .ok (.bipush 16, 2) := by decide +kernel
theorem dL_isDay_100 : decode cL_isDay 100 = .ok (.iload 8, 2) := by decide +kernel
theorem dL_isDay_102 : decode cL_isDay 102 = .ok (.iadd, 1) := by decide +kernel
theorem dL_isDay_103 : decode cL_isDay 103 = .ok (.iaload, 1) := by decide +kernel
theorem dL_isDay_104 : decode cL_isDay 104 = .ok (.iload 11, 2) := by decide +kernel
theorem dL_isDay_106 : decode cL_isDay 106 = .ok (.if_icmp .ne 7, 3) := by decide +kernel
theorem dL_isDay_109 : decode cL_isDay 109 = .ok (.iconst 1, 1) := by decide +kernel
theorem dL_isDay_110 : decode cL_isDay 110 = .ok (.goto 4, 3) := by decide +kernel
theorem dL_isDay_113 : decode cL_isDay 113 = .ok (.iconst 0, 1) := by decide +kernel
theorem dL_isDay_114 : decode cL_isDay 114 = .ok (.istore 7, 2) := by decide +kernel
theorem dL_isDay_116 : decode cL_isDay 116 = .ok (.goto 136, 3) := by decide +kernel
theorem dL_isDay_119 : decode cL_isDay 119 = .ok (.iload 9, 2) := by decide +kernel
theorem dL_isDay_121 : decode cL_isDay 121 = .ok (.iconst 1, 1) := by decide +kernel
theorem dL_isDay_122 : decode cL_isDay 122 = .ok (.if_icmp .ne 84, 3) := by decide +kernel
theorem dL_isDay_125 : decode cL_isDay 125 = .ok (.iload 6, 2) := by decide +kernel
theorem dL_isDay_127 : decode cL_isDay 127 = .ok (.aload_n 1, 1) := by decide +kernel
theorem dL_isDay_128 : decode cL_isDay 128 = .ok (.iload 8, 2) := by decide +kernel
theorem dL_isDay_130 : decode cL_isDay 130 = .ok (.iaload, 1) := by decide +kernel
theorem dL_isDay_131 : decode cL_isDay 131 = .ok (.iconst 2, 1) := by decide +kernel
theorem dL_isDay_132 : decode cL_isDay 132 = .ok (.if_icmp .ne 7, 3) := by decide +kernel
theorem dL_isDay_135 : decode cL_isDay 135 = .ok (.iconst 1, 1) := by decide +kernel
theorem dL_isDay_136 : decode cL_isDay 136 = .ok (.goto 4, 3) := by decide +kernel
theorem dL_isDay_139 : decode cL_isDay 139 = .ok (.iconst 0, 1) := by decide +kernel
theorem dL_isDay_140 : decode cL_isDay 140 = .ok (.iadd, 1) := by decide +kernel
theorem dL_isDay_141 : decode cL_isDay 141 = .ok (.istore 6, 2) := by decide +kernel
theorem dL_isDay_143 : decode cL_isDay 143 = .ok (.aload_n 2, 1) := by decide +kernel
theorem dL_isDay_144 : decode cL_isDay 144 = .ok (.iload 8, 2) := by decide +kernel
theorem dL_isDay_146 : decode cL_isDay 146 = .ok (.iconst 0, 1) := by decide +kernel
theorem dL_isDay_147 : decode cL_isDay 147 = .ok (.iastore, 1) := by decide +kernel
theorem dL_isDay_148 : decode cL_isDay 148 = .ok (.aload_n 2, 1) := by decide +kernel
theorem dL_isDay_149 : decode cL_isDay 149 = .ok (.bipush 16, 2) := by decide +kernel
theorem dL_isDay_151 : decode cL_isDay 151 = .ok (.iload 8, 2) := by decide +kernel
theorem dL_isDay_153 : decode cL_isDay 153 = .ok (.iadd, 1) := by decide +kernel
theorem dL_isDay_154 : decode cL_isDay 154 = .ok (.bipush 10, 2) := by decide +kernel
theorem dL_isDay_156 : decode cL_isDay 156 = .ok (.iastore, 1) := by decide +kernel
theorem dL_isDay_157 : decode cL_isDay 157 = .ok (.aload_n 1, 1) := by decide +kernel
theorem dL_isDay_158 : decode cL_isDay 158 = .ok (.iload 8, 2) := by decide +kernel
theorem dL_isDay_160 : decode cL_isDay 160 = .ok (.iaload, 1) := by decide +kernel
theorem dL_isDay_161 : decode cL_isDay 161 = .ok (.iconst 2, 1) := by decide +kernel
theorem dL_isDay_162 : decode cL_isDay 162 = .ok (.if_icmp .ne 27, 3) := by decide +kernel
theorem dL_isDay_165 : decode cL_isDay 165 = .ok (.aload_n 1, 1) := by decide +kernel
theorem dL_isDay_166 : decode cL_isDay 166 = .ok (.bipush 32, 2) := by decide +kernel
theorem dL_isDay_168 : decode cL_isDay 168 = .ok (.iload 8, 2) := by decide +kernel
theorem dL_isDay_170 : decode cL_isDay 170 = .ok (.iadd, 1) := by decide +kernel
theorem dL_isDay_171 : decode cL_isDay 171 = .ok (.iaload, 1) := by decide +kernel
theorem dL_isDay_172 : decode cL_isDay 172 = .ok (.aload_n 3, 1) := by decide +kernel
theorem dL_isDay_173 : decode cL_isDay 173 = .ok (.iconst 0, 1) := by decide +kernel
theorem dL_isDay_174 : decode cL_isDay 174 = .ok (.iaload, 1) := by decide +kernel
theorem dL_isDay_175 : decode cL_isDay 175 = .ok (.bipush 100, 2) := by decide +kernel
theorem dL_isDay_177 : decode cL_isDay 177 = .ok (.iadd, 1) := by decide +kernel
theorem dL_isDay_178 : decode cL_isDay 178 = .ok (.if_icmp .ne 7, 3) := by decide +kernel
theorem dL_isDay_181 : decode cL_isDay 181 = .ok (.iconst 1, 1) := by decide +kernel
theorem dL_isDay_182 : decode cL_isDay 182 = .ok (.goto 19, 3) := by decide +kernel
theorem dL_isDay_185 : decode cL_isDay 185 = .ok (.iconst 0, 1) := by decide +kernel
theorem dL_isDay_186 : decode cL_isDay 186 = .ok (.goto 15, 3) := by decide +kernel
theorem dL_isDay_189 : decode cL_isDay 189 = .ok (.aload_n 1, 1) := by decide +kernel
theorem dL_isDay_190 : decode cL_isDay 190 = .ok (.iload 8, 2) := by decide +kernel
theorem dL_isDay_192 : decode cL_isDay 192 = .ok (.iaload, 1) := by decide +kernel
theorem dL_isDay_193 : decode cL_isDay 193 = .ok (.ifCond .ne 7, 3) := by decide +kernel
theorem dL_isDay_196 : decode cL_isDay 196 = .ok (.iconst 1, 1) := by decide +kernel
theorem dL_isDay_197 : decode cL_isDay 197 = .ok (.goto 4, 3) := by decide +kernel
theorem dL_isDay_200 : decode cL_isDay 200 = .ok (.iconst 0, 1) := by decide +kernel
theorem dL_isDay_201 : decode cL_isDay 201 = .ok (.istore 7, 2) := by decide +kernel
theorem dL_isDay_203 : decode cL_isDay 203 = .ok (.goto 49, 3) := by decide +kernel
theorem dL_isDay_206 : decode cL_isDay 206 = .ok (.aload_n 1, 1) := by decide +kernel
theorem dL_isDay_207 : decode cL_isDay 207 = .ok (.iload 8, 2) := by decide +kernel
theorem dL_isDay_209 : decode cL_isDay 209 = .ok (.iaload, 1) := by decide +kernel
theorem dL_isDay_210 : decode cL_isDay 210 = .ok (.iload 9, 2) := by decide +kernel
theorem dL_isDay_212 : decode cL_isDay 212 = .ok (.iconst 1, 1) := by decide +kernel
theorem dL_isDay_213 : decode cL_isDay 213 = .ok (.iadd, 1) := by decide +kernel
theorem dL_isDay_214 : decode cL_isDay 214 = .ok (.iconst 5, 1) := by decide +kernel
theorem dL_isDay_215 : decode cL_isDay 215 = .ok (.irem, 1) := by decide +kernel
theorem dL_isDay_216 : decode cL_isDay 216 = .ok (.if_icmp .ne 33, 3) := by decide +kernel
theorem dL_isDay_219 : decode cL_isDay 219 = .ok (.aload_n 1, 1) := by decide +kernel
theorem dL_isDay_220 : decode cL_isDay 220 = .ok (.bipush 32, 2) := by decide +kernel
theorem dL_isDay_222 : decode cL_isDay 222 = .ok (.iload 8, 2) := by decide +kernel
theorem dL_isDay_224 : decode cL_isDay 224 = .ok (.iadd, 1) := by decide +kernel
theorem dL_isDay_225 : decode cL_isDay 225 = .ok (.iaload, 1) := by decide +kernel
theorem dL_isDay_226 : decode cL_isDay 226 = .ok (.iload 9, 2) := by decide +kernel
theorem dL_isDay_228 : decode cL_isDay 228 = .ok (.iconst 4, 1) := by decide +kernel
theorem dL_isDay_229 : decode cL_isDay 229 = .ok (.if_icmp .ne 7, 3) := by decide +kernel
theorem dL_isDay_232 : decode cL_isDay 232 = .ok (.iconst (-1), 1) := by decide +kernel
theorem dL_isDay_233 : decode cL_isDay 233 = .ok (.goto 9, 3) := by decide +kernel
theorem dL_isDay_236 : decode cL_isDay 236 = .ok (.aload_n 3, 1) := by decide +kernel
theorem dL_isDay_237 : decode cL_isDay 237 = .ok (.iconst 0, 1) := by decide +kernel
theorem dL_isDay_238 : decode cL_isDay 238 = .ok (.iaload, 1) := by decide +kernel
theorem dL_isDay_239 : decode cL_isDay 239 = .ok (.bipush 10, 2) := by decide +kernel
theorem dL_isDay_241 : decode cL_isDay 241 = .ok (.iadd, 1) := by decide +kernel
theorem dL_isDay_242 : decode cL_isDay 242 = .ok (.if_icmp .ne 7, 3) := by decide +kernel
theorem dL_isDay_245 : decode cL_isDay 245 = .ok (.iconst 1, 1) := by decide +kernel
theorem dL_isDay_246 : decode cL_isDay 246 = .ok (.goto 4, 3) := by decide +kernel
theorem dL_isDay_249 : decode cL_isDay 249 = .ok (.iconst 0, 1) := by decide +kernel
theorem dL_isDay_250 : decode cL_isDay 250 = .ok (.istore 7, 2) := by decide +kernel
theorem dL_isDay_252 : decode cL_isDay 252 = .ok (.iinc 8 1, 3) := by decide +kernel
theorem dL_isDay_255 : decode cL_isDay 255 = .ok (.goto (-226), 3) := by decide +kernel
theorem dL_isDay_258 : decode cL_isDay 258 = .ok (.iload 7, 2) := by decide +kernel
theorem dL_isDay_260 : decode cL_isDay 260 = .ok (.ifCond .eq 43, 3) := by decide +kernel
theorem dL_isDay_263 : decode cL_isDay 263 = .ok (.iload 5, 2) := by decide +kernel
theorem dL_isDay_265 : decode cL_isDay 265 = .ok (.iload 6, 2) := by decide +kernel
theorem dL_isDay_267 : decode cL_isDay 267 = .ok (.if_icmp .ne 36, 3) := by decide +kernel
theorem dL_isDay_270 : decode cL_isDay 270 = .ok (.aload_n 0, 1) := by decide +kernel
theorem dL_isDay_271 : decode cL_isDay 271 = .ok (.invokevirtual 79, 3) := by decide +kernel
theorem dL_isDay_274 : decode cL_isDay 274 = .ok (.iload 4, 2) := by decide +kernel
theorem dL_isDay_276 : decode cL_isDay 276 = .ok (.bipush 10, 2) := by decide +kernel
theorem dL_isDay_278 : decode cL_isDay 278 = .ok (.iload 6, 2) := by decide +kernel
theorem dL_isDay_280 : decode cL_isDay 280 = .ok (.imul, 1) := by decide +kernel
theorem dL_isDay_281 : decode cL_isDay 281 = .ok (.iadd, 1) := by decide +kernel
theorem dL_isDay_282 : decode cL_isDay 282 = .ok (.if_icmp .lt 21, 3) := by decide +kernel
theorem dL_isDay_285 : decode cL_isDay 285 = .ok (.iload 6, 2) := by decide +kernel
theorem dL_isDay_287 : decode cL_isDay 287 = .ok (.ifCond .gt 12, 3) := by decide +kernel
theorem dL_isDay_290 : decode cL_isDay 290 = .ok (.aload_n 0, 1) := by decide +kernel
theorem dL_isDay_291 : decode cL_isDay 291 = .ok (.invokevirtual 79, 3) := by decide +kernel
theorem dL_isDay_294 : decode cL_isDay 294 = .ok (.iload 4, 2) := by decide +kernel
theorem dL_isDay_296 : decode cL_isDay 296 = .ok (.if_icmp .ne 7, 3) := by decide +kernel
theorem dL_isDay_299 : decode cL_isDay 299 = .ok (.iconst 1, 1) := by decide +kernel
theorem dL_isDay_300 : decode cL_isDay 300 = .ok (.goto 4, 3) := by decide +kernel
theorem dL_isDay_303 : decode cL_isDay 303 = .ok (.iconst 0, 1) := by decide +kernel
theorem dL_isDay_304 : decode cL_isDay 304 = .ok (.ireturn, 1) := by decide +kernel
set_option maxRecDepth 20000 in
theorem ggL_isAnswer_L_hasRecord : GoodIn wsL_isAnswer wsL_hasRecord := goodIn_r _ [4] (by decide +kernel) (by decide +kernel)
set_option maxRecDepth 20000 in
theorem gL_isAnswer_L_hasRecord : GoodIn wsL_isAnswer (va_wsS RL 95 yL_hasRecord wsL_hasRecord) := goodIn_app (goodIn_of _ (by decide +kernel)) ggL_isAnswer_L_hasRecord
set_option maxRecDepth 20000 in
theorem ggL_isAnswer_X2_isStale : GoodIn wsL_isAnswer wsX2_isStale := goodIn_ca (goodIn_r _ [9, 10, 11, 12, 13, 14, 8, 15, 16, 17, 18, 19, 20, 21, 22, 23, 24, 25, 26, 27, 28, 29, 30, 31, 32, 33, 34, 35, 36, 37, 50, 51, 52, 53, 54, 55, 56, 57, 58, 59, 60, 61, 62, 63, 64, 65, 66, 67, 68, 69, 70] (by decide +kernel) (by decide +kernel)) (goodIn_sub (fun _ h => List.mem_cons_of_mem _ (List.mem_append_right _ h)) (by decide +kernel))
set_option maxRecDepth 20000 in
theorem gL_isAnswer_X2_isStale : GoodIn wsL_isAnswer (wsV RL 69 RX2 yX2_isStale wsX2_isStale) := goodIn_app (goodIn_of _ (by decide +kernel)) ggL_isAnswer_X2_isStale
set_option maxRecDepth 20000 in
theorem ggL_isAnswer_X2_lookUp : GoodIn wsL_isAnswer wsX2_lookUp := goodIn_ca (goodIn_r _ [41, 10, 11, 12, 13, 14, 8, 15, 16, 17, 18, 19, 20, 21, 22, 23, 24, 25, 26, 27, 28, 29, 30, 31, 32, 33, 34, 35, 36, 37, 42, 43, 44, 45, 46, 47, 48, 49, 50, 51, 52, 53, 54, 55, 56, 57, 58, 59, 60, 61, 62, 63, 64, 65, 66, 67, 68, 69, 70] (by decide +kernel) (by decide +kernel)) (goodIn_sub (fun _ h => List.mem_cons_of_mem _ (List.mem_append_right _ h)) (by decide +kernel))
set_option maxRecDepth 20000 in
theorem gL_isAnswer_X2_lookUp : GoodIn wsL_isAnswer (wsV RL 66 RX2 yX2_lookUp wsX2_lookUp) := goodIn_app (goodIn_of _ (by decide +kernel)) ggL_isAnswer_X2_lookUp
theorem dL_isAnswer_0 : decode cL_isAnswer 0 = .ok (.aload_n 1, 1) := by decide +kernel
theorem dL_isAnswer_1 : decode cL_isAnswer 1 = .ok (.aload_n 2, 1) := by decide +kernel
theorem dL_isAnswer_2 : decode cL_isAnswer 2 = .ok (.iload 5, 2) := by decide +kernel
theorem dL_isAnswer_4 : decode cL_isAnswer 4 = .ok (.invokestatic 95, 3) := by decide +kernel
theorem dL_isAnswer_7 : decode cL_isAnswer 7 = .ok (.ifCond .eq 10, 3) := by decide +kernel
theorem dL_isAnswer_10 : decode cL_isAnswer 10 = .ok (.aload_n 2, 1) := by decide +kernel
theorem dL_isAnswer_11 : decode cL_isAnswer 11 = .ok (.iload 5, 2) := by decide +kernel
theorem dL_isAnswer_13 : decode cL_isAnswer 13 = .ok (.iaload, 1) := by decide +kernel
theorem dL_isAnswer_14 : decode cL_isAnswer 14 = .ok (.goto 4, 3) := by decide +kernel
theorem dL_isAnswer_17 : decode cL_isAnswer 17 = .ok (.iconst (-1), 1) := by decide +kernel
theorem dL_isAnswer_18 : decode cL_isAnswer 18 = .ok (.istore 6, 2) := by decide +kernel
theorem dL_isAnswer_20 : decode cL_isAnswer 20 = .ok (.aload_n 3, 1) := by decide +kernel
theorem dL_isAnswer_21 : decode cL_isAnswer 21 = .ok (.iload 5, 2) := by decide +kernel
theorem dL_isAnswer_23 : decode cL_isAnswer 23 = .ok (.iaload, 1) := by decide +kernel
theorem dL_isAnswer_24 : decode cL_isAnswer 24 = .ok (.ifCond .lt 26, 3) := by decide +kernel
theorem dL_isAnswer_27 : decode cL_isAnswer 27 = .ok (.aload 4, 2) := by decide +kernel
theorem dL_isAnswer_29 : decode cL_isAnswer 29 = .ok (.iconst 0, 1) := by decide +kernel
theorem dL_isAnswer_30 : decode cL_isAnswer 30 = .ok (.iaload, 1) := by decide +kernel
theorem dL_isAnswer_31 : decode cL_isAnswer 31 = .ok (.aload_n 3, 1) := by decide +kernel
theorem dL_isAnswer_32 : decode cL_isAnswer 32 = .ok (.iload 5, 2) := by decide +kernel
theorem dL_isAnswer_34 : decode cL_isAnswer 34 = .ok (.iaload, 1) := by decide +kernel
theorem dL_isAnswer_35 : decode cL_isAnswer 35 = .ok (.isub, 1) := by decide +kernel
theorem dL_isAnswer_36 : decode cL_isAnswer 36 = .ok (.aload_n 3, 1) := by decide +kernel
theorem dL_isAnswer_37 : decode cL_isAnswer 37 = .ok (.bipush 32, 2) := by decide +kernel
theorem dL_isAnswer_39 : decode cL_isAnswer 39 = .ok (.iload 5, 2) := by decide +kernel
theorem dL_isAnswer_41 : decode cL_isAnswer 41 = .ok (.iadd, 1) := by decide +kernel
theorem dL_isAnswer_42 : decode cL_isAnswer 42 = .ok (.iaload, 1) := by decide +kernel
theorem dL_isAnswer_43 : decode cL_isAnswer 43 = .ok (.if_icmp .ge 7, 3) := by decide +kernel
theorem dL_isAnswer_46 : decode cL_isAnswer 46 = .ok (.iconst 1, 1) := by decide +kernel
theorem dL_isAnswer_47 : decode cL_isAnswer 47 = .ok (.goto 4, 3) := by decide +kernel
theorem dL_isAnswer_50 : decode cL_isAnswer 50 = .ok (.iconst 0, 1) := by decide +kernel
theorem dL_isAnswer_51 : decode cL_isAnswer 51 = .ok (.istore 7, 2) := by decide +kernel
theorem dL_isAnswer_53 : decode cL_isAnswer 53 = .ok (.aload_n 0, 1) := by decide +kernel
theorem dL_isAnswer_54 : decode cL_isAnswer 54 = .ok (.iconst 0, 1) := by decide +kernel
theorem dL_isAnswer_55 : decode cL_isAnswer 55 = .ok (.iload 5, 2) := by decide +kernel
theorem dL_isAnswer_57 : decode cL_isAnswer 57 = .ok (.invokevirtual 69, 3) := by decide +kernel
theorem dL_isAnswer_60 : decode cL_isAnswer 60 = .ok (.iload 7, 2) := by decide +kernel
theorem dL_isAnswer_62 : decode cL_isAnswer 62 = .ok (.ifCond .eq 19, 3) := by decide +kernel
theorem dL_isAnswer_65 : decode cL_isAnswer 65 = .ok (.aload_n 3, 1) := by decide +kernel
theorem dL_isAnswer_66 : decode cL_isAnswer 66 = .ok (.bipush 16, 2) := by decide +kernel
theorem dL_isAnswer_68 : decode cL_isAnswer 68 = .ok (.iload 5, 2) := by decide +kernel
theorem dL_isAnswer_70 : decode cL_isAnswer 70 = .ok (.iadd, 1) := by decide +kernel
theorem dL_isAnswer_71 : decode cL_isAnswer 71 = .ok (.iaload, 1) := by decide +kernel
theorem dL_isAnswer_72 : decode cL_isAnswer 72 = .ok (.iload 6, 2) := by decide +kernel
theorem dL_isAnswer_74 : decode cL_isAnswer 74 = .ok (.if_icmp .eq 7, 3) := by decide +kernel
theorem dL_isAnswer_77 : decode cL_isAnswer 77 = .ok (.iconst 1, 1) := by decide +kernel
theorem dL_isAnswer_78 : decode cL_isAnswer 78 = .ok (.goto 4, 3) := by decide +kernel
theorem dL_isAnswer_81 : decode cL_isAnswer 81 = .ok (.iconst 0, 1) := by decide +kernel
theorem dL_isAnswer_82 : decode cL_isAnswer 82 = .ok (.if_icmp .ne 7, 3) := by decide +kernel
theorem dL_isAnswer_85 : decode cL_isAnswer 85 = .ok (.iconst 1, 1) := by decide +kernel
theorem dL_isAnswer_86 : decode cL_isAnswer 86 = .ok (.goto 4, 3) := by decide +kernel
theorem dL_isAnswer_89 : decode cL_isAnswer 89 = .ok (.iconst 0, 1) := by decide +kernel
theorem dL_isAnswer_90 : decode cL_isAnswer 90 = .ok (.istore 8, 2) := by decide +kernel
theorem dL_isAnswer_92 : decode cL_isAnswer 92 = .ok (.iload 7, 2) := by decide +kernel
theorem dL_isAnswer_94 : decode cL_isAnswer 94 = .ok (.ifCond .ne 67, 3) := by decide +kernel
theorem dL_isAnswer_97 : decode cL_isAnswer 97 = .ok (.aload 4, 2) := by decide +kernel
theorem dL_isAnswer_99 : decode cL_isAnswer 99 = .ok (.iconst 2, 1) := by decide +kernel
theorem dL_isAnswer_100 : decode cL_isAnswer 100 = .ok (.dup2, 1) := by decide +kernel
theorem dL_isAnswer_101 : decode cL_isAnswer 101 = .ok (.iaload, 1) := by decide +kernel
theorem dL_isAnswer_102 : decode cL_isAnswer 102 = .ok (.aload_n 3, 1) := by decide +kernel
theorem dL_isAnswer_103 : decode cL_isAnswer 103 = .ok (.iload 5, 2) := by decide +kernel
theorem dL_isAnswer_105 : decode cL_isAnswer 105 = .ok (.iaload, 1) := by decide +kernel
theorem dL_isAnswer_106 : decode cL_isAnswer 106 = .ok (.ifCond .ge 7, 3) := by decide +kernel
theorem dL_isAnswer_109 : decode cL_isAnswer 109 = .ok (.iconst 1, 1) := by decide +kernel
theorem dL_isAnswer_110 : decode cL_isAnswer 110 = .ok (.goto 4, 3) := by decide +kernel
theorem dL_isAnswer_113 : decode cL_isAnswer 113 = .ok (.iconst 0, 1) := by decide +kernel
theorem dL_isAnswer_114 : decode cL_isAnswer 114 = .ok (.iadd, 1) := by decide +kernel
theorem dL_isAnswer_115 : decode cL_isAnswer 115 = .ok (.iastore, 1) := by decide +kernel
theorem dL_isAnswer_116 : decode cL_isAnswer 116 = .ok (.aload_n 3, 1) := by decide +kernel
theorem dL_isAnswer_117 : decode cL_isAnswer 117 = .ok (.iload 5, 2) := by decide +kernel
theorem dL_isAnswer_119 : decode cL_isAnswer 119 = .ok (.aload 4, 2) := by decide +kernel
theorem dL_isAnswer_121 : decode cL_isAnswer 121 = .ok (.iconst 0, 1) := by decide +kernel
theorem dL_isAnswer_122 : decode cL_isAnswer 122 = .ok (.iaload, 1) := by decide +kernel
theorem dL_isAnswer_123 : decode cL_isAnswer 123 = .ok (.iastore, 1) := by decide +kernel
theorem dL_isAnswer_124 : decode cL_isAnswer 124 = .ok (.aload_n 3, 1) := by decide +kernel
theorem dL_isAnswer_125 : decode cL_isAnswer 125 = .ok (.bipush 16, 2) := by decide +kernel
theorem dL_isAnswer_127 : decode cL_isAnswer 127 = .ok (.iload 5, 2) := by decide +kernel
theorem dL_isAnswer_129 : decode cL_isAnswer 129 = .ok (.iadd, 1) := by decide +kernel
theorem dL_isAnswer_130 : decode cL_isAnswer 130 = .ok (.iload 6, 2) := by decide +kernel
theorem dL_isAnswer_132 : decode cL_isAnswer 132 = .ok (.iastore, 1) := by decide +kernel
theorem dL_isAnswer_133 : decode cL_isAnswer 133 = .ok (.aload_n 3, 1) := by decide +kernel
theorem dL_isAnswer_134 : decode cL_isAnswer 134 = .ok (.bipush 32, 2) := by decide +kernel
theorem dL_isAnswer_136 : decode cL_isAnswer 136 = .ok (.iload 5, 2) := by decide +kernel
theorem dL_isAnswer_138 : decode cL_isAnswer 138 = .ok (.iadd, 1) := by decide +kernel
theorem dL_isAnswer_139 : decode cL_isAnswer 139 = .ok (.aload_n 1, 1) := by decide +kernel
theorem dL_isAnswer_140 : decode cL_isAnswer 140 = .ok (.aload_n 2, 1) := by decide +kernel
theorem dL_isAnswer_141 : decode cL_isAnswer 141 = .ok (.iload 5, 2) := by decide +kernel
theorem dL_isAnswer_143 : decode cL_isAnswer 143 = .ok (.invokestatic 95, 3) := by decide +kernel
theorem dL_isAnswer_146 : decode cL_isAnswer 146 = .ok (.ifCond .eq 13, 3) := by decide +kernel
theorem dL_isAnswer_149 : decode cL_isAnswer 149 = .ok (.aload_n 2, 1) := by decide +kernel
theorem dL_isAnswer_150 : decode cL_isAnswer 150 = .ok (.bipush 16, 2) := by decide +kernel
theorem dL_isAnswer_152 : decode cL_isAnswer 152 = .ok (.iload 5, 2) := by decide +kernel
theorem dL_isAnswer_154 : decode cL_isAnswer 154 = .ok (.iadd, 1) := by decide +kernel
theorem dL_isAnswer_155 : decode cL_isAnswer 155 = .ok (.iaload, 1) := by decide +kernel
theorem dL_isAnswer_156 : decode cL_isAnswer 156 = .ok (.goto 4, 3) := by decide +kernel
theorem dL_isAnswer_159 : decode cL_isAnswer 159 = .ok (.iconst 5, 1) := by decide +kernel
theorem dL_isAnswer_160 : decode cL_isAnswer 160 = .ok (.iastore, 1) := by decide +kernel
theorem dL_isAnswer_161 : decode cL_isAnswer 161 = .ok (.iload 8, 2) := by decide +kernel
theorem dL_isAnswer_163 : decode cL_isAnswer 163 = .ok (.ifCond .eq 24, 3) := by decide +kernel
theorem dL_isAnswer_166 : decode cL_isAnswer 166 = .ok (.aload_n 0, 1) := by decide +kernel
theorem dL_isAnswer_167 : decode cL_isAnswer 167 = .ok (.iconst 0, 1) := by decide +kernel
theorem dL_isAnswer_168 : decode cL_isAnswer 168 = .ok (.iload 5, 2) := by decide +kernel
theorem dL_isAnswer_170 : decode cL_isAnswer 170 = .ok (.invokevirtual 66, 3) := by decide +kernel
theorem dL_isAnswer_173 : decode cL_isAnswer 173 = .ok (.aload_n 3, 1) := by decide +kernel
theorem dL_isAnswer_174 : decode cL_isAnswer 174 = .ok (.bipush 16, 2) := by decide +kernel
theorem dL_isAnswer_176 : decode cL_isAnswer 176 = .ok (.iload 5, 2) := by decide +kernel
theorem dL_isAnswer_178 : decode cL_isAnswer 178 = .ok (.iadd, 1) := by decide +kernel
theorem dL_isAnswer_179 : decode cL_isAnswer 179 = .ok (.iaload, 1) := by decide +kernel
theorem dL_isAnswer_180 : decode cL_isAnswer 180 = .ok (.if_icmp .ne 7, 3) := by decide +kernel
theorem dL_isAnswer_183 : decode cL_isAnswer 183 = .ok (.iconst 1, 1) := by decide +kernel
theorem dL_isAnswer_184 : decode cL_isAnswer 184 = .ok (.goto 4, 3) := by decide +kernel
theorem dL_isAnswer_187 : decode cL_isAnswer 187 = .ok (.iconst 0, 1) := by decide +kernel
theorem dL_isAnswer_188 : decode cL_isAnswer 188 = .ok (.ireturn, 1) := by decide +kernel
set_option maxRecDepth 20000 in
theorem ggL_isDone_L_part : GoodIn wsL_isDone wsL_part := goodIn_r _ [6, 7] (by decide +kernel) (by decide +kernel)
set_option maxRecDepth 20000 in
theorem gL_isDone_L_part : GoodIn wsL_isDone (va_wsS RL 99 yL_part wsL_part) := goodIn_app (goodIn_of _ (by decide +kernel)) ggL_isDone_L_part
set_option maxRecDepth 20000 in
theorem ggL_isDone_X2_funds : GoodIn wsL_isDone wsX2_funds := goodIn_ca (goodIn_r _ [12, 13, 14, 15, 11, 16, 17, 18, 290, 291, 292, 293, 294, 295] (by decide +kernel) (by decide +kernel)) (goodIn_sub (fun _ h => List.mem_cons_of_mem _ (List.mem_append_left _ (List.mem_append_left _ (List.mem_append_right _ h)))) (by decide +kernel))
set_option maxRecDepth 20000 in
theorem gL_isDone_X2_funds : GoodIn wsL_isDone (wsV RL 47 RX2 yX2_funds wsX2_funds) := goodIn_app (goodIn_of _ (by decide +kernel)) ggL_isDone_X2_funds
set_option maxRecDepth 20000 in
theorem ggL_isDone_L_does : GoodIn wsL_isDone wsL_does := goodIn_ca (goodIn_ca (goodIn_ca (goodIn_r _ [21, 22, 23, 24, 25, 26, 27, 11, 28, 29, 13, 14, 15, 16, 17, 18, 30, 31, 32, 33, 34, 35, 36, 37, 38, 39, 40, 41, 42, 43, 44, 45, 46, 47, 48, 49, 50, 51, 52, 53, 54, 55, 56, 57, 58, 59, 60, 61, 62, 63, 64, 65, 66, 67, 68, 69, 70, 71, 72, 73, 74, 75, 76, 77, 78, 79, 80, 81, 82, 83, 84, 85, 86, 87, 88, 89, 90, 91, 92, 93, 94, 95, 96, 97, 98, 99, 100, 101, 102, 103, 104, 105, 106, 107, 108, 109, 110, 111, 112, 113, 114, 115, 116, 117, 118, 119, 120, 121, 122, 123, 124, 125, 126, 127, 128, 129, 130, 131, 132, 133, 134, 135, 136, 137, 138, 139, 140, 141, 142, 143, 144, 145, 146, 147, 148, 149, 150, 290, 291, 292, 293, 294, 295, 296, 297, 298, 299, 300, 301, 302, 303, 304, 305, 306, 307, 308, 309, 310] (by decide +kernel) (by decide +kernel)) (goodIn_sub (fun _ h => List.mem_cons_of_mem _ (List.mem_append_left _ (List.mem_append_left _ (List.mem_append_right _ h)))) (by decide +kernel))) (goodIn_sub (fun _ h => List.mem_cons_of_mem _ (List.mem_append_left _ (List.mem_append_right _ h))) (by decide +kernel))) (goodIn_sub (fun _ h => List.mem_cons_of_mem _ (List.mem_append_right _ h)) (by decide +kernel))
set_option maxRecDepth 20000 in
theorem gL_isDone_L_does : GoodIn wsL_isDone (va_wsS RL 87 yL_does wsL_does) := goodIn_app (goodIn_of _ (by decide +kernel)) ggL_isDone_L_does
set_option maxRecDepth 20000 in
theorem ggL_isDone_L_isBid : GoodIn wsL_isDone wsL_isBid := goodIn_ca (goodIn_ca (goodIn_ca (goodIn_r _ [153, 2, 19, 20, 5, 21, 22, 23, 24, 25, 26, 27, 11, 28, 29, 13, 14, 15, 16, 17, 18, 30, 31, 32, 33, 34, 35, 36, 37, 38, 39, 40, 41, 42, 43, 44, 45, 46, 47, 48, 49, 50, 51, 52, 53, 54, 55, 56, 57, 58, 59, 60, 61, 62, 63, 64, 65, 66, 67, 68, 69, 70, 71, 72, 73, 74, 75, 76, 77, 78, 79, 80, 81, 82, 83, 84, 85, 86, 87, 88, 89, 90, 91, 92, 93, 94, 95, 96, 97, 98, 99, 100, 101, 102, 103, 104, 105, 106, 107, 108, 109, 110, 111, 112, 113, 114, 115, 116, 117, 118, 119, 120, 121, 122, 123, 124, 125, 126, 127, 128, 129, 130, 131, 132, 133, 134, 135, 136, 137, 138, 139, 140, 141, 142, 143, 144, 145, 146, 147, 148, 149, 150, 154, 155, 156, 157, 158, 159, 160, 290, 291, 292, 293, 294, 295, 296, 297, 298, 299, 300, 301, 302, 303, 304, 305, 306, 307, 308, 309, 310] (by decide +kernel) (by decide +kernel)) (goodIn_sub (fun _ h => List.mem_cons_of_mem _ (List.mem_append_left _ (List.mem_append_left _ (List.mem_append_right _ h)))) (by decide +kernel))) (goodIn_sub (fun _ h => List.mem_cons_of_mem _ (List.mem_append_left _ (List.mem_append_right _ h))) (by decide +kernel))) (goodIn_sub (fun _ h => List.mem_cons_of_mem _ (List.mem_append_right _ h)) (by decide +kernel))
set_option maxRecDepth 20000 in
theorem gL_isDone_L_isBid : GoodIn wsL_isDone (va_wsS RL 104 yL_isBid wsL_isBid) := goodIn_app (goodIn_of _ (by decide +kernel)) ggL_isDone_L_isBid
set_option maxRecDepth 20000 in
theorem ggL_isDone_L_isRenewed : GoodIn wsL_isDone wsL_isRenewed := goodIn_ca (goodIn_ca (goodIn_ca (goodIn_r _ [163, 19, 20, 5, 21, 22, 23, 24, 25, 26, 27, 11, 28, 29, 13, 14, 15, 16, 17, 18, 30, 31, 32, 33, 34, 35, 36, 37, 38, 39, 40, 41, 42, 43, 44, 45, 46, 47, 48, 49, 50, 51, 52, 53, 54, 55, 56, 57, 58, 59, 60, 61, 62, 63, 64, 65, 66, 67, 68, 69, 70, 71, 72, 73, 74, 75, 76, 77, 78, 79, 80, 81, 82, 83, 84, 85, 86, 87, 88, 89, 90, 91, 92, 93, 94, 95, 96, 97, 98, 99, 100, 101, 102, 103, 104, 105, 106, 107, 108, 109, 110, 111, 112, 113, 114, 115, 116, 117, 118, 119, 120, 121, 122, 123, 124, 125, 126, 127, 128, 129, 130, 131, 132, 133, 134, 135, 136, 137, 138, 139, 140, 141, 142, 143, 144, 145, 146, 147, 148, 149, 150, 8, 9, 10, 12, 290, 291, 292, 293, 294, 295, 296, 297, 298, 299, 300, 301, 302, 303, 304, 305, 306, 307, 308, 309, 310] (by decide +kernel) (by decide +kernel)) (goodIn_sub (fun _ h => List.mem_cons_of_mem _ (List.mem_append_left _ (List.mem_append_left _ (List.mem_append_right _ h)))) (by decide +kernel))) (goodIn_sub (fun _ h => List.mem_cons_of_mem _ (List.mem_append_left _ (List.mem_append_right _ h))) (by decide +kernel))) (goodIn_sub (fun _ h => List.mem_cons_of_mem _ (List.mem_append_right _ h)) (by decide +kernel))
set_option maxRecDepth 20000 in
theorem gL_isDone_L_isRenewed : GoodIn wsL_isDone (va_wsS RL 108 yL_isRenewed wsL_isRenewed) := goodIn_app (goodIn_of _ (by decide +kernel)) ggL_isDone_L_isRenewed
set_option maxRecDepth 20000 in
theorem ggL_isDone_L_isRedeemed : GoodIn wsL_isDone wsL_isRedeemed := goodIn_ca (goodIn_ca (goodIn_ca (goodIn_r _ [166, 19, 20, 5, 21, 22, 23, 24, 25, 26, 27, 11, 28, 29, 13, 14, 15, 16, 17, 18, 30, 31, 32, 33, 34, 35, 36, 37, 38, 39, 40, 41, 42, 43, 44, 45, 46, 47, 48, 49, 50, 51, 52, 53, 54, 55, 56, 57, 58, 59, 60, 61, 62, 63, 64, 65, 66, 67, 68, 69, 70, 71, 72, 73, 74, 75, 76, 77, 78, 79, 80, 81, 82, 83, 84, 85, 86, 87, 88, 89, 90, 91, 92, 93, 94, 95, 96, 97, 98, 99, 100, 101, 102, 103, 104, 105, 106, 107, 108, 109, 110, 111, 112, 113, 114, 115, 116, 117, 118, 119, 120, 121, 122, 123, 124, 125, 126, 127, 128, 129, 130, 131, 132, 133, 134, 135, 136, 137, 138, 139, 140, 141, 142, 143, 144, 145, 146, 147, 148, 149, 150, 8, 9, 10, 12, 290, 291, 292, 293, 294, 295, 296, 297, 298, 299, 300, 301, 302, 303, 304, 305, 306, 307, 308, 309, 310] (by decide +kernel) (by decide +kernel)) (goodIn_sub (fun _ h => List.mem_cons_of_mem _ (List.mem_append_left _ (List.mem_append_left _ (List.mem_append_right _ h)))) (by decide +kernel))) (goodIn_sub (fun _ h => List.mem_cons_of_mem _ (List.mem_append_left _ (List.mem_append_right _ h))) (by decide +kernel))) (goodIn_sub (fun _ h => List.mem_cons_of_mem _ (List.mem_append_right _ h)) (by decide +kernel))
set_option maxRecDepth 20000 in
theorem gL_isDone_L_isRedeemed : GoodIn wsL_isDone (va_wsS RL 112 yL_isRedeemed wsL_isRedeemed) := goodIn_app (goodIn_of _ (by decide +kernel)) ggL_isDone_L_isRedeemed
set_option maxRecDepth 20000 in
theorem ggL_isDone_L_isRecord : GoodIn wsL_isDone wsL_isRecord := goodIn_ca (goodIn_ca (goodIn_ca (goodIn_r _ [169, 19, 20, 5, 21, 22, 23, 24, 25, 26, 27, 11, 28, 29, 13, 14, 15, 16, 17, 18, 30, 31, 32, 33, 34, 35, 36, 37, 38, 39, 40, 41, 42, 43, 44, 45, 46, 47, 48, 49, 50, 51, 52, 53, 54, 55, 56, 57, 58, 59, 60, 61, 62, 63, 64, 65, 66, 67, 68, 69, 70, 71, 72, 73, 74, 75, 76, 77, 78, 79, 80, 81, 82, 83, 84, 85, 86, 87, 88, 89, 90, 91, 92, 93, 94, 95, 96, 97, 98, 99, 100, 101, 102, 103, 104, 105, 106, 107, 108, 109, 110, 111, 112, 113, 114, 115, 116, 117, 118, 119, 120, 121, 122, 123, 124, 125, 126, 127, 128, 129, 130, 131, 132, 133, 134, 135, 136, 137, 138, 139, 140, 141, 142, 143, 144, 145, 146, 147, 148, 149, 150, 290, 291, 292, 293, 294, 295, 296, 297, 298, 299, 300, 301, 302, 303, 304, 305, 306, 307, 308, 309, 310] (by decide +kernel) (by decide +kernel)) (goodIn_sub (fun _ h => List.mem_cons_of_mem _ (List.mem_append_left _ (List.mem_append_left _ (List.mem_append_right _ h)))) (by decide +kernel))) (goodIn_sub (fun _ h => List.mem_cons_of_mem _ (List.mem_append_left _ (List.mem_append_right _ h))) (by decide +kernel))) (goodIn_sub (fun _ h => List.mem_cons_of_mem _ (List.mem_append_right _ h)) (by decide +kernel))
set_option maxRecDepth 20000 in
theorem gL_isDone_L_isRecord : GoodIn wsL_isDone (va_wsS RL 116 yL_isRecord wsL_isRecord) := goodIn_app (goodIn_of _ (by decide +kernel)) ggL_isDone_L_isRecord
set_option maxRecDepth 20000 in
theorem ggL_isDone_L_isDisputed : GoodIn wsL_isDone wsL_isDisputed := goodIn_ca (goodIn_ca (goodIn_ca (goodIn_r _ [172, 19, 20, 5, 21, 22, 23, 24, 25, 26, 27, 11, 28, 29, 13, 14, 15, 16, 17, 18, 30, 31, 32, 33, 34, 35, 36, 37, 38, 39, 40, 41, 42, 43, 44, 45, 46, 47, 48, 49, 50, 51, 52, 53, 54, 55, 56, 57, 58, 59, 60, 61, 62, 63, 64, 65, 66, 67, 68, 69, 70, 71, 72, 73, 74, 75, 76, 77, 78, 79, 80, 81, 82, 83, 84, 85, 86, 87, 88, 89, 90, 91, 92, 93, 94, 95, 96, 97, 98, 99, 100, 101, 102, 103, 104, 105, 106, 107, 108, 109, 110, 111, 112, 113, 114, 115, 116, 117, 118, 119, 120, 121, 122, 123, 124, 125, 126, 127, 128, 129, 130, 131, 132, 133, 134, 135, 136, 137, 138, 139, 140, 141, 142, 143, 144, 145, 146, 147, 148, 149, 150, 290, 291, 292, 293, 294, 295, 296, 297, 298, 299, 300, 301, 302, 303, 304, 305, 306, 307, 308, 309, 310] (by decide +kernel) (by decide +kernel)) (goodIn_sub (fun _ h => List.mem_cons_of_mem _ (List.mem_append_left _ (List.mem_append_left _ (List.mem_append_right _ h)))) (by decide +kernel))) (goodIn_sub (fun _ h => List.mem_cons_of_mem _ (List.mem_append_left _ (List.mem_append_right _ h))) (by decide +kernel))) (goodIn_sub (fun _ h => List.mem_cons_of_mem _ (List.mem_append_right _ h)) (by decide +kernel))
set_option maxRecDepth 20000 in
theorem gL_isDone_L_isDisputed : GoodIn wsL_isDone (va_wsS RL 119 yL_isDisputed wsL_isDisputed) := goodIn_app (goodIn_of _ (by decide +kernel)) ggL_isDone_L_isDisputed
set_option maxRecDepth 20000 in
theorem ggL_isDone_L_isDecided : GoodIn wsL_isDone wsL_isDecided := goodIn_ca (goodIn_ca (goodIn_ca (goodIn_r _ [175, 19, 20, 5, 21, 22, 23, 24, 25, 26, 27, 11, 28, 29, 13, 14, 15, 16, 17, 18, 30, 31, 32, 33, 34, 35, 36, 37, 38, 39, 40, 41, 42, 43, 44, 45, 46, 47, 48, 49, 50, 51, 52, 53, 54, 55, 56, 57, 58, 59, 60, 61, 62, 63, 64, 65, 66, 67, 68, 69, 70, 71, 72, 73, 74, 75, 76, 77, 78, 79, 80, 81, 82, 83, 84, 85, 86, 87, 88, 89, 90, 91, 92, 93, 94, 95, 96, 97, 98, 99, 100, 101, 102, 103, 104, 105, 106, 107, 108, 109, 110, 111, 112, 113, 114, 115, 116, 117, 118, 119, 120, 121, 122, 123, 124, 125, 126, 127, 128, 129, 130, 131, 132, 133, 134, 135, 136, 137, 138, 139, 140, 141, 142, 143, 144, 145, 146, 147, 148, 149, 150, 176, 177, 178, 179, 180, 181, 182, 183, 184, 185, 186, 187, 188, 189, 190, 290, 291, 292, 293, 294, 295, 296, 297, 298, 299, 300, 301, 302, 303, 304, 305, 306, 307, 308, 309, 310] (by decide +kernel) (by decide +kernel)) (goodIn_sub (fun _ h => List.mem_cons_of_mem _ (List.mem_append_left _ (List.mem_append_left _ (List.mem_append_right _ h)))) (by decide +kernel))) (goodIn_sub (fun _ h => List.mem_cons_of_mem _ (List.mem_append_left _ (List.mem_append_right _ h))) (by decide +kernel))) (goodIn_sub (fun _ h => List.mem_cons_of_mem _ (List.mem_append_right _ h)) (by decide +kernel))
set_option maxRecDepth 20000 in
theorem gL_isDone_L_isDecided : GoodIn wsL_isDone (va_wsS RL 122 yL_isDecided wsL_isDecided) := goodIn_app (goodIn_of _ (by decide +kernel)) ggL_isDone_L_isDecided
set_option maxRecDepth 20000 in
theorem ggL_isDone_L_asks : GoodIn wsL_isDone wsL_asks := goodIn_ca (goodIn_r _ [193, 22, 8, 9, 10, 11, 12, 13, 14, 15, 16, 17, 18, 154, 155, 156, 157, 39, 158, 48, 159, 160, 84, 179, 180, 181, 182, 194, 195, 196, 197, 198, 199, 200, 201, 202, 203, 204, 205, 206, 207, 208, 209, 210, 211, 212, 213, 214, 215, 216, 217, 218, 219, 220, 221, 222, 223, 224, 225, 226, 227, 228, 229, 230, 231, 232, 233, 234, 235, 236, 237, 238, 239, 240, 241, 242, 243, 244, 245, 246, 247, 248, 249, 183, 184, 185, 186, 187, 188, 189, 190, 123, 124, 125, 51, 52, 77, 250, 251, 252, 253, 145, 40, 254, 147, 255, 256, 150, 257, 258, 259, 260, 261, 78, 262, 263, 264, 265, 100, 58, 59, 266, 267, 268, 79, 269, 270, 271, 272, 273, 274, 275, 276, 290, 291, 292, 293, 294, 295, 296, 297, 298, 299, 300, 301, 302, 303, 304, 305, 306, 307, 308, 309, 310] (by decide +kernel) (by decide +kernel)) (goodIn_sub (fun _ h => List.mem_cons_of_mem _ (List.mem_append_left _ (List.mem_append_left _ (List.mem_append_right _ h)))) (by decide +kernel))
set_option maxRecDepth 20000 in
theorem gL_isDone_L_asks : GoodIn wsL_isDone (va_wsS RL 73 yL_asks wsL_asks) := goodIn_app (goodIn_of _ (by decide +kernel)) ggL_isDone_L_asks
set_option maxRecDepth 20000 in
theorem ggL_isDone_L_isAnswer : GoodIn wsL_isDone wsL_isAnswer := goodIn_ca (goodIn_r _ [279, 280, 281, 5, 282, 273, 274, 275, 11, 276, 145, 40, 39, 14, 15, 16, 17, 18, 254, 147, 255, 256, 150, 257, 258, 259, 48, 260, 261, 78, 262, 263, 264, 265, 51, 100, 58, 59, 250, 251, 252, 253, 266, 267, 268, 79, 269, 270, 271, 272, 290, 291, 292, 293, 294, 295, 307, 308, 309, 310, 296, 297, 298, 299, 300, 301, 302, 303, 304, 305, 306] (by decide +kernel) (by decide +kernel)) (goodIn_sub (fun _ h => List.mem_cons_of_mem _ (List.mem_append_left _ (List.mem_append_left _ (List.mem_append_right _ h)))) (by decide +kernel))
set_option maxRecDepth 20000 in
theorem gL_isDone_L_isAnswer : GoodIn wsL_isDone (va_wsS RL 126 yL_isAnswer wsL_isAnswer) := goodIn_app (goodIn_of _ (by decide +kernel)) ggL_isDone_L_isAnswer
set_option maxRecDepth 20000 in
theorem ggL_isDone_X2_flush : GoodIn wsL_isDone wsX2_flush := goodIn_ca (goodIn_r _ [144, 145, 14, 15, 11, 16, 17, 18, 146, 147, 148, 149, 150, 290, 291, 292, 293, 294, 295, 307, 308, 309, 310] (by decide +kernel) (by decide +kernel)) (goodIn_sub (fun _ h => List.mem_cons_of_mem _ (List.mem_append_left _ (List.mem_append_left _ (List.mem_append_right _ h)))) (by decide +kernel))
set_option maxRecDepth 20000 in
theorem gL_isDone_X2_flush : GoodIn wsL_isDone (wsV RL 38 RX2 yX2_flush wsX2_flush) := goodIn_app (goodIn_of _ (by decide +kernel)) ggL_isDone_X2_flush
set_option maxRecDepth 20000 in
theorem ggL_isDone_L_isDay : GoodIn wsL_isDone wsL_isDay := goodIn_ca (goodIn_ca (goodIn_r _ [285, 286, 287, 288, 11, 289, 68, 115, 116, 117, 118, 40, 30, 31, 32, 33, 34, 119, 120, 121, 122, 39, 123, 48, 124, 125, 51, 52, 77, 126, 127, 128, 111, 112, 113, 114, 76, 80, 81, 82, 83, 84, 85, 86, 87, 88, 129, 130, 131, 132, 133, 134, 135, 136, 60, 61, 62, 63, 13, 137, 138, 139, 140, 64, 65, 66, 67, 73, 74, 75, 78, 79, 176, 177, 5, 178, 179, 180, 181, 182, 14, 15, 16, 17, 18, 183, 184, 185, 186, 187, 188, 189, 190, 290, 291, 292, 293, 294, 295, 296, 297, 298, 299, 300, 301, 302, 303, 304, 305, 306] (by decide +kernel) (by decide +kernel)) (goodIn_sub (fun _ h => List.mem_cons_of_mem _ (List.mem_append_left _ (List.mem_append_right _ h))) (by decide +kernel))) (goodIn_sub (fun _ h => List.mem_cons_of_mem _ (List.mem_append_left _ (List.mem_append_left _ (List.mem_append_right _ h)))) (by decide +kernel))
set_option maxRecDepth 20000 in
theorem gL_isDone_L_isDay : GoodIn wsL_isDone (va_wsS RL 130 yL_isDay wsL_isDay) := goodIn_app (goodIn_of _ (by decide +kernel)) ggL_isDone_L_isDay
theorem dL_isDone_0 : decode cL_isDone 0 = .ok (.aload_n 1, 1) := by decide +kernel
theorem dL_isDone_1 : decode cL_isDone 1 = .ok (.iload_n 2, 1) := by decide +kernel
theorem dL_isDone_2 : decode cL_isDone 2 = .ok (.bipush 40, 2) := by decide +kernel
theorem dL_isDone_4 : decode cL_isDone 4 = .ok (.invokestatic 99, 3) := by decide +kernel
theorem dL_isDone_7 : decode cL_isDone 7 = .ok (.istore 7, 2) := by decide +kernel
theorem dL_isDone_9 : decode cL_isDone 9 = .ok (.aload_n 1, 1) := by decide +kernel
theorem dL_isDone_10 : decode cL_isDone 10 = .ok (.iload_n 2, 1) := by decide +kernel
theorem dL_isDone_11 : decode cL_isDone 11 = .ok (.iconst 1, 1) := by decide +kernel
theorem dL_isDone_12 : decode cL_isDone 12 = .ok (.iadd, 1) := by decide +kernel
theorem dL_isDone_13 : decode cL_isDone 13 = .ok (.sipush 6000, 3) := by decide +kernel
theorem dL_isDone_16 : decode cL_isDone 16 = .ok (.invokestatic 99, 3) := by decide +kernel
theorem dL_isDone_19 : decode cL_isDone 19 = .ok (.istore 8, 2) := by decide +kernel
theorem dL_isDone_21 : decode cL_isDone 21 = .ok (.aload_n 1, 1) := by decide +kernel
theorem dL_isDone_22 : decode cL_isDone 22 = .ok (.iload_n 2, 1) := by decide +kernel
theorem dL_isDone_23 : decode cL_isDone 23 = .ok (.iconst 2, 1) := by decide +kernel
theorem dL_isDone_24 : decode cL_isDone 24 = .ok (.iadd, 1) := by decide +kernel
theorem dL_isDone_25 : decode cL_isDone 25 = .ok (.sipush 7000, 3) := by decide +kernel
theorem dL_isDone_28 : decode cL_isDone 28 = .ok (.invokestatic 99, 3) := by decide +kernel
theorem dL_isDone_31 : decode cL_isDone 31 = .ok (.istore 9, 2) := by decide +kernel
theorem dL_isDone_33 : decode cL_isDone 33 = .ok (.aload_n 1, 1) := by decide +kernel
theorem dL_isDone_34 : decode cL_isDone 34 = .ok (.iload_n 2, 1) := by decide +kernel
theorem dL_isDone_35 : decode cL_isDone 35 = .ok (.iconst 3, 1) := by decide +kernel
theorem dL_isDone_36 : decode cL_isDone 36 = .ok (.iadd, 1) := by decide +kernel
theorem dL_isDone_37 : decode cL_isDone 37 = .ok (.sipush 8000, 3) := by decide +kernel
theorem dL_isDone_40 : decode cL_isDone 40 = .ok (.invokestatic 99, 3) := by decide +kernel
theorem dL_isDone_43 : decode cL_isDone 43 = .ok (.istore 10, 2) := by decide +kernel
theorem dL_isDone_45 : decode cL_isDone 45 = .ok (.iload 8, 2) := by decide +kernel
theorem dL_isDone_47 : decode cL_isDone 47 = .ok (.bipush 40, 2) := by decide +kernel
theorem dL_isDone_49 : decode cL_isDone 49 = .ok (.irem, 1) := by decide +kernel
theorem dL_isDone_50 : decode cL_isDone 50 = .ok (.ifCond .ne 8, 3) := by decide +kernel
theorem dL_isDone_53 : decode cL_isDone 53 = .ok (.bipush 6, 2) := by decide +kernel
theorem dL_isDone_55 : decode cL_isDone 55 = .ok (.goto 8, 3) := by decide +kernel
theorem dL_isDone_58 : decode cL_isDone 58 = .ok (.iload 8, 2) := by decide +kernel
theorem dL_isDone_60 : decode cL_isDone 60 = .ok (.bipush 6, 2) := by decide +kernel
theorem dL_isDone_62 : decode cL_isDone 62 = .ok (.irem, 1) := by decide +kernel
theorem dL_isDone_63 : decode cL_isDone 63 = .ok (.istore 11, 2) := by decide +kernel
theorem dL_isDone_65 : decode cL_isDone 65 = .ok (.iload 9, 2) := by decide +kernel
theorem dL_isDone_67 : decode cL_isDone 67 = .ok (.bipush 40, 2) := by decide +kernel
theorem dL_isDone_69 : decode cL_isDone 69 = .ok (.irem, 1) := by decide +kernel
theorem dL_isDone_70 : decode cL_isDone 70 = .ok (.ifCond .ne 8, 3) := by decide +kernel
theorem dL_isDone_73 : decode cL_isDone 73 = .ok (.bipush 16, 2) := by decide +kernel
theorem dL_isDone_75 : decode cL_isDone 75 = .ok (.goto 7, 3) := by decide +kernel
theorem dL_isDone_78 : decode cL_isDone 78 = .ok (.iload 9, 2) := by decide +kernel
theorem dL_isDone_80 : decode cL_isDone 80 = .ok (.iconst 4, 1) := by decide +kernel
theorem dL_isDone_81 : decode cL_isDone 81 = .ok (.irem, 1) := by decide +kernel
theorem dL_isDone_82 : decode cL_isDone 82 = .ok (.istore 12, 2) := by decide +kernel
theorem dL_isDone_84 : decode cL_isDone 84 = .ok (.iload 7, 2) := by decide +kernel
theorem dL_isDone_86 : decode cL_isDone 86 = .ok (.bipush 6, 2) := by decide +kernel
theorem dL_isDone_88 : decode cL_isDone 88 = .ok (.if_icmp .ge 100, 3) := by decide +kernel
theorem dL_isDone_91 : decode cL_isDone 91 = .ok (.iload 10, 2) := by decide +kernel
theorem dL_isDone_93 : decode cL_isDone 93 = .ok (.bipush 30, 2) := by decide +kernel
theorem dL_isDone_95 : decode cL_isDone 95 = .ok (.irem, 1) := by decide +kernel
theorem dL_isDone_96 : decode cL_isDone 96 = .ok (.ifCond .ne 8, 3) := by decide +kernel
theorem dL_isDone_99 : decode cL_isDone 99 = .ok (.ldc 103, 2) := by decide +kernel
theorem dL_isDone_101 : decode cL_isDone 101 = .ok (.goto 11, 3) := by decide +kernel
theorem dL_isDone_104 : decode cL_isDone 104 = .ok (.iconst 1, 1) := by decide +kernel
theorem dL_isDone_105 : decode cL_isDone 105 = .ok (.iload 10, 2) := by decide +kernel
theorem dL_isDone_107 : decode cL_isDone 107 = .ok (.sipush 400, 3) := by decide +kernel
theorem dL_isDone_110 : decode cL_isDone 110 = .ok (.irem, 1) := by decide +kernel
theorem dL_isDone_111 : decode cL_isDone 111 = .ok (.iadd, 1) := by decide +kernel
theorem dL_isDone_112 : decode cL_isDone 112 = .ok (.istore 13, 2) := by decide +kernel
theorem dL_isDone_114 : decode cL_isDone 114 = .ok (.iload 11, 2) := by decide +kernel
theorem dL_isDone_116 : decode cL_isDone 116 = .ok (.bipush 6, 2) := by decide +kernel
theorem dL_isDone_118 : decode cL_isDone 118 = .ok (.if_icmp .ne 8, 3) := by decide +kernel
theorem dL_isDone_121 : decode cL_isDone 121 = .ok (.bipush (-30), 2) := by decide +kernel
theorem dL_isDone_123 : decode cL_isDone 123 = .ok (.goto 24, 3) := by decide +kernel
theorem dL_isDone_126 : decode cL_isDone 126 = .ok (.iload 13, 2) := by decide +kernel
theorem dL_isDone_128 : decode cL_isDone 128 = .ok (.ldc 86, 2) := by decide +kernel
theorem dL_isDone_130 : decode cL_isDone 130 = .ok (.if_icmp .le 8, 3) := by decide +kernel
theorem dL_isDone_133 : decode cL_isDone 133 = .ok (.bipush (-20), 2) := by decide +kernel
theorem dL_isDone_135 : decode cL_isDone 135 = .ok (.goto 12, 3) := by decide +kernel
theorem dL_isDone_138 : decode cL_isDone 138 = .ok (.aload_n 0, 1) := by decide +kernel
theorem dL_isDone_139 : decode cL_isDone 139 = .ok (.iload 11, 2) := by decide +kernel
theorem dL_isDone_141 : decode cL_isDone 141 = .ok (.invokevirtual 47, 3) := by decide +kernel
theorem dL_isDone_144 : decode cL_isDone 144 = .ok (.iload 13, 2) := by decide +kernel
theorem dL_isDone_146 : decode cL_isDone 146 = .ok (.iadd, 1) := by decide +kernel
theorem dL_isDone_147 : decode cL_isDone 147 = .ok (.istore 14, 2) := by decide +kernel
theorem dL_isDone_149 : decode cL_isDone 149 = .ok (.aload 6, 2) := by decide +kernel
theorem dL_isDone_151 : decode cL_isDone 151 = .ok (.iconst 1, 1) := by decide +kernel
theorem dL_isDone_152 : decode cL_isDone 152 = .ok (.dup2, 1) := by decide +kernel
theorem dL_isDone_153 : decode cL_isDone 153 = .ok (.iaload, 1) := by decide +kernel
theorem dL_isDone_154 : decode cL_isDone 154 = .ok (.iload 14, 2) := by decide +kernel
theorem dL_isDone_156 : decode cL_isDone 156 = .ok (.ifCond .le 8, 3) := by decide +kernel
theorem dL_isDone_159 : decode cL_isDone 159 = .ok (.iload 13, 2) := by decide +kernel
theorem dL_isDone_161 : decode cL_isDone 161 = .ok (.goto 4, 3) := by decide +kernel
theorem dL_isDone_164 : decode cL_isDone 164 = .ok (.iconst 0, 1) := by decide +kernel
theorem dL_isDone_165 : decode cL_isDone 165 = .ok (.iadd, 1) := by decide +kernel
theorem dL_isDone_166 : decode cL_isDone 166 = .ok (.iastore, 1) := by decide +kernel
theorem dL_isDone_167 : decode cL_isDone 167 = .ok (.aload_n 0, 1) := by decide +kernel
theorem dL_isDone_168 : decode cL_isDone 168 = .ok (.iconst 0, 1) := by decide +kernel
theorem dL_isDone_169 : decode cL_isDone 169 = .ok (.iload 11, 2) := by decide +kernel
theorem dL_isDone_171 : decode cL_isDone 171 = .ok (.iload 13, 2) := by decide +kernel
theorem dL_isDone_173 : decode cL_isDone 173 = .ok (.iconst 0, 1) := by decide +kernel
theorem dL_isDone_174 : decode cL_isDone 174 = .ok (.invokestatic 87, 3) := by decide +kernel
theorem dL_isDone_177 : decode cL_isDone 177 = .ok (.iload 14, 2) := by decide +kernel
theorem dL_isDone_179 : decode cL_isDone 179 = .ok (.if_icmp .ne 7, 3) := by decide +kernel
theorem dL_isDone_182 : decode cL_isDone 182 = .ok (.iconst 1, 1) := by decide +kernel
theorem dL_isDone_183 : decode cL_isDone 183 = .ok (.goto 4, 3) := by decide +kernel
theorem dL_isDone_186 : decode cL_isDone 186 = .ok (.iconst 0, 1) := by decide +kernel
theorem dL_isDone_187 : decode cL_isDone 187 = .ok (.ireturn, 1) := by decide +kernel
theorem dL_isDone_188 : decode cL_isDone 188 = .ok (.iload 7, 2) := by decide +kernel
theorem dL_isDone_190 : decode cL_isDone 190 = .ok (.bipush 16, 2) := by decide +kernel
theorem dL_isDone_192 : decode cL_isDone 192 = .ok (.if_icmp .ge 37, 3) := by decide +kernel
theorem dL_isDone_195 : decode cL_isDone 195 = .ok (.aload_n 0, 1) := by decide +kernel
theorem dL_isDone_196 : decode cL_isDone 196 = .ok (.aload_n 3, 1) := by decide +kernel
theorem dL_isDone_197 : decode cL_isDone 197 = .ok (.aload 6, 2) := by decide +kernel
theorem dL_isDone_199 : decode cL_isDone 199 = .ok (.iload 11, 2) := by decide +kernel
theorem dL_isDone_201 : decode cL_isDone 201 = .ok (.iload 12, 2) := by decide +kernel
theorem dL_isDone_203 : decode cL_isDone 203 = .ok (.iload 10, 2) := by decide +kernel
theorem dL_isDone_205 : decode cL_isDone 205 = .ok (.bipush 30, 2) := by decide +kernel
theorem dL_isDone_207 : decode cL_isDone 207 = .ok (.irem, 1) := by decide +kernel
theorem dL_isDone_208 : decode cL_isDone 208 = .ok (.ifCond .ne 8, 3) := by decide +kernel
theorem dL_isDone_211 : decode cL_isDone 211 = .ok (.bipush 9, 2) := by decide +kernel
theorem dL_isDone_213 : decode cL_isDone 213 = .ok (.goto 12, 3) := by decide +kernel
theorem dL_isDone_216 : decode cL_isDone 216 = .ok (.bipush 10, 2) := by decide +kernel
theorem dL_isDone_218 : decode cL_isDone 218 = .ok (.iload 10, 2) := by decide +kernel
theorem dL_isDone_220 : decode cL_isDone 220 = .ok (.sipush 300, 3) := by decide +kernel
theorem dL_isDone_223 : decode cL_isDone 223 = .ok (.irem, 1) := by decide +kernel
theorem dL_isDone_224 : decode cL_isDone 224 = .ok (.iadd, 1) := by decide +kernel
theorem dL_isDone_225 : decode cL_isDone 225 = .ok (.invokestatic 104, 3) := by decide +kernel
theorem dL_isDone_228 : decode cL_isDone 228 = .ok (.ireturn, 1) := by decide +kernel
theorem dL_isDone_229 : decode cL_isDone 229 = .ok (.iload 7, 2) := by decide +kernel
theorem dL_isDone_231 : decode cL_isDone 231 = .ok (.bipush 19, 2) := by decide +kernel
theorem dL_isDone_233 : decode cL_isDone 233 = .ok (.if_icmp .ge 18, 3) := by decide +kernel
theorem dL_isDone_236 : decode cL_isDone 236 = .ok (.aload_n 0, 1) := by decide +kernel
theorem dL_isDone_237 : decode cL_isDone 237 = .ok (.aload_n 3, 1) := by decide +kernel
theorem dL_isDone_238 : decode cL_isDone 238 = .ok (.aload 6, 2) := by decide +kernel
theorem dL_isDone_240 : decode cL_isDone 240 = .ok (.iload 12, 2) := by decide +kernel
theorem dL_isDone_242 : decode cL_isDone 242 = .ok (.iload 10, 2) := by decide +kernel
theorem dL_isDone_244 : decode cL_isDone 244 = .ok (.bipush 7, 2) := by decide +kernel
theorem dL_isDone_246 : decode cL_isDone 246 = .ok (.irem, 1) := by decide +kernel
theorem dL_isDone_247 : decode cL_isDone 247 = .ok (.invokestatic 108, 3) := by decide +kernel
theorem dL_isDone_250 : decode cL_isDone 250 = .ok (.ireturn, 1) := by decide +kernel
theorem dL_isDone_251 : decode cL_isDone 251 = .ok (.iload 7, 2) := by decide +kernel
theorem dL_isDone_253 : decode cL_isDone 253 = .ok (.bipush 19, 2) := by decide +kernel
theorem dL_isDone_255 : decode cL_isDone 255 = .ok (.if_icmp .ne 15, 3) := by decide +kernel
theorem dL_isDone_258 : decode cL_isDone 258 = .ok (.aload_n 0, 1) := by decide +kernel
theorem dL_isDone_259 : decode cL_isDone 259 = .ok (.aload_n 3, 1) := by decide +kernel
theorem dL_isDone_260 : decode cL_isDone 260 = .ok (.aload 4, 2) := by decide +kernel
theorem dL_isDone_262 : decode cL_isDone 262 = .ok (.aload 6, 2) := by decide +kernel
theorem dL_isDone_264 : decode cL_isDone 264 = .ok (.iload 12, 2) := by decide +kernel
theorem dL_isDone_266 : decode cL_isDone 266 = .ok (.invokestatic 112, 3) := by decide +kernel
theorem dL_isDone_269 : decode cL_isDone 269 = .ok (.ireturn, 1) := by decide +kernel
theorem dL_isDone_270 : decode cL_isDone 270 = .ok (.iload 7, 2) := by decide +kernel
theorem dL_isDone_272 : decode cL_isDone 272 = .ok (.bipush 23, 2) := by decide +kernel
theorem dL_isDone_274 : decode cL_isDone 274 = .ok (.if_icmp .ge 38, 3) := by decide +kernel
theorem dL_isDone_277 : decode cL_isDone 277 = .ok (.aload_n 0, 1) := by decide +kernel
theorem dL_isDone_278 : decode cL_isDone 278 = .ok (.aload_n 3, 1) := by decide +kernel
theorem dL_isDone_279 : decode cL_isDone 279 = .ok (.aload 4, 2) := by decide +kernel
theorem dL_isDone_281 : decode cL_isDone 281 = .ok (.iload 12, 2) := by decide +kernel
theorem dL_isDone_283 : decode cL_isDone 283 = .ok (.iload 10, 2) := by decide +kernel
theorem dL_isDone_285 : decode cL_isDone 285 = .ok (.bipush 30, 2) := by decide +kernel
theorem dL_isDone_287 : decode cL_isDone 287 = .ok (.irem, 1) := by decide +kernel
theorem dL_isDone_288 : decode cL_isDone 288 = .ok (.ifCond .ne 9, 3) := by decide +kernel
theorem dL_isDone_291 : decode cL_isDone 291 = .ok (.sipush 1000, 3) := by decide +kernel
theorem dL_isDone_294 : decode cL_isDone 294 = .ok (.goto 9, 3) := by decide +kernel
theorem dL_isDone_297 : decode cL_isDone 297 = .ok (.iload 10, 2) := by decide +kernel
theorem dL_isDone_299 : decode cL_isDone 299 = .ok (.sipush 1000, 3) := by decide +kernel
theorem dL_isDone_302 : decode cL_isDone 302 = .ok (.irem, 1) := by decide +kernel
theorem dL_isDone_303 : decode cL_isDone 303 = .ok (.iload 8, 2) := by decide +kernel
theorem dL_isDone_305 : decode cL_isDone 305 = .ok (.bipush 52, 2) := by decide +kernel
theorem dL_isDone_307 : decode cL_isDone 307 = .ok (.irem, 1) := by decide +kernel
theorem dL_isDone_308 : decode cL_isDone 308 = .ok (.invokestatic 116, 3) := by decide +kernel
theorem dL_isDone_311 : decode cL_isDone 311 = .ok (.ireturn, 1) := by decide +kernel
theorem dL_isDone_312 : decode cL_isDone 312 = .ok (.iload 7, 2) := by decide +kernel
theorem dL_isDone_314 : decode cL_isDone 314 = .ok (.bipush 26, 2) := by decide +kernel
theorem dL_isDone_316 : decode cL_isDone 316 = .ok (.if_icmp .ge 15, 3) := by decide +kernel
theorem dL_isDone_319 : decode cL_isDone 319 = .ok (.aload_n 0, 1) := by decide +kernel
theorem dL_isDone_320 : decode cL_isDone 320 = .ok (.aload_n 3, 1) := by decide +kernel
theorem dL_isDone_321 : decode cL_isDone 321 = .ok (.aload 4, 2) := by decide +kernel
theorem dL_isDone_323 : decode cL_isDone 323 = .ok (.iload 11, 2) := by decide +kernel
theorem dL_isDone_325 : decode cL_isDone 325 = .ok (.iload 12, 2) := by decide +kernel
theorem dL_isDone_327 : decode cL_isDone 327 = .ok (.invokestatic 119, 3) := by decide +kernel
theorem dL_isDone_330 : decode cL_isDone 330 = .ok (.ireturn, 1) := by decide +kernel
theorem dL_isDone_331 : decode cL_isDone 331 = .ok (.iload 7, 2) := by decide +kernel
theorem dL_isDone_333 : decode cL_isDone 333 = .ok (.bipush 29, 2) := by decide +kernel
theorem dL_isDone_335 : decode cL_isDone 335 = .ok (.if_icmp .ge 19, 3) := by decide +kernel
theorem dL_isDone_338 : decode cL_isDone 338 = .ok (.aload_n 0, 1) := by decide +kernel
theorem dL_isDone_339 : decode cL_isDone 339 = .ok (.aload_n 3, 1) := by decide +kernel
theorem dL_isDone_340 : decode cL_isDone 340 = .ok (.aload 4, 2) := by decide +kernel
theorem dL_isDone_342 : decode cL_isDone 342 = .ok (.aload 6, 2) := by decide +kernel
theorem dL_isDone_344 : decode cL_isDone 344 = .ok (.iload 12, 2) := by decide +kernel
theorem dL_isDone_346 : decode cL_isDone 346 = .ok (.iload 10, 2) := by decide +kernel
theorem dL_isDone_348 : decode cL_isDone 348 = .ok (.iconst 2, 1) := by decide +kernel
theorem dL_isDone_349 : decode cL_isDone 349 = .ok (.irem, 1) := by decide +kernel
theorem dL_isDone_350 : decode cL_isDone 350 = .ok (.invokestatic 122, 3) := by decide +kernel
theorem dL_isDone_353 : decode cL_isDone 353 = .ok (.ireturn, 1) := by decide +kernel
theorem dL_isDone_354 : decode cL_isDone 354 = .ok (.iload 7, 2) := by decide +kernel
theorem dL_isDone_356 : decode cL_isDone 356 = .ok (.bipush 33, 2) := by decide +kernel
theorem dL_isDone_358 : decode cL_isDone 358 = .ok (.if_icmp .ge 72, 3) := by decide +kernel
theorem dL_isDone_361 : decode cL_isDone 361 = .ok (.iload 12, 2) := by decide +kernel
theorem dL_isDone_363 : decode cL_isDone 363 = .ok (.bipush 16, 2) := by decide +kernel
theorem dL_isDone_365 : decode cL_isDone 365 = .ok (.if_icmp .ne 51, 3) := by decide +kernel
theorem dL_isDone_368 : decode cL_isDone 368 = .ok (.aload_n 0, 1) := by decide +kernel
theorem dL_isDone_369 : decode cL_isDone 369 = .ok (.bipush 6, 2) := by decide +kernel
theorem dL_isDone_371 : decode cL_isDone 371 = .ok (.iconst 0, 1) := by decide +kernel
theorem dL_isDone_372 : decode cL_isDone 372 = .ok (.bipush 16, 2) := by decide +kernel
theorem dL_isDone_374 : decode cL_isDone 374 = .ok (.invokestatic 73, 3) := by decide +kernel
theorem dL_isDone_377 : decode cL_isDone 377 = .ok (.bipush (-30), 2) := by decide +kernel
theorem dL_isDone_379 : decode cL_isDone 379 = .ok (.if_icmp .ne 33, 3) := by decide +kernel
theorem dL_isDone_382 : decode cL_isDone 382 = .ok (.aload_n 0, 1) := by decide +kernel
theorem dL_isDone_383 : decode cL_isDone 383 = .ok (.bipush 6, 2) := by decide +kernel
theorem dL_isDone_385 : decode cL_isDone 385 = .ok (.iconst 3, 1) := by decide +kernel
theorem dL_isDone_386 : decode cL_isDone 386 = .ok (.iconst 0, 1) := by decide +kernel
theorem dL_isDone_387 : decode cL_isDone 387 = .ok (.invokestatic 73, 3) := by decide +kernel
theorem dL_isDone_390 : decode cL_isDone 390 = .ok (.bipush (-30), 2) := by decide +kernel
theorem dL_isDone_392 : decode cL_isDone 392 = .ok (.if_icmp .ne 20, 3) := by decide +kernel
theorem dL_isDone_395 : decode cL_isDone 395 = .ok (.aload_n 0, 1) := by decide +kernel
theorem dL_isDone_396 : decode cL_isDone 396 = .ok (.bipush 7, 2) := by decide +kernel
theorem dL_isDone_398 : decode cL_isDone 398 = .ok (.iconst (-1), 1) := by decide +kernel
theorem dL_isDone_399 : decode cL_isDone 399 = .ok (.iconst 0, 1) := by decide +kernel
theorem dL_isDone_400 : decode cL_isDone 400 = .ok (.invokestatic 73, 3) := by decide +kernel
theorem dL_isDone_403 : decode cL_isDone 403 = .ok (.bipush (-30), 2) := by decide +kernel
theorem dL_isDone_405 : decode cL_isDone 405 = .ok (.if_icmp .ne 7, 3) := by decide +kernel
theorem dL_isDone_408 : decode cL_isDone 408 = .ok (.iconst 1, 1) := by decide +kernel
theorem dL_isDone_409 : decode cL_isDone 409 = .ok (.goto 20, 3) := by decide +kernel
theorem dL_isDone_412 : decode cL_isDone 412 = .ok (.iconst 0, 1) := by decide +kernel
theorem dL_isDone_413 : decode cL_isDone 413 = .ok (.goto 16, 3) := by decide +kernel
theorem dL_isDone_416 : decode cL_isDone 416 = .ok (.aload_n 0, 1) := by decide +kernel
theorem dL_isDone_417 : decode cL_isDone 417 = .ok (.aload_n 3, 1) := by decide +kernel
theorem dL_isDone_418 : decode cL_isDone 418 = .ok (.aload 4, 2) := by decide +kernel
theorem dL_isDone_420 : decode cL_isDone 420 = .ok (.aload 5, 2) := by decide +kernel
theorem dL_isDone_422 : decode cL_isDone 422 = .ok (.aload 6, 2) := by decide +kernel
theorem dL_isDone_424 : decode cL_isDone 424 = .ok (.iload 12, 2) := by decide +kernel
theorem dL_isDone_426 : decode cL_isDone 426 = .ok (.invokestatic 126, 3) := by decide +kernel
theorem dL_isDone_429 : decode cL_isDone 429 = .ok (.ireturn, 1) := by decide +kernel
theorem dL_isDone_430 : decode cL_isDone 430 = .ok (.iload 7, 2) := by decide +kernel
theorem dL_isDone_432 : decode cL_isDone 432 = .ok (.bipush 33, 2) := by decide +kernel
theorem dL_isDone_434 : decode cL_isDone 434 = .ok (.if_icmp .ne 66, 3) := by decide +kernel
theorem dL_isDone_437 : decode cL_isDone 437 = .ok (.aload 6, 2) := by decide +kernel
theorem dL_isDone_439 : decode cL_isDone 439 = .ok (.iconst 2, 1) := by decide +kernel
theorem dL_isDone_440 : decode cL_isDone 440 = .ok (.iaload, 1) := by decide +kernel
theorem dL_isDone_441 : decode cL_isDone 441 = .ok (.istore 13, 2) := by decide +kernel
theorem dL_isDone_443 : decode cL_isDone 443 = .ok (.iconst 0, 1) := by decide +kernel
theorem dL_isDone_444 : decode cL_isDone 444 = .ok (.istore 14, 2) := by decide +kernel
theorem dL_isDone_446 : decode cL_isDone 446 = .ok (.iload 14, 2) := by decide +kernel
theorem dL_isDone_448 : decode cL_isDone 448 = .ok (.bipush 16, 2) := by decide +kernel
theorem dL_isDone_450 : decode cL_isDone 450 = .ok (.if_icmp .ge 15, 3) := by decide +kernel
theorem dL_isDone_453 : decode cL_isDone 453 = .ok (.aload 5, 2) := by decide +kernel
theorem dL_isDone_455 : decode cL_isDone 455 = .ok (.iload 14, 2) := by decide +kernel
theorem dL_isDone_457 : decode cL_isDone 457 = .ok (.iconst (-1), 1) := by decide +kernel
theorem dL_isDone_458 : decode cL_isDone 458 = .ok (.iastore, 1) := by decide +kernel
theorem dL_isDone_459 : decode cL_isDone 459 = .ok (.iinc 14 1, 3) := by decide +kernel
theorem dL_isDone_462 : decode cL_isDone 462 = .ok (.goto (-16), 3) := by decide +kernel
theorem dL_isDone_465 : decode cL_isDone 465 = .ok (.aload 6, 2) := by decide +kernel
theorem dL_isDone_467 : decode cL_isDone 467 = .ok (.iconst 2, 1) := by decide +kernel
theorem dL_isDone_468 : decode cL_isDone 468 = .ok (.iconst 0, 1) := by decide +kernel
theorem dL_isDone_469 : decode cL_isDone 469 = .ok (.iastore, 1) := by decide +kernel
theorem dL_isDone_470 : decode cL_isDone 470 = .ok (.aload_n 0, 1) := by decide +kernel
theorem dL_isDone_471 : decode cL_isDone 471 = .ok (.iconst 0, 1) := by decide +kernel
theorem dL_isDone_472 : decode cL_isDone 472 = .ok (.invokevirtual 38, 3) := by decide +kernel
theorem dL_isDone_475 : decode cL_isDone 475 = .ok (.iload 13, 2) := by decide +kernel
theorem dL_isDone_477 : decode cL_isDone 477 = .ok (.if_icmp .ne 21, 3) := by decide +kernel
theorem dL_isDone_480 : decode cL_isDone 480 = .ok (.aload_n 0, 1) := by decide +kernel
theorem dL_isDone_481 : decode cL_isDone 481 = .ok (.bipush 8, 2) := by decide +kernel
theorem dL_isDone_483 : decode cL_isDone 483 = .ok (.iconst 3, 1) := by decide +kernel
theorem dL_isDone_484 : decode cL_isDone 484 = .ok (.iconst 0, 1) := by decide +kernel
theorem dL_isDone_485 : decode cL_isDone 485 = .ok (.iconst 0, 1) := by decide +kernel
theorem dL_isDone_486 : decode cL_isDone 486 = .ok (.invokestatic 87, 3) := by decide +kernel
theorem dL_isDone_489 : decode cL_isDone 489 = .ok (.bipush (-30), 2) := by decide +kernel
theorem dL_isDone_491 : decode cL_isDone 491 = .ok (.if_icmp .ne 7, 3) := by decide +kernel
theorem dL_isDone_494 : decode cL_isDone 494 = .ok (.iconst 1, 1) := by decide +kernel
theorem dL_isDone_495 : decode cL_isDone 495 = .ok (.goto 4, 3) := by decide +kernel
theorem dL_isDone_498 : decode cL_isDone 498 = .ok (.iconst 0, 1) := by decide +kernel
theorem dL_isDone_499 : decode cL_isDone 499 = .ok (.ireturn, 1) := by decide +kernel
theorem dL_isDone_500 : decode cL_isDone 500 = .ok (.aload_n 0, 1) := by decide +kernel
theorem dL_isDone_501 : decode cL_isDone 501 = .ok (.bipush 7, 2) := by decide +kernel
theorem dL_isDone_503 : decode cL_isDone 503 = .ok (.iconst 0, 1) := by decide +kernel
theorem dL_isDone_504 : decode cL_isDone 504 = .ok (.iconst 0, 1) := by decide +kernel
theorem dL_isDone_505 : decode cL_isDone 505 = .ok (.iconst 0, 1) := by decide +kernel
theorem dL_isDone_506 : decode cL_isDone 506 = .ok (.invokestatic 87, 3) := by decide +kernel
theorem dL_isDone_509 : decode cL_isDone 509 = .ok (.bipush (-20), 2) := by decide +kernel
theorem dL_isDone_511 : decode cL_isDone 511 = .ok (.if_icmp .ne 23, 3) := by decide +kernel
theorem dL_isDone_514 : decode cL_isDone 514 = .ok (.aload_n 0, 1) := by decide +kernel
theorem dL_isDone_515 : decode cL_isDone 515 = .ok (.bipush 7, 2) := by decide +kernel
theorem dL_isDone_517 : decode cL_isDone 517 = .ok (.sipush 201, 3) := by decide +kernel
theorem dL_isDone_520 : decode cL_isDone 520 = .ok (.iconst 0, 1) := by decide +kernel
theorem dL_isDone_521 : decode cL_isDone 521 = .ok (.iconst 0, 1) := by decide +kernel
theorem dL_isDone_522 : decode cL_isDone 522 = .ok (.invokestatic 87, 3) := by decide +kernel
theorem dL_isDone_525 : decode cL_isDone 525 = .ok (.bipush (-20), 2) := by decide +kernel
theorem dL_isDone_527 : decode cL_isDone 527 = .ok (.if_icmp .ne 7, 3) := by decide +kernel
theorem dL_isDone_530 : decode cL_isDone 530 = .ok (.iconst 1, 1) := by decide +kernel
theorem dL_isDone_531 : decode cL_isDone 531 = .ok (.goto 4, 3) := by decide +kernel
theorem dL_isDone_534 : decode cL_isDone 534 = .ok (.iconst 0, 1) := by decide +kernel
theorem dL_isDone_535 : decode cL_isDone 535 = .ok (.istore 13, 2) := by decide +kernel
theorem dL_isDone_537 : decode cL_isDone 537 = .ok (.iload 12, 2) := by decide +kernel
theorem dL_isDone_539 : decode cL_isDone 539 = .ok (.bipush 16, 2) := by decide +kernel
theorem dL_isDone_541 : decode cL_isDone 541 = .ok (.if_icmp .ge 39, 3) := by decide +kernel
theorem dL_isDone_544 : decode cL_isDone 544 = .ok (.iload 10, 2) := by decide +kernel
theorem dL_isDone_546 : decode cL_isDone 546 = .ok (.iconst 3, 1) := by decide +kernel
theorem dL_isDone_547 : decode cL_isDone 547 = .ok (.irem, 1) := by decide +kernel
theorem dL_isDone_548 : decode cL_isDone 548 = .ok (.ifCond .ne 32, 3) := by decide +kernel
theorem dL_isDone_551 : decode cL_isDone 551 = .ok (.aload_n 3, 1) := by decide +kernel
theorem dL_isDone_552 : decode cL_isDone 552 = .ok (.bipush 32, 2) := by decide +kernel
theorem dL_isDone_554 : decode cL_isDone 554 = .ok (.iload 12, 2) := by decide +kernel
theorem dL_isDone_556 : decode cL_isDone 556 = .ok (.iadd, 1) := by decide +kernel
theorem dL_isDone_557 : decode cL_isDone 557 = .ok (.iaload, 1) := by decide +kernel
theorem dL_isDone_558 : decode cL_isDone 558 = .ok (.aload 6, 2) := by decide +kernel
theorem dL_isDone_560 : decode cL_isDone 560 = .ok (.iconst 0, 1) := by decide +kernel
theorem dL_isDone_561 : decode cL_isDone 561 = .ok (.iaload, 1) := by decide +kernel
theorem dL_isDone_562 : decode cL_isDone 562 = .ok (.if_icmp .le 18, 3) := by decide +kernel
theorem dL_isDone_565 : decode cL_isDone 565 = .ok (.aload_n 3, 1) := by decide +kernel
theorem dL_isDone_566 : decode cL_isDone 566 = .ok (.bipush 32, 2) := by decide +kernel
theorem dL_isDone_568 : decode cL_isDone 568 = .ok (.iload 12, 2) := by decide +kernel
theorem dL_isDone_570 : decode cL_isDone 570 = .ok (.iadd, 1) := by decide +kernel
theorem dL_isDone_571 : decode cL_isDone 571 = .ok (.iaload, 1) := by decide +kernel
theorem dL_isDone_572 : decode cL_isDone 572 = .ok (.aload 6, 2) := by decide +kernel
theorem dL_isDone_574 : decode cL_isDone 574 = .ok (.iconst 0, 1) := by decide +kernel
theorem dL_isDone_575 : decode cL_isDone 575 = .ok (.iaload, 1) := by decide +kernel
theorem dL_isDone_576 : decode cL_isDone 576 = .ok (.isub, 1) := by decide +kernel
theorem dL_isDone_577 : decode cL_isDone 577 = .ok (.goto 10, 3) := by decide +kernel
theorem dL_isDone_580 : decode cL_isDone 580 = .ok (.iconst 1, 1) := by decide +kernel
theorem dL_isDone_581 : decode cL_isDone 581 = .ok (.iload 10, 2) := by decide +kernel
theorem dL_isDone_583 : decode cL_isDone 583 = .ok (.bipush 9, 2) := by decide +kernel
theorem dL_isDone_585 : decode cL_isDone 585 = .ok (.irem, 1) := by decide +kernel
theorem dL_isDone_586 : decode cL_isDone 586 = .ok (.iadd, 1) := by decide +kernel
theorem dL_isDone_587 : decode cL_isDone 587 = .ok (.istore 14, 2) := by decide +kernel
theorem dL_isDone_589 : decode cL_isDone 589 = .ok (.iconst 0, 1) := by decide +kernel
theorem dL_isDone_590 : decode cL_isDone 590 = .ok (.istore 15, 2) := by decide +kernel
theorem dL_isDone_592 : decode cL_isDone 592 = .ok (.iload 15, 2) := by decide +kernel
theorem dL_isDone_594 : decode cL_isDone 594 = .ok (.iload 14, 2) := by decide +kernel
theorem dL_isDone_596 : decode cL_isDone 596 = .ok (.if_icmp .ge 32, 3) := by decide +kernel
theorem dL_isDone_599 : decode cL_isDone 599 = .ok (.iload 15, 2) := by decide +kernel
theorem dL_isDone_601 : decode cL_isDone 601 = .ok (.bipush 110, 2) := by decide +kernel
theorem dL_isDone_603 : decode cL_isDone 603 = .ok (.if_icmp .ge 25, 3) := by decide +kernel
theorem dL_isDone_606 : decode cL_isDone 606 = .ok (.iload 13, 2) := by decide +kernel
theorem dL_isDone_608 : decode cL_isDone 608 = .ok (.ifCond .eq 20, 3) := by decide +kernel
theorem dL_isDone_611 : decode cL_isDone 611 = .ok (.aload_n 0, 1) := by decide +kernel
theorem dL_isDone_612 : decode cL_isDone 612 = .ok (.aload_n 3, 1) := by decide +kernel
theorem dL_isDone_613 : decode cL_isDone 613 = .ok (.aload 4, 2) := by decide +kernel
theorem dL_isDone_615 : decode cL_isDone 615 = .ok (.aload 6, 2) := by decide +kernel
theorem dL_isDone_617 : decode cL_isDone 617 = .ok (.invokestatic 130, 3) := by decide +kernel
theorem dL_isDone_620 : decode cL_isDone 620 = .ok (.istore 13, 2) := by decide +kernel
theorem dL_isDone_622 : decode cL_isDone 622 = .ok (.iinc 15 1, 3) := by decide +kernel
theorem dL_isDone_625 : decode cL_isDone 625 = .ok (.goto (-33), 3) := by decide +kernel
theorem dL_isDone_628 : decode cL_isDone 628 = .ok (.iload 13, 2) := by decide +kernel
theorem dL_isDone_630 : decode cL_isDone 630 = .ok (.ireturn, 1) := by decide +kernel
set_option maxRecDepth 20000 in
theorem ggL_law_X2_init : GoodIn wsL_law wsX2_init := goodIn_r _ [6, 7, 8, 9, 3, 10, 11, 12, 13, 14, 15, 16, 17, 18, 19, 20, 21, 22, 23, 24, 25, 26, 27, 28, 29, 30, 31, 32, 33, 322, 323, 324, 325, 326, 327, 328, 329, 330, 331, 332, 333, 334, 335, 336, 337, 338, 339, 340, 341, 342] (by decide +kernel) (by decide +kernel)
set_option maxRecDepth 20000 in
theorem gL_law_X2_init : GoodIn wsL_law (wsX2_init) := ggL_law_X2_init
set_option maxRecDepth 20000 in
theorem ggL_law_L_areNames : GoodIn wsL_law wsL_areNames := goodIn_ca (goodIn_r _ [37, 38, 39, 40, 2, 41, 42, 43, 44, 45, 46, 47, 48, 49, 36, 50, 51, 52, 53, 54, 55, 10, 56, 57, 58, 59, 60, 61, 62, 63, 64, 12, 65, 16, 66, 67, 24, 68, 69, 70, 71, 72, 73, 74, 75, 76, 77, 78, 79, 80, 81, 82, 83, 84, 85, 86, 87, 88, 89, 90, 91, 92, 93, 94, 95, 96, 97, 98, 99, 100, 101, 102, 103, 104, 105, 106, 107, 108, 109, 110, 111, 112, 113, 114, 115, 116, 117, 118, 119, 120, 121, 122, 123, 124, 125, 126, 127, 128, 129, 130, 131, 132, 133, 134, 135, 136, 137, 138, 22, 139, 140, 141, 142, 143, 144, 14, 145, 18, 146, 147, 30, 33, 32, 148, 149, 150, 151, 152, 153, 154, 155, 156, 157, 158, 159, 160, 161, 162, 163, 164, 165, 31, 166, 167, 168, 169, 322, 323, 324, 325, 326, 327, 328, 329, 330, 331, 332, 333, 334, 335, 336, 337, 338, 339, 340, 341, 342] (by decide +kernel) (by decide +kernel)) (goodIn_sub (fun _ h => List.mem_append_left _ (List.mem_append_left _ (List.mem_append_right _ h))) (by decide +kernel))
set_option maxRecDepth 20000 in
theorem gL_law_L_areNames : GoodIn wsL_law (va_wsS RL 135 yL_areNames wsL_areNames) := goodIn_app (goodIn_of _ (by decide +kernel)) ggL_law_L_areNames
set_option maxRecDepth 20000 in
theorem ggI_0 : GoodIn wsL_law [.code yL_isDone cL_isDone 16 (some .boolean)] := goodIn_r _ [172] rfl (by decide +kernel)
set_option maxRecDepth 20000 in
theorem ggI_1 : GoodIn wsL_law wsL_isDone_r1 := goodIn_r _ [173, 174, 175, 176, 36, 177, 178, 52, 53, 54, 2, 55, 10, 56, 57, 58, 59, 60, 179, 180, 181, 51, 182, 183] rfl (by decide +kernel)
set_option maxRecDepth 20000 in
theorem ggI_2 : GoodIn wsL_law wsL_isDone_r2 := goodIn_r _ [184, 185, 186, 187, 188, 189, 190, 191, 192, 193, 194, 195, 196, 197, 12, 47, 198, 199, 200, 201, 202, 203, 204, 16] rfl (by decide +kernel)
set_option maxRecDepth 20000 in
theorem ggI_3 : GoodIn wsL_law wsL_isDone_r3 := goodIn_r _ [205, 206, 22, 139, 207, 208, 209, 210, 211, 157, 158, 212, 213, 214, 215, 216, 217, 218, 219, 42, 220, 221, 222, 223] rfl (by decide +kernel)
set_option maxRecDepth 20000 in
theorem ggI_4 : GoodIn wsL_law wsL_isDone_r4 := goodIn_r _ [224, 225, 226, 23, 140, 151, 162, 227, 228, 229, 230, 24, 231, 232, 233, 234, 235, 236, 237, 238, 239, 240, 241, 242] rfl (by decide +kernel)
set_option maxRecDepth 20000 in
theorem ggI_5 : GoodIn wsL_law wsL_isDone_r5 := goodIn_r _ [243, 244, 245, 156, 246, 247, 248, 249, 250, 251, 252, 253, 254, 255, 256, 257, 258, 259, 260, 261, 262, 263, 264, 265] rfl (by decide +kernel)
set_option maxRecDepth 20000 in
theorem ggI_6 : GoodIn wsL_law wsL_isDone_r6 := goodIn_r _ [266, 267, 136, 137, 138, 268, 269, 270, 271, 272, 273, 274, 275, 276, 277, 278, 279, 280, 281, 25, 282, 283, 284, 285] rfl (by decide +kernel)
set_option maxRecDepth 20000 in
theorem ggI_7 : GoodIn wsL_law wsL_isDone_r7 := goodIn_r _ [14, 286, 18, 287, 288, 30, 289, 290, 291, 61, 62, 63, 64, 65, 66, 67, 292, 293, 294, 295, 296, 297, 298, 299] rfl (by decide +kernel)
set_option maxRecDepth 20000 in
theorem ggI_8 : GoodIn wsL_law wsL_isDone_r8 := goodIn_r _ [300, 301, 302, 303, 304, 305, 306, 307, 308, 309, 68, 69, 70, 71, 128, 129, 130, 131, 132, 133, 134, 135, 48, 49] rfl (by decide +kernel)
set_option maxRecDepth 20000 in
theorem ggI_9 : GoodIn wsL_law wsL_isDone_r9 := goodIn_r _ [50, 72, 73, 74, 75, 76, 77, 78, 79, 80, 81, 82, 83, 84, 85, 86, 87, 88, 89, 90, 91, 92, 93, 94] rfl (by decide +kernel)
set_option maxRecDepth 20000 in
theorem ggI_10 : GoodIn wsL_law wsL_isDone_r10 := goodIn_r _ [95, 96, 97, 98, 99, 100, 101, 102, 103, 104, 105, 106, 107, 108, 109, 110, 111, 112, 113, 114, 115, 116, 117, 118] rfl (by decide +kernel)
set_option maxRecDepth 20000 in
theorem ggI_11 : GoodIn wsL_law wsL_isDone_r11 := goodIn_r _ [119, 120, 121, 122, 123, 124, 125, 126, 127, 141, 142, 143, 144, 145, 146, 147, 33, 32, 148, 149, 150, 152, 153, 154] rfl (by decide +kernel)
set_option maxRecDepth 20000 in
theorem ggI_12 : GoodIn wsL_law wsL_isDone_r12 := goodIn_r _ [155, 159, 160, 161, 163, 164, 165, 31, 166, 167, 168, 169, 310, 311, 312, 313, 314, 315, 316, 317, 318, 38, 39, 40] rfl (by decide +kernel)
set_option maxRecDepth 20000 in
theorem ggI_13 : GoodIn wsL_law wsL_isDone_r13 := goodIn_r _ [41] rfl (by decide +kernel)
theorem ggL_law_L_isDone : GoodIn wsL_law wsL_isDone := by
  have eA : GoodIn wsL_law (wsL_isDone_r1 ++ (wsL_isDone_r2 ++ (wsL_isDone_r3 ++ (wsL_isDone_r4 ++ (wsL_isDone_r5 ++ (wsL_isDone_r6 ++ (wsL_isDone_r7 ++ (wsL_isDone_r8 ++ (wsL_isDone_r9 ++ (wsL_isDone_r10 ++ (wsL_isDone_r11 ++ (wsL_isDone_r12 ++ (wsL_isDone_r13))))))))))))) := goodIn_app ggI_1 (goodIn_app ggI_2 (goodIn_app ggI_3 (goodIn_app ggI_4 (goodIn_app ggI_5 (goodIn_app ggI_6 (goodIn_app ggI_7 (goodIn_app ggI_8 (goodIn_app ggI_9 (goodIn_app ggI_10 (goodIn_app ggI_11 (goodIn_app ggI_12 (ggI_13))))))))))))
  intro w hw
  rcases List.mem_cons.mp hw with h | h
  · exact ggI_0 w (List.mem_singleton.mpr h)
  · exact (goodIn_app (goodIn_app (goodIn_app (goodIn_app (goodIn_app (goodIn_app eA (goodIn_sub inlX2 (by decide +kernel))) (goodIn_sub inlX0 (by decide +kernel))) (goodIn_sub inlX1 (by decide +kernel))) (goodIn_sub (fun _ h => List.mem_append_left _ (List.mem_append_left _ (List.mem_append_right _ h))) (by decide +kernel))) (goodIn_sub (fun _ h => List.mem_append_left _ (List.mem_append_right _ h)) (by decide +kernel))) (goodIn_sub (fun _ h => List.mem_append_right _ h) (by decide +kernel))) w h
set_option maxRecDepth 20000 in
theorem gL_law_L_isDone : GoodIn wsL_law (va_wsS RL 138 yL_isDone wsL_isDone) := goodIn_app (goodIn_of _ (by decide +kernel)) ggL_law_L_isDone
set_option maxRecDepth 20000 in
theorem ggL_law_L_isWord : GoodIn wsL_law wsL_isWord := goodIn_ca (goodIn_r _ [321, 48, 49, 36, 50, 51, 52, 53, 54, 2, 55, 10, 56, 57, 58, 59, 60, 61, 62, 63, 64, 12, 65, 16, 66, 67, 24, 68, 69, 70, 71, 72, 73, 74, 75, 76, 77, 78, 79, 80, 81, 82, 83, 84, 85, 86, 87, 88, 89, 90, 91, 92, 93, 94, 95, 96, 97, 98, 99, 100, 101, 102, 103, 104, 105, 106, 107, 108, 109, 110, 111, 112, 113, 114, 115, 116, 117, 118, 119, 120, 121, 122, 123, 124, 125, 126, 127, 128, 129, 130, 131, 132, 133, 134, 135, 136, 137, 138, 22, 139, 140, 141, 142, 143, 144, 14, 47, 145, 18, 146, 147, 30, 33, 32, 148, 149, 150, 151, 152, 153, 154, 155, 156, 157, 158, 159, 160, 161, 162, 163, 164, 165, 31, 166, 167, 168, 169, 322, 323, 324, 325, 326, 327, 328, 329, 330, 331, 332, 333, 334, 335, 336, 337, 338, 339, 340, 341, 342] (by decide +kernel) (by decide +kernel)) (goodIn_sub (fun _ h => List.mem_append_left _ (List.mem_append_left _ (List.mem_append_right _ h))) (by decide +kernel))
set_option maxRecDepth 20000 in
theorem gL_law_L_isWord : GoodIn wsL_law (va_wsS RL 142 yL_isWord wsL_isWord) := goodIn_app (goodIn_of _ (by decide +kernel)) ggL_law_L_isWord
set_option maxRecDepth 20000 in
theorem ggL_law_L_does : GoodIn wsL_law wsL_does := goodIn_ca (goodIn_ca (goodIn_ca (goodIn_r _ [181, 51, 182, 183, 184, 185, 186, 2, 187, 188, 10, 56, 57, 58, 59, 60, 189, 190, 191, 192, 193, 194, 195, 196, 197, 12, 47, 198, 199, 200, 201, 202, 203, 204, 16, 205, 206, 22, 139, 207, 208, 209, 210, 211, 157, 158, 212, 213, 214, 215, 216, 217, 218, 219, 42, 220, 221, 222, 223, 224, 225, 226, 23, 140, 151, 162, 227, 228, 229, 230, 24, 231, 232, 233, 234, 235, 236, 237, 238, 239, 240, 241, 242, 243, 244, 245, 156, 246, 247, 248, 249, 250, 251, 252, 253, 254, 255, 256, 257, 258, 259, 260, 261, 262, 263, 264, 265, 266, 267, 136, 137, 138, 268, 269, 270, 271, 272, 273, 274, 275, 276, 277, 278, 279, 280, 281, 25, 282, 283, 284, 285, 14, 286, 18, 287, 288, 30, 322, 323, 324, 325, 326, 327, 328, 329, 330, 331, 332, 333, 334, 335, 336, 337, 338, 339, 340, 341, 342] (by decide +kernel) (by decide +kernel)) (goodIn_sub (fun _ h => List.mem_append_left _ (List.mem_append_left _ (List.mem_append_right _ h))) (by decide +kernel))) (goodIn_sub (fun _ h => List.mem_append_left _ (List.mem_append_right _ h)) (by decide +kernel))) (goodIn_sub (fun _ h => List.mem_append_right _ h) (by decide +kernel))
set_option maxRecDepth 20000 in
theorem gL_law_L_does : GoodIn wsL_law (va_wsS RL 87 yL_does wsL_does) := goodIn_app (goodIn_of _ (by decide +kernel)) ggL_law_L_does
theorem dL_law_0 : decode cL_law 0 = .ok (.new 9, 3) := by decide +kernel
theorem dL_law_3 : decode cL_law 3 = .ok (.dup, 1) := by decide +kernel
theorem dL_law_4 : decode cL_law 4 = .ok (.invokespecial 134, 3) := by decide +kernel
theorem dL_law_7 : decode cL_law 7 = .ok (.astore_n 1, 1) := by decide +kernel
theorem dL_law_8 : decode cL_law 8 = .ok (.bipush 48, 2) := by decide +kernel
theorem dL_law_10 : decode cL_law 10 = .ok (.newarray .int, 2) := by decide +kernel
theorem dL_law_12 : decode cL_law 12 = .ok (.astore_n 2, 1) := by decide +kernel
theorem dL_law_13 : decode cL_law 13 = .ok (.bipush 48, 2) := by decide +kernel
theorem dL_law_15 : decode cL_law 15 = .ok (.newarray .int, 2) := by decide +kernel
theorem dL_law_17 : decode cL_law 17 = .ok (.astore_n 3, 1) := by decide +kernel
theorem dL_law_18 : decode cL_law 18 = .ok (.bipush 48, 2) := by decide +kernel
theorem dL_law_20 : decode cL_law 20 = .ok (.newarray .int, 2) := by decide +kernel
theorem dL_law_22 : decode cL_law 22 = .ok (.astore 4, 2) := by decide +kernel
theorem dL_law_24 : decode cL_law 24 = .ok (.iconst 3, 1) := by decide +kernel
theorem dL_law_25 : decode cL_law 25 = .ok (.newarray .int, 2) := by decide +kernel
theorem dL_law_27 : decode cL_law 27 = .ok (.astore 5, 2) := by decide +kernel
theorem dL_law_29 : decode cL_law 29 = .ok (.iconst 0, 1) := by decide +kernel
theorem dL_law_30 : decode cL_law 30 = .ok (.istore 6, 2) := by decide +kernel
theorem dL_law_32 : decode cL_law 32 = .ok (.iload 6, 2) := by decide +kernel
theorem dL_law_34 : decode cL_law 34 = .ok (.bipush 16, 2) := by decide +kernel
theorem dL_law_36 : decode cL_law 36 = .ok (.if_icmp .ge 31, 3) := by decide +kernel
theorem dL_law_39 : decode cL_law 39 = .ok (.aload_n 2, 1) := by decide +kernel
theorem dL_law_40 : decode cL_law 40 = .ok (.bipush 16, 2) := by decide +kernel
theorem dL_law_42 : decode cL_law 42 = .ok (.iload 6, 2) := by decide +kernel
theorem dL_law_44 : decode cL_law 44 = .ok (.iadd, 1) := by decide +kernel
theorem dL_law_45 : decode cL_law 45 = .ok (.iconst (-1), 1) := by decide +kernel
theorem dL_law_46 : decode cL_law 46 = .ok (.iastore, 1) := by decide +kernel
theorem dL_law_47 : decode cL_law 47 = .ok (.aload_n 2, 1) := by decide +kernel
theorem dL_law_48 : decode cL_law 48 = .ok (.bipush 32, 2) := by decide +kernel
theorem dL_law_50 : decode cL_law 50 = .ok (.iload 6, 2) := by decide +kernel
theorem dL_law_52 : decode cL_law 52 = .ok (.iadd, 1) := by decide +kernel
theorem dL_law_53 : decode cL_law 53 = .ok (.iconst (-1), 1) := by decide +kernel
theorem dL_law_54 : decode cL_law 54 = .ok (.iastore, 1) := by decide +kernel
theorem dL_law_55 : decode cL_law 55 = .ok (.aload 4, 2) := by decide +kernel
theorem dL_law_57 : decode cL_law 57 = .ok (.iload 6, 2) := by decide +kernel
theorem dL_law_59 : decode cL_law 59 = .ok (.iconst (-1), 1) := by decide +kernel
theorem dL_law_60 : decode cL_law 60 = .ok (.iastore, 1) := by decide +kernel
theorem dL_law_61 : decode cL_law 61 = .ok (.iinc 6 1, 3) := by decide +kernel
theorem dL_law_64 : decode cL_law 64 = .ok (.goto (-32), 3) := by decide +kernel
theorem dL_law_67 : decode cL_law 67 = .ok (.aload_n 1, 1) := by decide +kernel
theorem dL_law_68 : decode cL_law 68 = .ok (.aload_n 2, 1) := by decide +kernel
theorem dL_law_69 : decode cL_law 69 = .ok (.aload_n 3, 1) := by decide +kernel
theorem dL_law_70 : decode cL_law 70 = .ok (.aload 5, 2) := by decide +kernel
theorem dL_law_72 : decode cL_law 72 = .ok (.invokestatic 135, 3) := by decide +kernel
theorem dL_law_75 : decode cL_law 75 = .ok (.istore 6, 2) := by decide +kernel
theorem dL_law_77 : decode cL_law 77 = .ok (.iconst 0, 1) := by decide +kernel
theorem dL_law_78 : decode cL_law 78 = .ok (.istore 7, 2) := by decide +kernel
theorem dL_law_80 : decode cL_law 80 = .ok (.iload 7, 2) := by decide +kernel
theorem dL_law_82 : decode cL_law 82 = .ok (.bipush 60, 2) := by decide +kernel
theorem dL_law_84 : decode cL_law 84 = .ok (.if_icmp .ge 62, 3) := by decide +kernel
theorem dL_law_87 : decode cL_law 87 = .ok (.iload 6, 2) := by decide +kernel
theorem dL_law_89 : decode cL_law 89 = .ok (.ifCond .eq 57, 3) := by decide +kernel
theorem dL_law_92 : decode cL_law 92 = .ok (.aload_n 1, 1) := by decide +kernel
theorem dL_law_93 : decode cL_law 93 = .ok (.aload_n 0, 1) := by decide +kernel
theorem dL_law_94 : decode cL_law 94 = .ok (.iconst 4, 1) := by decide +kernel
theorem dL_law_95 : decode cL_law 95 = .ok (.iload 7, 2) := by decide +kernel
theorem dL_law_97 : decode cL_law 97 = .ok (.imul, 1) := by decide +kernel
theorem dL_law_98 : decode cL_law 98 = .ok (.aload_n 2, 1) := by decide +kernel
theorem dL_law_99 : decode cL_law 99 = .ok (.aload_n 3, 1) := by decide +kernel
theorem dL_law_100 : decode cL_law 100 = .ok (.aload 4, 2) := by decide +kernel
theorem dL_law_102 : decode cL_law 102 = .ok (.aload 5, 2) := by decide +kernel
theorem dL_law_104 : decode cL_law 104 = .ok (.invokestatic 138, 3) := by decide +kernel
theorem dL_law_107 : decode cL_law 107 = .ok (.ifCond .eq 30, 3) := by decide +kernel
theorem dL_law_110 : decode cL_law 110 = .ok (.aload_n 1, 1) := by decide +kernel
theorem dL_law_111 : decode cL_law 111 = .ok (.aload_n 2, 1) := by decide +kernel
theorem dL_law_112 : decode cL_law 112 = .ok (.aload_n 3, 1) := by decide +kernel
theorem dL_law_113 : decode cL_law 113 = .ok (.aload 5, 2) := by decide +kernel
theorem dL_law_115 : decode cL_law 115 = .ok (.invokestatic 135, 3) := by decide +kernel
theorem dL_law_118 : decode cL_law 118 = .ok (.ifCond .eq 19, 3) := by decide +kernel
theorem dL_law_121 : decode cL_law 121 = .ok (.aload_n 1, 1) := by decide +kernel
theorem dL_law_122 : decode cL_law 122 = .ok (.aload_n 2, 1) := by decide +kernel
theorem dL_law_123 : decode cL_law 123 = .ok (.iload 7, 2) := by decide +kernel
theorem dL_law_125 : decode cL_law 125 = .ok (.iconst 5, 1) := by decide +kernel
theorem dL_law_126 : decode cL_law 126 = .ok (.irem, 1) := by decide +kernel
theorem dL_law_127 : decode cL_law 127 = .ok (.invokestatic 142, 3) := by decide +kernel
theorem dL_law_130 : decode cL_law 130 = .ok (.ifCond .eq 7, 3) := by decide +kernel
theorem dL_law_133 : decode cL_law 133 = .ok (.iconst 1, 1) := by decide +kernel
theorem dL_law_134 : decode cL_law 134 = .ok (.goto 4, 3) := by decide +kernel
theorem dL_law_137 : decode cL_law 137 = .ok (.iconst 0, 1) := by decide +kernel
theorem dL_law_138 : decode cL_law 138 = .ok (.istore 6, 2) := by decide +kernel
theorem dL_law_140 : decode cL_law 140 = .ok (.iinc 7 1, 3) := by decide +kernel
theorem dL_law_143 : decode cL_law 143 = .ok (.goto (-63), 3) := by decide +kernel
theorem dL_law_146 : decode cL_law 146 = .ok (.iload 6, 2) := by decide +kernel
theorem dL_law_148 : decode cL_law 148 = .ok (.ifCond .eq 117, 3) := by decide +kernel
theorem dL_law_151 : decode cL_law 151 = .ok (.aload_n 1, 1) := by decide +kernel
theorem dL_law_152 : decode cL_law 152 = .ok (.iconst 0, 1) := by decide +kernel
theorem dL_law_153 : decode cL_law 153 = .ok (.iconst (-1), 1) := by decide +kernel
theorem dL_law_154 : decode cL_law 154 = .ok (.iconst 0, 1) := by decide +kernel
theorem dL_law_155 : decode cL_law 155 = .ok (.iconst 0, 1) := by decide +kernel
theorem dL_law_156 : decode cL_law 156 = .ok (.invokestatic 87, 3) := by decide +kernel
theorem dL_law_159 : decode cL_law 159 = .ok (.bipush (-30), 2) := by decide +kernel
theorem dL_law_161 : decode cL_law 161 = .ok (.if_icmp .ne 104, 3) := by decide +kernel
theorem dL_law_164 : decode cL_law 164 = .ok (.aload_n 1, 1) := by decide +kernel
theorem dL_law_165 : decode cL_law 165 = .ok (.iconst 1, 1) := by decide +kernel
theorem dL_law_166 : decode cL_law 166 = .ok (.bipush 6, 2) := by decide +kernel
theorem dL_law_168 : decode cL_law 168 = .ok (.iconst 0, 1) := by decide +kernel
theorem dL_law_169 : decode cL_law 169 = .ok (.iconst 0, 1) := by decide +kernel
theorem dL_law_170 : decode cL_law 170 = .ok (.invokestatic 87, 3) := by decide +kernel
theorem dL_law_173 : decode cL_law 173 = .ok (.bipush (-30), 2) := by decide +kernel
theorem dL_law_175 : decode cL_law 175 = .ok (.if_icmp .ne 90, 3) := by decide +kernel
theorem dL_law_178 : decode cL_law 178 = .ok (.aload_n 1, 1) := by decide +kernel
theorem dL_law_179 : decode cL_law 179 = .ok (.iconst 2, 1) := by decide +kernel
theorem dL_law_180 : decode cL_law 180 = .ok (.bipush 16, 2) := by decide +kernel
theorem dL_law_182 : decode cL_law 182 = .ok (.iconst 0, 1) := by decide +kernel
theorem dL_law_183 : decode cL_law 183 = .ok (.iconst 0, 1) := by decide +kernel
theorem dL_law_184 : decode cL_law 184 = .ok (.invokestatic 87, 3) := by decide +kernel
theorem dL_law_187 : decode cL_law 187 = .ok (.bipush (-30), 2) := by decide +kernel
theorem dL_law_189 : decode cL_law 189 = .ok (.if_icmp .ne 76, 3) := by decide +kernel
theorem dL_law_192 : decode cL_law 192 = .ok (.aload_n 1, 1) := by decide +kernel
theorem dL_law_193 : decode cL_law 193 = .ok (.iconst 3, 1) := by decide +kernel
theorem dL_law_194 : decode cL_law 194 = .ok (.iconst (-1), 1) := by decide +kernel
theorem dL_law_195 : decode cL_law 195 = .ok (.iconst 0, 1) := by decide +kernel
theorem dL_law_196 : decode cL_law 196 = .ok (.iconst 0, 1) := by decide +kernel
theorem dL_law_197 : decode cL_law 197 = .ok (.invokestatic 87, 3) := by decide +kernel
theorem dL_law_200 : decode cL_law 200 = .ok (.bipush (-30), 2) := by decide +kernel
theorem dL_law_202 : decode cL_law 202 = .ok (.if_icmp .ne 63, 3) := by decide +kernel
theorem dL_law_205 : decode cL_law 205 = .ok (.aload_n 1, 1) := by decide +kernel
theorem dL_law_206 : decode cL_law 206 = .ok (.iconst 4, 1) := by decide +kernel
theorem dL_law_207 : decode cL_law 207 = .ok (.iconst 0, 1) := by decide +kernel
theorem dL_law_208 : decode cL_law 208 = .ok (.iconst 0, 1) := by decide +kernel
theorem dL_law_209 : decode cL_law 209 = .ok (.bipush 51, 2) := by decide +kernel
theorem dL_law_211 : decode cL_law 211 = .ok (.invokestatic 87, 3) := by decide +kernel
theorem dL_law_214 : decode cL_law 214 = .ok (.bipush (-20), 2) := by decide +kernel
theorem dL_law_216 : decode cL_law 216 = .ok (.if_icmp .ne 49, 3) := by decide +kernel
theorem dL_law_219 : decode cL_law 219 = .ok (.aload_n 1, 1) := by decide +kernel
theorem dL_law_220 : decode cL_law 220 = .ok (.iconst 5, 1) := by decide +kernel
theorem dL_law_221 : decode cL_law 221 = .ok (.iconst 0, 1) := by decide +kernel
theorem dL_law_222 : decode cL_law 222 = .ok (.bipush 16, 2) := by decide +kernel
theorem dL_law_224 : decode cL_law 224 = .ok (.iconst 0, 1) := by decide +kernel
theorem dL_law_225 : decode cL_law 225 = .ok (.invokestatic 87, 3) := by decide +kernel
theorem dL_law_228 : decode cL_law 228 = .ok (.bipush (-30), 2) := by decide +kernel
theorem dL_law_230 : decode cL_law 230 = .ok (.if_icmp .ne 35, 3) := by decide +kernel
theorem dL_law_233 : decode cL_law 233 = .ok (.aload_n 1, 1) := by decide +kernel
theorem dL_law_234 : decode cL_law 234 = .ok (.bipush 6, 2) := by decide +kernel
theorem dL_law_236 : decode cL_law 236 = .ok (.iconst (-1), 1) := by decide +kernel
theorem dL_law_237 : decode cL_law 237 = .ok (.iconst 0, 1) := by decide +kernel
theorem dL_law_238 : decode cL_law 238 = .ok (.iconst 0, 1) := by decide +kernel
theorem dL_law_239 : decode cL_law 239 = .ok (.invokestatic 87, 3) := by decide +kernel
theorem dL_law_242 : decode cL_law 242 = .ok (.bipush (-30), 2) := by decide +kernel
theorem dL_law_244 : decode cL_law 244 = .ok (.if_icmp .ne 21, 3) := by decide +kernel
theorem dL_law_247 : decode cL_law 247 = .ok (.aload_n 1, 1) := by decide +kernel
theorem dL_law_248 : decode cL_law 248 = .ok (.bipush 8, 2) := by decide +kernel
theorem dL_law_250 : decode cL_law 250 = .ok (.iconst (-1), 1) := by decide +kernel
theorem dL_law_251 : decode cL_law 251 = .ok (.iconst 0, 1) := by decide +kernel
theorem dL_law_252 : decode cL_law 252 = .ok (.iconst 0, 1) := by decide +kernel
theorem dL_law_253 : decode cL_law 253 = .ok (.invokestatic 87, 3) := by decide +kernel
theorem dL_law_256 : decode cL_law 256 = .ok (.bipush (-30), 2) := by decide +kernel
theorem dL_law_258 : decode cL_law 258 = .ok (.if_icmp .ne 7, 3) := by decide +kernel
theorem dL_law_261 : decode cL_law 261 = .ok (.iconst 1, 1) := by decide +kernel
theorem dL_law_262 : decode cL_law 262 = .ok (.goto 4, 3) := by decide +kernel
theorem dL_law_265 : decode cL_law 265 = .ok (.iconst 0, 1) := by decide +kernel
theorem dL_law_266 : decode cL_law 266 = .ok (.ireturn, 1) := by decide +kernel
abbrev vwCl : List vw_C := [(RX0, TX0, 11), (RX1, TX1, 4), (RX2, TX2, 6)]
