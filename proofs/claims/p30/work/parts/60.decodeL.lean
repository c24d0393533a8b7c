theorem dL_cell_0 : decode cL_cell 0 = .ok (.iload_n 1, 1) := by decide +kernel
theorem dL_cell_1 : decode cL_cell 1 = .ok (.aload_n 0, 1) := by decide +kernel
theorem dL_cell_2 : decode cL_cell 2 = .ok (.arraylength, 1) := by decide +kernel
theorem dL_cell_3 : decode cL_cell 3 = .ok (.if_icmp .ge 9, 3) := by decide +kernel
theorem dL_cell_6 : decode cL_cell 6 = .ok (.aload_n 0, 1) := by decide +kernel
theorem dL_cell_7 : decode cL_cell 7 = .ok (.iload_n 1, 1) := by decide +kernel
theorem dL_cell_8 : decode cL_cell 8 = .ok (.iaload, 1) := by decide +kernel
theorem dL_cell_9 : decode cL_cell 9 = .ok (.goto 10, 3) := by decide +kernel
theorem dL_cell_12 : decode cL_cell 12 = .ok (.ldc 7, 2) := by decide +kernel
theorem dL_cell_14 : decode cL_cell 14 = .ok (.iload_n 1, 1) := by decide +kernel
theorem dL_cell_15 : decode cL_cell 15 = .ok (.bipush 23, 2) := by decide +kernel
theorem dL_cell_17 : decode cL_cell 17 = .ok (.iadd, 1) := by decide +kernel
theorem dL_cell_18 : decode cL_cell 18 = .ok (.imul, 1) := by decide +kernel
theorem dL_cell_19 : decode cL_cell 19 = .ok (.ldc 8, 2) := by decide +kernel
theorem dL_cell_21 : decode cL_cell 21 = .ok (.iand, 1) := by decide +kernel
theorem dL_cell_22 : decode cL_cell 22 = .ok (.ireturn, 1) := by decide +kernel
set_option maxRecDepth 20000 in
theorem ggL_deposited_X7_entry : GoodIn wsL_deposited wsX7_entry := goodIn_r _ [5, 6, 7, 8, 9, 10, 11, 12, 13, 14, 15, 16, 17, 18, 4, 19, 20, 21, 22, 23, 24, 25, 26, 27, 28, 29, 30, 31, 32, 33, 34, 35, 36, 37, 38, 39, 40, 41, 42, 43, 44, 45, 46, 47, 48, 49, 50, 51, 52, 53, 54, 55, 56, 57, 58, 59, 60, 61, 62, 63, 64, 65, 66, 67, 68, 69, 70, 71, 72, 73, 74, 75, 76, 77, 78, 79, 80, 81, 82, 83, 84, 85, 86, 87, 88, 89, 90] (by decide +kernel) (by decide +kernel)
set_option maxRecDepth 20000 in
theorem gL_deposited_X7_entry : GoodIn wsL_deposited (wsV RL 9 RX7 yX7_entry wsX7_entry) := goodIn_app (goodIn_of _ (by decide +kernel)) ggL_deposited_X7_entry
theorem dL_deposited_0 : decode cL_deposited 0 = .ok (.iconst 0, 1) := by decide +kernel
theorem dL_deposited_1 : decode cL_deposited 1 = .ok (.istore_n 2, 1) := by decide +kernel
theorem dL_deposited_2 : decode cL_deposited 2 = .ok (.iload_n 1, 1) := by decide +kernel
theorem dL_deposited_3 : decode cL_deposited 3 = .ok (.istore_n 3, 1) := by decide +kernel
theorem dL_deposited_4 : decode cL_deposited 4 = .ok (.iload_n 3, 1) := by decide +kernel
theorem dL_deposited_5 : decode cL_deposited 5 = .ok (.ifCond .le 36, 3) := by decide +kernel
theorem dL_deposited_8 : decode cL_deposited 8 = .ok (.iload_n 2, 1) := by decide +kernel
theorem dL_deposited_9 : decode cL_deposited 9 = .ok (.aload_n 0, 1) := by decide +kernel
theorem dL_deposited_10 : decode cL_deposited 10 = .ok (.iload_n 3, 1) := by decide +kernel
theorem dL_deposited_11 : decode cL_deposited 11 = .ok (.iconst 0, 1) := by decide +kernel
theorem dL_deposited_12 : decode cL_deposited 12 = .ok (.invokevirtual 9, 3) := by decide +kernel
theorem dL_deposited_15 : decode cL_deposited 15 = .ok (.iconst 1, 1) := by decide +kernel
theorem dL_deposited_16 : decode cL_deposited 16 = .ok (.if_icmp .ne 12, 3) := by decide +kernel
theorem dL_deposited_19 : decode cL_deposited 19 = .ok (.aload_n 0, 1) := by decide +kernel
theorem dL_deposited_20 : decode cL_deposited 20 = .ok (.iload_n 3, 1) := by decide +kernel
theorem dL_deposited_21 : decode cL_deposited 21 = .ok (.iconst 3, 1) := by decide +kernel
theorem dL_deposited_22 : decode cL_deposited 22 = .ok (.invokevirtual 9, 3) := by decide +kernel
theorem dL_deposited_25 : decode cL_deposited 25 = .ok (.goto 4, 3) := by decide +kernel
theorem dL_deposited_28 : decode cL_deposited 28 = .ok (.iconst 0, 1) := by decide +kernel
theorem dL_deposited_29 : decode cL_deposited 29 = .ok (.iadd, 1) := by decide +kernel
theorem dL_deposited_30 : decode cL_deposited 30 = .ok (.istore_n 2, 1) := by decide +kernel
theorem dL_deposited_31 : decode cL_deposited 31 = .ok (.aload_n 0, 1) := by decide +kernel
theorem dL_deposited_32 : decode cL_deposited 32 = .ok (.iload_n 3, 1) := by decide +kernel
theorem dL_deposited_33 : decode cL_deposited 33 = .ok (.iconst 4, 1) := by decide +kernel
theorem dL_deposited_34 : decode cL_deposited 34 = .ok (.invokevirtual 9, 3) := by decide +kernel
theorem dL_deposited_37 : decode cL_deposited 37 = .ok (.istore_n 3, 1) := by decide +kernel
theorem dL_deposited_38 : decode cL_deposited 38 = .ok (.goto (-34), 3) := by decide +kernel
theorem dL_deposited_41 : decode cL_deposited 41 = .ok (.iload_n 2, 1) := by decide +kernel
theorem dL_deposited_42 : decode cL_deposited 42 = .ok (.ireturn, 1) := by decide +kernel
set_option maxRecDepth 20000 in
theorem ggL_entries_X7_count : GoodIn wsL_entries wsX7_count := goodIn_r _ [6, 7, 8, 9, 10, 11, 12, 13, 14, 15, 16, 17, 18, 19, 20, 21, 22, 23, 24, 25, 26, 27, 28, 29, 30, 31, 32, 33, 34, 35, 36, 37, 38, 39, 40, 41, 42, 43, 44, 45, 46, 47, 48, 49, 50, 51, 52, 53, 54, 55, 56, 57, 58, 59, 60, 61, 62, 63, 64, 65, 66, 67, 68, 69, 70, 71, 72, 73, 74, 75, 76, 77, 78, 79, 80, 81, 82, 83, 84, 85, 86, 87, 88, 89, 90, 91, 5, 92, 93, 94, 95, 96, 97, 98, 99, 100, 101, 102, 103, 104, 105, 106, 107, 108, 109, 110, 177, 178, 179, 180, 181, 182, 183, 184, 185, 186, 187, 188, 189] (by decide +kernel) (by decide +kernel)
set_option maxRecDepth 20000 in
theorem gL_entries_X7_count : GoodIn wsL_entries (wsV RL 15 RX7 yX7_count wsX7_count) := goodIn_app (goodIn_of _ (by decide +kernel)) ggL_entries_X7_count
set_option maxRecDepth 20000 in
theorem ggL_entries_X7_entry : GoodIn wsL_entries wsX7_entry := goodIn_r _ [114, 7, 10, 115, 116, 117, 14, 118, 29, 12, 13, 15, 16, 94, 5, 95, 119, 22, 23, 24, 120, 63, 64, 65, 21, 66, 67, 68, 69, 11, 121, 122, 123, 124, 17, 18, 19, 20, 125, 126, 127, 128, 129, 130, 131, 132, 133, 134, 135, 136, 137, 138, 139, 140, 141, 142, 143, 144, 145, 146, 147, 148, 149, 150, 151, 152, 153, 154, 155, 156, 157, 158, 159, 160, 161, 162, 163, 164, 177, 178, 179, 180, 181, 182, 183, 184, 190] (by decide +kernel) (by decide +kernel)
set_option maxRecDepth 20000 in
theorem gL_entries_X7_entry : GoodIn wsL_entries (wsV RL 9 RX7 yX7_entry wsX7_entry) := goodIn_app (goodIn_of _ (by decide +kernel)) ggL_entries_X7_entry
set_option maxRecDepth 20000 in
theorem ggL_entries_L_deposited : GoodIn wsL_entries wsL_deposited := goodIn_r _ [168, 111, 112, 113, 5, 114, 7, 10, 115, 116, 117, 14, 118, 29, 12, 13, 15, 16, 94, 95, 119, 22, 23, 24, 120, 63, 64, 65, 21, 66, 67, 68, 69, 11, 121, 122, 123, 124, 17, 18, 19, 20, 125, 126, 127, 128, 129, 130, 131, 132, 133, 134, 135, 136, 137, 138, 139, 140, 141, 142, 143, 144, 145, 146, 147, 148, 149, 150, 151, 152, 153, 154, 155, 156, 157, 158, 159, 160, 161, 162, 163, 164, 177, 178, 179, 180, 181, 182, 183, 184, 190] (by decide +kernel) (by decide +kernel)
set_option maxRecDepth 20000 in
theorem gL_entries_L_deposited : GoodIn wsL_entries (va_wsS RL 20 yL_deposited wsL_deposited) := goodIn_app (goodIn_of _ (by decide +kernel)) ggL_entries_L_deposited
set_option maxRecDepth 20000 in
theorem ggL_entries_X7_balance : GoodIn wsL_entries wsX7_balance := goodIn_r _ [172, 7, 10, 129, 173, 174, 5, 175, 93, 94, 95, 115, 116, 117, 14, 118, 29, 12, 13, 15, 16, 130, 131, 132, 133, 134, 135, 136, 137, 138, 139, 140, 141, 142, 143, 144, 145, 146, 147, 148, 22, 23, 24, 149, 150, 151, 152, 153, 154, 155, 156, 176, 162, 163, 164, 177, 178, 179, 180, 181, 182, 183, 184, 190] (by decide +kernel) (by decide +kernel)
set_option maxRecDepth 20000 in
theorem gL_entries_X7_balance : GoodIn wsL_entries (wsV RL 26 RX7 yX7_balance wsX7_balance) := goodIn_app (goodIn_of _ (by decide +kernel)) ggL_entries_X7_balance
theorem dL_entries_0 : decode cL_entries 0 = .ok (.aload_n 0, 1) := by decide +kernel
theorem dL_entries_1 : decode cL_entries 1 = .ok (.iconst 0, 1) := by decide +kernel
theorem dL_entries_2 : decode cL_entries 2 = .ok (.invokevirtual 15, 3) := by decide +kernel
theorem dL_entries_5 : decode cL_entries 5 = .ok (.istore_n 1, 1) := by decide +kernel
theorem dL_entries_6 : decode cL_entries 6 = .ok (.iconst 0, 1) := by decide +kernel
theorem dL_entries_7 : decode cL_entries 7 = .ok (.istore_n 2, 1) := by decide +kernel
theorem dL_entries_8 : decode cL_entries 8 = .ok (.iconst 0, 1) := by decide +kernel
theorem dL_entries_9 : decode cL_entries 9 = .ok (.istore_n 3, 1) := by decide +kernel
theorem dL_entries_10 : decode cL_entries 10 = .ok (.iconst 0, 1) := by decide +kernel
theorem dL_entries_11 : decode cL_entries 11 = .ok (.istore 4, 2) := by decide +kernel
theorem dL_entries_13 : decode cL_entries 13 = .ok (.aload_n 0, 1) := by decide +kernel
theorem dL_entries_14 : decode cL_entries 14 = .ok (.iconst 0, 1) := by decide +kernel
theorem dL_entries_15 : decode cL_entries 15 = .ok (.iconst 0, 1) := by decide +kernel
theorem dL_entries_16 : decode cL_entries 16 = .ok (.invokevirtual 9, 3) := by decide +kernel
theorem dL_entries_19 : decode cL_entries 19 = .ok (.ifCond .ne 31, 3) := by decide +kernel
theorem dL_entries_22 : decode cL_entries 22 = .ok (.aload_n 0, 1) := by decide +kernel
theorem dL_entries_23 : decode cL_entries 23 = .ok (.iconst 0, 1) := by decide +kernel
theorem dL_entries_24 : decode cL_entries 24 = .ok (.iconst 5, 1) := by decide +kernel
theorem dL_entries_25 : decode cL_entries 25 = .ok (.invokevirtual 9, 3) := by decide +kernel
theorem dL_entries_28 : decode cL_entries 28 = .ok (.ifCond .lt 22, 3) := by decide +kernel
theorem dL_entries_31 : decode cL_entries 31 = .ok (.aload_n 0, 1) := by decide +kernel
theorem dL_entries_32 : decode cL_entries 32 = .ok (.aload_n 0, 1) := by decide +kernel
theorem dL_entries_33 : decode cL_entries 33 = .ok (.iconst 1, 1) := by decide +kernel
theorem dL_entries_34 : decode cL_entries 34 = .ok (.invokevirtual 15, 3) := by decide +kernel
theorem dL_entries_37 : decode cL_entries 37 = .ok (.bipush 7, 2) := by decide +kernel
theorem dL_entries_39 : decode cL_entries 39 = .ok (.invokevirtual 9, 3) := by decide +kernel
theorem dL_entries_42 : decode cL_entries 42 = .ok (.iconst 1, 1) := by decide +kernel
theorem dL_entries_43 : decode cL_entries 43 = .ok (.if_icmp .ne 7, 3) := by decide +kernel
theorem dL_entries_46 : decode cL_entries 46 = .ok (.iconst 1, 1) := by decide +kernel
theorem dL_entries_47 : decode cL_entries 47 = .ok (.goto 4, 3) := by decide +kernel
theorem dL_entries_50 : decode cL_entries 50 = .ok (.iconst 0, 1) := by decide +kernel
theorem dL_entries_51 : decode cL_entries 51 = .ok (.istore 5, 2) := by decide +kernel
theorem dL_entries_53 : decode cL_entries 53 = .ok (.iconst 0, 1) := by decide +kernel
theorem dL_entries_54 : decode cL_entries 54 = .ok (.istore 6, 2) := by decide +kernel
theorem dL_entries_56 : decode cL_entries 56 = .ok (.iload 6, 2) := by decide +kernel
theorem dL_entries_58 : decode cL_entries 58 = .ok (.iload_n 1, 1) := by decide +kernel
theorem dL_entries_59 : decode cL_entries 59 = .ok (.if_icmp .ge 229, 3) := by decide +kernel
theorem dL_entries_62 : decode cL_entries 62 = .ok (.iload 5, 2) := by decide +kernel
theorem dL_entries_64 : decode cL_entries 64 = .ok (.ifCond .eq 224, 3) := by decide +kernel
theorem dL_entries_67 : decode cL_entries 67 = .ok (.aload_n 0, 1) := by decide +kernel
theorem dL_entries_68 : decode cL_entries 68 = .ok (.iload 6, 2) := by decide +kernel
theorem dL_entries_70 : decode cL_entries 70 = .ok (.iconst 4, 1) := by decide +kernel
theorem dL_entries_71 : decode cL_entries 71 = .ok (.invokevirtual 9, 3) := by decide +kernel
theorem dL_entries_74 : decode cL_entries 74 = .ok (.istore 7, 2) := by decide +kernel
theorem dL_entries_76 : decode cL_entries 76 = .ok (.iload_n 2, 1) := by decide +kernel
theorem dL_entries_77 : decode cL_entries 77 = .ok (.aload_n 0, 1) := by decide +kernel
theorem dL_entries_78 : decode cL_entries 78 = .ok (.iload 6, 2) := by decide +kernel
theorem dL_entries_80 : decode cL_entries 80 = .ok (.bipush 7, 2) := by decide +kernel
theorem dL_entries_82 : decode cL_entries 82 = .ok (.invokevirtual 9, 3) := by decide +kernel
theorem dL_entries_85 : decode cL_entries 85 = .ok (.iadd, 1) := by decide +kernel
theorem dL_entries_86 : decode cL_entries 86 = .ok (.istore_n 2, 1) := by decide +kernel
theorem dL_entries_87 : decode cL_entries 87 = .ok (.iload 4, 2) := by decide +kernel
theorem dL_entries_89 : decode cL_entries 89 = .ok (.iconst 1, 1) := by decide +kernel
theorem dL_entries_90 : decode cL_entries 90 = .ok (.aload_n 0, 1) := by decide +kernel
theorem dL_entries_91 : decode cL_entries 91 = .ok (.iload 6, 2) := by decide +kernel
theorem dL_entries_93 : decode cL_entries 93 = .ok (.bipush 6, 2) := by decide +kernel
theorem dL_entries_95 : decode cL_entries 95 = .ok (.invokevirtual 9, 3) := by decide +kernel
theorem dL_entries_98 : decode cL_entries 98 = .ok (.isub, 1) := by decide +kernel
theorem dL_entries_99 : decode cL_entries 99 = .ok (.iadd, 1) := by decide +kernel
theorem dL_entries_100 : decode cL_entries 100 = .ok (.istore 4, 2) := by decide +kernel
theorem dL_entries_102 : decode cL_entries 102 = .ok (.iconst 1, 1) := by decide +kernel
theorem dL_entries_103 : decode cL_entries 103 = .ok (.istore 8, 2) := by decide +kernel
theorem dL_entries_105 : decode cL_entries 105 = .ok (.iload 6, 2) := by decide +kernel
theorem dL_entries_107 : decode cL_entries 107 = .ok (.iconst 1, 1) := by decide +kernel
theorem dL_entries_108 : decode cL_entries 108 = .ok (.iadd, 1) := by decide +kernel
theorem dL_entries_109 : decode cL_entries 109 = .ok (.istore 9, 2) := by decide +kernel
theorem dL_entries_111 : decode cL_entries 111 = .ok (.iload 9, 2) := by decide +kernel
theorem dL_entries_113 : decode cL_entries 113 = .ok (.iload_n 1, 1) := by decide +kernel
theorem dL_entries_114 : decode cL_entries 114 = .ok (.if_icmp .ge 31, 3) := by decide +kernel
theorem dL_entries_117 : decode cL_entries 117 = .ok (.iload 8, 2) := by decide +kernel
theorem dL_entries_119 : decode cL_entries 119 = .ok (.aload_n 0, 1) := by decide +kernel
theorem dL_entries_120 : decode cL_entries 120 = .ok (.iload 9, 2) := by decide +kernel
theorem dL_entries_122 : decode cL_entries 122 = .ok (.iconst 4, 1) := by decide +kernel
theorem dL_entries_123 : decode cL_entries 123 = .ok (.invokevirtual 9, 3) := by decide +kernel
theorem dL_entries_126 : decode cL_entries 126 = .ok (.iload 6, 2) := by decide +kernel
theorem dL_entries_128 : decode cL_entries 128 = .ok (.if_icmp .eq 7, 3) := by decide +kernel
theorem dL_entries_131 : decode cL_entries 131 = .ok (.iconst 1, 1) := by decide +kernel
theorem dL_entries_132 : decode cL_entries 132 = .ok (.goto 4, 3) := by decide +kernel
theorem dL_entries_135 : decode cL_entries 135 = .ok (.iconst 0, 1) := by decide +kernel
theorem dL_entries_136 : decode cL_entries 136 = .ok (.iand, 1) := by decide +kernel
theorem dL_entries_137 : decode cL_entries 137 = .ok (.istore 8, 2) := by decide +kernel
theorem dL_entries_139 : decode cL_entries 139 = .ok (.iinc 9 1, 3) := by decide +kernel
theorem dL_entries_142 : decode cL_entries 142 = .ok (.goto (-31), 3) := by decide +kernel
theorem dL_entries_145 : decode cL_entries 145 = .ok (.iload_n 3, 1) := by decide +kernel
theorem dL_entries_146 : decode cL_entries 146 = .ok (.iload 8, 2) := by decide +kernel
theorem dL_entries_148 : decode cL_entries 148 = .ok (.ifCond .eq 7, 3) := by decide +kernel
theorem dL_entries_151 : decode cL_entries 151 = .ok (.iconst 1, 1) := by decide +kernel
theorem dL_entries_152 : decode cL_entries 152 = .ok (.goto 4, 3) := by decide +kernel
theorem dL_entries_155 : decode cL_entries 155 = .ok (.iconst 0, 1) := by decide +kernel
theorem dL_entries_156 : decode cL_entries 156 = .ok (.iadd, 1) := by decide +kernel
theorem dL_entries_157 : decode cL_entries 157 = .ok (.istore_n 3, 1) := by decide +kernel
theorem dL_entries_158 : decode cL_entries 158 = .ok (.iload 6, 2) := by decide +kernel
theorem dL_entries_160 : decode cL_entries 160 = .ok (.ifCond .ne 13, 3) := by decide +kernel
theorem dL_entries_163 : decode cL_entries 163 = .ok (.iload 7, 2) := by decide +kernel
theorem dL_entries_165 : decode cL_entries 165 = .ok (.ldc 19, 2) := by decide +kernel
theorem dL_entries_167 : decode cL_entries 167 = .ok (.if_icmp .ne 73, 3) := by decide +kernel
theorem dL_entries_170 : decode cL_entries 170 = .ok (.goto 36, 3) := by decide +kernel
theorem dL_entries_173 : decode cL_entries 173 = .ok (.iload 7, 2) := by decide +kernel
theorem dL_entries_175 : decode cL_entries 175 = .ok (.ifCond .lt 65, 3) := by decide +kernel
theorem dL_entries_178 : decode cL_entries 178 = .ok (.iload 7, 2) := by decide +kernel
theorem dL_entries_180 : decode cL_entries 180 = .ok (.iload 6, 2) := by decide +kernel
theorem dL_entries_182 : decode cL_entries 182 = .ok (.if_icmp .ge 58, 3) := by decide +kernel
theorem dL_entries_185 : decode cL_entries 185 = .ok (.aload_n 0, 1) := by decide +kernel
theorem dL_entries_186 : decode cL_entries 186 = .ok (.iload 6, 2) := by decide +kernel
theorem dL_entries_188 : decode cL_entries 188 = .ok (.bipush 9, 2) := by decide +kernel
theorem dL_entries_190 : decode cL_entries 190 = .ok (.invokevirtual 9, 3) := by decide +kernel
theorem dL_entries_193 : decode cL_entries 193 = .ok (.aload_n 0, 1) := by decide +kernel
theorem dL_entries_194 : decode cL_entries 194 = .ok (.iload 7, 2) := by decide +kernel
theorem dL_entries_196 : decode cL_entries 196 = .ok (.bipush 9, 2) := by decide +kernel
theorem dL_entries_198 : decode cL_entries 198 = .ok (.invokevirtual 9, 3) := by decide +kernel
theorem dL_entries_201 : decode cL_entries 201 = .ok (.iconst 1, 1) := by decide +kernel
theorem dL_entries_202 : decode cL_entries 202 = .ok (.iadd, 1) := by decide +kernel
theorem dL_entries_203 : decode cL_entries 203 = .ok (.if_icmp .ne 37, 3) := by decide +kernel
theorem dL_entries_206 : decode cL_entries 206 = .ok (.aload_n 0, 1) := by decide +kernel
theorem dL_entries_207 : decode cL_entries 207 = .ok (.iload 6, 2) := by decide +kernel
theorem dL_entries_209 : decode cL_entries 209 = .ok (.iconst 5, 1) := by decide +kernel
theorem dL_entries_210 : decode cL_entries 210 = .ok (.invokevirtual 9, 3) := by decide +kernel
theorem dL_entries_213 : decode cL_entries 213 = .ok (.sipush 9973, 3) := by decide +kernel
theorem dL_entries_216 : decode cL_entries 216 = .ok (.if_icmp .ge 24, 3) := by decide +kernel
theorem dL_entries_219 : decode cL_entries 219 = .ok (.aload_n 0, 1) := by decide +kernel
theorem dL_entries_220 : decode cL_entries 220 = .ok (.iload 6, 2) := by decide +kernel
theorem dL_entries_222 : decode cL_entries 222 = .ok (.bipush 10, 2) := by decide +kernel
theorem dL_entries_224 : decode cL_entries 224 = .ok (.invokevirtual 9, 3) := by decide +kernel
theorem dL_entries_227 : decode cL_entries 227 = .ok (.aload_n 0, 1) := by decide +kernel
theorem dL_entries_228 : decode cL_entries 228 = .ok (.iload 6, 2) := by decide +kernel
theorem dL_entries_230 : decode cL_entries 230 = .ok (.invokestatic 20, 3) := by decide +kernel
theorem dL_entries_233 : decode cL_entries 233 = .ok (.if_icmp .ne 7, 3) := by decide +kernel
theorem dL_entries_236 : decode cL_entries 236 = .ok (.iconst 1, 1) := by decide +kernel
theorem dL_entries_237 : decode cL_entries 237 = .ok (.goto 4, 3) := by decide +kernel
theorem dL_entries_240 : decode cL_entries 240 = .ok (.iconst 0, 1) := by decide +kernel
theorem dL_entries_241 : decode cL_entries 241 = .ok (.istore 5, 2) := by decide +kernel
theorem dL_entries_243 : decode cL_entries 243 = .ok (.iconst 0, 1) := by decide +kernel
theorem dL_entries_244 : decode cL_entries 244 = .ok (.istore 9, 2) := by decide +kernel
theorem dL_entries_246 : decode cL_entries 246 = .ok (.iload 9, 2) := by decide +kernel
theorem dL_entries_248 : decode cL_entries 248 = .ok (.bipush 6, 2) := by decide +kernel
theorem dL_entries_250 : decode cL_entries 250 = .ok (.if_icmp .ge 32, 3) := by decide +kernel
theorem dL_entries_253 : decode cL_entries 253 = .ok (.iload 5, 2) := by decide +kernel
theorem dL_entries_255 : decode cL_entries 255 = .ok (.ifCond .eq 27, 3) := by decide +kernel
theorem dL_entries_258 : decode cL_entries 258 = .ok (.aload_n 0, 1) := by decide +kernel
theorem dL_entries_259 : decode cL_entries 259 = .ok (.iload 9, 2) := by decide +kernel
theorem dL_entries_261 : decode cL_entries 261 = .ok (.iload 6, 2) := by decide +kernel
theorem dL_entries_263 : decode cL_entries 263 = .ok (.invokevirtual 26, 3) := by decide +kernel
theorem dL_entries_266 : decode cL_entries 266 = .ok (.ifCond .lt 7, 3) := by decide +kernel
theorem dL_entries_269 : decode cL_entries 269 = .ok (.iconst 1, 1) := by decide +kernel
theorem dL_entries_270 : decode cL_entries 270 = .ok (.goto 4, 3) := by decide +kernel
theorem dL_entries_273 : decode cL_entries 273 = .ok (.iconst 0, 1) := by decide +kernel
theorem dL_entries_274 : decode cL_entries 274 = .ok (.istore 5, 2) := by decide +kernel
theorem dL_entries_276 : decode cL_entries 276 = .ok (.iinc 9 1, 3) := by decide +kernel
theorem dL_entries_279 : decode cL_entries 279 = .ok (.goto (-33), 3) := by decide +kernel
theorem dL_entries_282 : decode cL_entries 282 = .ok (.iinc 6 1, 3) := by decide +kernel
theorem dL_entries_285 : decode cL_entries 285 = .ok (.goto (-229), 3) := by decide +kernel
theorem dL_entries_288 : decode cL_entries 288 = .ok (.iload 5, 2) := by decide +kernel
theorem dL_entries_290 : decode cL_entries 290 = .ok (.ifCond .eq 66, 3) := by decide +kernel
theorem dL_entries_293 : decode cL_entries 293 = .ok (.aload_n 0, 1) := by decide +kernel
theorem dL_entries_294 : decode cL_entries 294 = .ok (.iconst 2, 1) := by decide +kernel
theorem dL_entries_295 : decode cL_entries 295 = .ok (.invokevirtual 15, 3) := by decide +kernel
theorem dL_entries_298 : decode cL_entries 298 = .ok (.iload_n 2, 1) := by decide +kernel
theorem dL_entries_299 : decode cL_entries 299 = .ok (.if_icmp .ne 57, 3) := by decide +kernel
theorem dL_entries_302 : decode cL_entries 302 = .ok (.aload_n 0, 1) := by decide +kernel
theorem dL_entries_303 : decode cL_entries 303 = .ok (.bipush 9, 2) := by decide +kernel
theorem dL_entries_305 : decode cL_entries 305 = .ok (.invokevirtual 15, 3) := by decide +kernel
theorem dL_entries_308 : decode cL_entries 308 = .ok (.iload 4, 2) := by decide +kernel
theorem dL_entries_310 : decode cL_entries 310 = .ok (.if_icmp .ne 46, 3) := by decide +kernel
theorem dL_entries_313 : decode cL_entries 313 = .ok (.aload_n 0, 1) := by decide +kernel
theorem dL_entries_314 : decode cL_entries 314 = .ok (.bipush 11, 2) := by decide +kernel
theorem dL_entries_316 : decode cL_entries 316 = .ok (.invokevirtual 15, 3) := by decide +kernel
theorem dL_entries_319 : decode cL_entries 319 = .ok (.iload_n 3, 1) := by decide +kernel
theorem dL_entries_320 : decode cL_entries 320 = .ok (.if_icmp .ne 36, 3) := by decide +kernel
theorem dL_entries_323 : decode cL_entries 323 = .ok (.aload_n 0, 1) := by decide +kernel
theorem dL_entries_324 : decode cL_entries 324 = .ok (.bipush 10, 2) := by decide +kernel
theorem dL_entries_326 : decode cL_entries 326 = .ok (.invokevirtual 15, 3) := by decide +kernel
theorem dL_entries_329 : decode cL_entries 329 = .ok (.ldc 19, 2) := by decide +kernel
theorem dL_entries_331 : decode cL_entries 331 = .ok (.if_icmp .ne 7, 3) := by decide +kernel
theorem dL_entries_334 : decode cL_entries 334 = .ok (.iconst 1, 1) := by decide +kernel
theorem dL_entries_335 : decode cL_entries 335 = .ok (.goto 4, 3) := by decide +kernel
theorem dL_entries_338 : decode cL_entries 338 = .ok (.iconst 0, 1) := by decide +kernel
theorem dL_entries_339 : decode cL_entries 339 = .ok (.iload 4, 2) := by decide +kernel
theorem dL_entries_341 : decode cL_entries 341 = .ok (.ifCond .ne 7, 3) := by decide +kernel
theorem dL_entries_344 : decode cL_entries 344 = .ok (.iconst 1, 1) := by decide +kernel
theorem dL_entries_345 : decode cL_entries 345 = .ok (.goto 4, 3) := by decide +kernel
theorem dL_entries_348 : decode cL_entries 348 = .ok (.iconst 0, 1) := by decide +kernel
theorem dL_entries_349 : decode cL_entries 349 = .ok (.if_icmp .ne 7, 3) := by decide +kernel
theorem dL_entries_352 : decode cL_entries 352 = .ok (.iconst 1, 1) := by decide +kernel
theorem dL_entries_353 : decode cL_entries 353 = .ok (.goto 4, 3) := by decide +kernel
theorem dL_entries_356 : decode cL_entries 356 = .ok (.iconst 0, 1) := by decide +kernel
theorem dL_entries_357 : decode cL_entries 357 = .ok (.ireturn, 1) := by decide +kernel
set_option maxRecDepth 20000 in
theorem ggL_branches_X7_count : GoodIn wsL_branches wsX7_count := goodIn_r _ [5, 6, 7, 8, 9, 10, 11, 12, 13, 14, 15, 16, 17, 18, 19, 20, 21, 22, 23, 24, 25, 26, 27, 28, 29, 30, 31, 32, 33, 34, 35, 36, 37, 38, 39, 40, 41, 42, 43, 44, 45, 46, 47, 48, 49, 50, 51, 52, 53, 54, 55, 56, 57, 58, 59, 60, 61, 62, 63, 64, 65, 66, 67, 68, 69, 70, 71, 72, 73, 74, 75, 76, 77, 78, 79, 80, 81, 82, 83, 84, 85, 86, 87, 88, 89, 90, 4, 91, 92, 93, 94, 95, 96, 97, 98, 99, 100, 101, 102, 103, 104, 105, 106, 107, 108, 109, 192, 193, 194, 195, 196, 197, 198, 199, 200, 201, 202, 203, 204] (by decide +kernel) (by decide +kernel)
set_option maxRecDepth 20000 in
theorem gL_branches_X7_count : GoodIn wsL_branches (wsV RL 15 RX7 yX7_count wsX7_count) := goodIn_app (goodIn_of _ (by decide +kernel)) ggL_branches_X7_count
set_option maxRecDepth 20000 in
theorem ggL_branches_X7_branch : GoodIn wsL_branches wsX7_branch := goodIn_r _ [113, 6, 9, 114, 115, 116, 13, 117, 28, 11, 12, 14, 15, 93, 4, 94, 118, 34, 35, 36, 119, 42, 43, 44, 29, 30, 31, 32, 33, 10, 120, 121, 122, 123, 20, 21, 22, 23, 192, 193, 194, 195, 196, 197, 198, 199] (by decide +kernel) (by decide +kernel)
set_option maxRecDepth 20000 in
theorem gL_branches_X7_branch : GoodIn wsL_branches (wsV RL 29 RX7 yX7_branch wsX7_branch) := goodIn_app (goodIn_of _ (by decide +kernel)) ggL_branches_X7_branch
set_option maxRecDepth 20000 in
theorem ggL_branches_X7_entry : GoodIn wsL_branches wsX7_entry := goodIn_r _ [127, 6, 9, 128, 129, 130, 13, 131, 28, 11, 12, 14, 15, 93, 4, 94, 132, 21, 22, 23, 133, 62, 63, 64, 20, 65, 66, 67, 68, 10, 134, 135, 136, 137, 16, 17, 18, 19, 138, 139, 140, 141, 142, 143, 144, 145, 146, 147, 148, 149, 150, 151, 152, 153, 154, 155, 156, 157, 158, 159, 160, 161, 162, 163, 164, 165, 166, 167, 168, 169, 170, 171, 172, 173, 174, 175, 176, 177, 192, 193, 194, 195, 196, 197, 198, 199, 205] (by decide +kernel) (by decide +kernel)
set_option maxRecDepth 20000 in
theorem gL_branches_X7_entry : GoodIn wsL_branches (wsV RL 9 RX7 yX7_entry wsX7_entry) := goodIn_app (goodIn_of _ (by decide +kernel)) ggL_branches_X7_entry
set_option maxRecDepth 20000 in
theorem ggL_branches_X7_common : GoodIn wsL_branches wsX7_common := goodIn_r _ [181, 6, 9, 128, 129, 130, 13, 131, 28, 11, 12, 14, 15, 93, 4, 94, 120, 121, 122, 123, 20, 21, 22, 23, 192, 193, 194, 195, 196, 197, 198, 199] (by decide +kernel) (by decide +kernel)
set_option maxRecDepth 20000 in
theorem gL_branches_X7_common : GoodIn wsL_branches (wsV RL 32 RX7 yX7_common wsX7_common) := goodIn_app (goodIn_of _ (by decide +kernel)) ggL_branches_X7_common
set_option maxRecDepth 20000 in
theorem ggL_branches_X7_sealed : GoodIn wsL_branches wsX7_sealed := goodIn_r _ [185, 6, 9, 186, 187, 188, 13, 189, 28, 11, 12, 14, 15, 93, 4, 94, 190, 54, 55, 56, 191, 50, 51, 52, 53, 20, 21, 22, 23, 192, 193, 194, 195, 196, 197, 198, 199] (by decide +kernel) (by decide +kernel)
set_option maxRecDepth 20000 in
theorem gL_branches_X7_sealed : GoodIn wsL_branches (wsV RL 35 RX7 yX7_sealed wsX7_sealed) := goodIn_app (goodIn_of _ (by decide +kernel)) ggL_branches_X7_sealed
theorem dL_branches_0 : decode cL_branches 0 = .ok (.iconst 0, 1) := by decide +kernel
theorem dL_branches_1 : decode cL_branches 1 = .ok (.istore_n 1, 1) := by decide +kernel
theorem dL_branches_2 : decode cL_branches 2 = .ok (.iconst 0, 1) := by decide +kernel
theorem dL_branches_3 : decode cL_branches 3 = .ok (.istore_n 2, 1) := by decide +kernel
theorem dL_branches_4 : decode cL_branches 4 = .ok (.iconst 1, 1) := by decide +kernel
theorem dL_branches_5 : decode cL_branches 5 = .ok (.istore_n 3, 1) := by decide +kernel
theorem dL_branches_6 : decode cL_branches 6 = .ok (.iconst 0, 1) := by decide +kernel
theorem dL_branches_7 : decode cL_branches 7 = .ok (.istore 4, 2) := by decide +kernel
theorem dL_branches_9 : decode cL_branches 9 = .ok (.iload 4, 2) := by decide +kernel
theorem dL_branches_11 : decode cL_branches 11 = .ok (.aload_n 0, 1) := by decide +kernel
theorem dL_branches_12 : decode cL_branches 12 = .ok (.iconst 3, 1) := by decide +kernel
theorem dL_branches_13 : decode cL_branches 13 = .ok (.invokevirtual 15, 3) := by decide +kernel
theorem dL_branches_16 : decode cL_branches 16 = .ok (.if_icmp .ge 204, 3) := by decide +kernel
theorem dL_branches_19 : decode cL_branches 19 = .ok (.iload_n 3, 1) := by decide +kernel
theorem dL_branches_20 : decode cL_branches 20 = .ok (.ifCond .eq 200, 3) := by decide +kernel
theorem dL_branches_23 : decode cL_branches 23 = .ok (.aload_n 0, 1) := by decide +kernel
theorem dL_branches_24 : decode cL_branches 24 = .ok (.iload 4, 2) := by decide +kernel
theorem dL_branches_26 : decode cL_branches 26 = .ok (.iconst 0, 1) := by decide +kernel
theorem dL_branches_27 : decode cL_branches 27 = .ok (.invokevirtual 29, 3) := by decide +kernel
theorem dL_branches_30 : decode cL_branches 30 = .ok (.istore 5, 2) := by decide +kernel
theorem dL_branches_32 : decode cL_branches 32 = .ok (.aload_n 0, 1) := by decide +kernel
theorem dL_branches_33 : decode cL_branches 33 = .ok (.iload 4, 2) := by decide +kernel
theorem dL_branches_35 : decode cL_branches 35 = .ok (.iconst 4, 1) := by decide +kernel
theorem dL_branches_36 : decode cL_branches 36 = .ok (.invokevirtual 29, 3) := by decide +kernel
theorem dL_branches_39 : decode cL_branches 39 = .ok (.istore 6, 2) := by decide +kernel
theorem dL_branches_41 : decode cL_branches 41 = .ok (.aload_n 0, 1) := by decide +kernel
theorem dL_branches_42 : decode cL_branches 42 = .ok (.iload 4, 2) := by decide +kernel
theorem dL_branches_44 : decode cL_branches 44 = .ok (.iconst 5, 1) := by decide +kernel
theorem dL_branches_45 : decode cL_branches 45 = .ok (.invokevirtual 29, 3) := by decide +kernel
theorem dL_branches_48 : decode cL_branches 48 = .ok (.istore 7, 2) := by decide +kernel
theorem dL_branches_50 : decode cL_branches 50 = .ok (.iload_n 1, 1) := by decide +kernel
theorem dL_branches_51 : decode cL_branches 51 = .ok (.iload 6, 2) := by decide +kernel
theorem dL_branches_53 : decode cL_branches 53 = .ok (.iconst 2, 1) := by decide +kernel
theorem dL_branches_54 : decode cL_branches 54 = .ok (.if_icmp .ge 7, 3) := by decide +kernel
theorem dL_branches_57 : decode cL_branches 57 = .ok (.iconst 1, 1) := by decide +kernel
theorem dL_branches_58 : decode cL_branches 58 = .ok (.goto 4, 3) := by decide +kernel
theorem dL_branches_61 : decode cL_branches 61 = .ok (.iconst 0, 1) := by decide +kernel
theorem dL_branches_62 : decode cL_branches 62 = .ok (.iadd, 1) := by decide +kernel
theorem dL_branches_63 : decode cL_branches 63 = .ok (.istore_n 1, 1) := by decide +kernel
theorem dL_branches_64 : decode cL_branches 64 = .ok (.iload_n 2, 1) := by decide +kernel
theorem dL_branches_65 : decode cL_branches 65 = .ok (.iload 6, 2) := by decide +kernel
theorem dL_branches_67 : decode cL_branches 67 = .ok (.iconst 1, 1) := by decide +kernel
theorem dL_branches_68 : decode cL_branches 68 = .ok (.if_icmp .ne 7, 3) := by decide +kernel
theorem dL_branches_71 : decode cL_branches 71 = .ok (.iconst 1, 1) := by decide +kernel
theorem dL_branches_72 : decode cL_branches 72 = .ok (.goto 4, 3) := by decide +kernel
theorem dL_branches_75 : decode cL_branches 75 = .ok (.iconst 0, 1) := by decide +kernel
theorem dL_branches_76 : decode cL_branches 76 = .ok (.iadd, 1) := by decide +kernel
theorem dL_branches_77 : decode cL_branches 77 = .ok (.istore_n 2, 1) := by decide +kernel
theorem dL_branches_78 : decode cL_branches 78 = .ok (.aload_n 0, 1) := by decide +kernel
theorem dL_branches_79 : decode cL_branches 79 = .ok (.iload 4, 2) := by decide +kernel
theorem dL_branches_81 : decode cL_branches 81 = .ok (.iconst 2, 1) := by decide +kernel
theorem dL_branches_82 : decode cL_branches 82 = .ok (.invokevirtual 29, 3) := by decide +kernel
theorem dL_branches_85 : decode cL_branches 85 = .ok (.istore 8, 2) := by decide +kernel
theorem dL_branches_87 : decode cL_branches 87 = .ok (.aload_n 0, 1) := by decide +kernel
theorem dL_branches_88 : decode cL_branches 88 = .ok (.iload 4, 2) := by decide +kernel
theorem dL_branches_90 : decode cL_branches 90 = .ok (.iconst 1, 1) := by decide +kernel
theorem dL_branches_91 : decode cL_branches 91 = .ok (.invokevirtual 29, 3) := by decide +kernel
theorem dL_branches_94 : decode cL_branches 94 = .ok (.ifCond .le 118, 3) := by decide +kernel
theorem dL_branches_97 : decode cL_branches 97 = .ok (.aload_n 0, 1) := by decide +kernel
theorem dL_branches_98 : decode cL_branches 98 = .ok (.iload 5, 2) := by decide +kernel
theorem dL_branches_100 : decode cL_branches 100 = .ok (.bipush 9, 2) := by decide +kernel
theorem dL_branches_102 : decode cL_branches 102 = .ok (.invokevirtual 9, 3) := by decide +kernel
theorem dL_branches_105 : decode cL_branches 105 = .ok (.aload_n 0, 1) := by decide +kernel
theorem dL_branches_106 : decode cL_branches 106 = .ok (.iload 8, 2) := by decide +kernel
theorem dL_branches_108 : decode cL_branches 108 = .ok (.bipush 9, 2) := by decide +kernel
theorem dL_branches_110 : decode cL_branches 110 = .ok (.invokevirtual 9, 3) := by decide +kernel
theorem dL_branches_113 : decode cL_branches 113 = .ok (.isub, 1) := by decide +kernel
theorem dL_branches_114 : decode cL_branches 114 = .ok (.iconst 1, 1) := by decide +kernel
theorem dL_branches_115 : decode cL_branches 115 = .ok (.iadd, 1) := by decide +kernel
theorem dL_branches_116 : decode cL_branches 116 = .ok (.aload_n 0, 1) := by decide +kernel
theorem dL_branches_117 : decode cL_branches 117 = .ok (.iload 4, 2) := by decide +kernel
theorem dL_branches_119 : decode cL_branches 119 = .ok (.iconst 1, 1) := by decide +kernel
theorem dL_branches_120 : decode cL_branches 120 = .ok (.invokevirtual 29, 3) := by decide +kernel
theorem dL_branches_123 : decode cL_branches 123 = .ok (.if_icmp .ne 89, 3) := by decide +kernel
theorem dL_branches_126 : decode cL_branches 126 = .ok (.aload_n 0, 1) := by decide +kernel
theorem dL_branches_127 : decode cL_branches 127 = .ok (.iload 8, 2) := by decide +kernel
theorem dL_branches_129 : decode cL_branches 129 = .ok (.iload 5, 2) := by decide +kernel
theorem dL_branches_131 : decode cL_branches 131 = .ok (.invokevirtual 32, 3) := by decide +kernel
theorem dL_branches_134 : decode cL_branches 134 = .ok (.iload 8, 2) := by decide +kernel
theorem dL_branches_136 : decode cL_branches 136 = .ok (.if_icmp .ne 76, 3) := by decide +kernel
theorem dL_branches_139 : decode cL_branches 139 = .ok (.aload_n 0, 1) := by decide +kernel
theorem dL_branches_140 : decode cL_branches 140 = .ok (.iload 5, 2) := by decide +kernel
theorem dL_branches_142 : decode cL_branches 142 = .ok (.aload_n 0, 1) := by decide +kernel
theorem dL_branches_143 : decode cL_branches 143 = .ok (.iconst 1, 1) := by decide +kernel
theorem dL_branches_144 : decode cL_branches 144 = .ok (.invokevirtual 15, 3) := by decide +kernel
theorem dL_branches_147 : decode cL_branches 147 = .ok (.invokevirtual 32, 3) := by decide +kernel
theorem dL_branches_150 : decode cL_branches 150 = .ok (.iload 7, 2) := by decide +kernel
theorem dL_branches_152 : decode cL_branches 152 = .ok (.if_icmp .ne 60, 3) := by decide +kernel
theorem dL_branches_155 : decode cL_branches 155 = .ok (.aload_n 0, 1) := by decide +kernel
theorem dL_branches_156 : decode cL_branches 156 = .ok (.iload 7, 2) := by decide +kernel
theorem dL_branches_158 : decode cL_branches 158 = .ok (.bipush 7, 2) := by decide +kernel
theorem dL_branches_160 : decode cL_branches 160 = .ok (.invokevirtual 9, 3) := by decide +kernel
theorem dL_branches_163 : decode cL_branches 163 = .ok (.iconst 1, 1) := by decide +kernel
theorem dL_branches_164 : decode cL_branches 164 = .ok (.if_icmp .ne 48, 3) := by decide +kernel
theorem dL_branches_167 : decode cL_branches 167 = .ok (.iload 6, 2) := by decide +kernel
theorem dL_branches_169 : decode cL_branches 169 = .ok (.iconst 1, 1) := by decide +kernel
theorem dL_branches_170 : decode cL_branches 170 = .ok (.if_icmp .ne 7, 3) := by decide +kernel
theorem dL_branches_173 : decode cL_branches 173 = .ok (.iconst 1, 1) := by decide +kernel
theorem dL_branches_174 : decode cL_branches 174 = .ok (.goto 4, 3) := by decide +kernel
theorem dL_branches_177 : decode cL_branches 177 = .ok (.iconst 0, 1) := by decide +kernel
theorem dL_branches_178 : decode cL_branches 178 = .ok (.iload 6, 2) := by decide +kernel
theorem dL_branches_180 : decode cL_branches 180 = .ok (.iconst 2, 1) := by decide +kernel
theorem dL_branches_181 : decode cL_branches 181 = .ok (.if_icmp .ge 23, 3) := by decide +kernel
theorem dL_branches_184 : decode cL_branches 184 = .ok (.aload_n 0, 1) := by decide +kernel
theorem dL_branches_185 : decode cL_branches 185 = .ok (.iload 4, 2) := by decide +kernel
theorem dL_branches_187 : decode cL_branches 187 = .ok (.iconst 3, 1) := by decide +kernel
theorem dL_branches_188 : decode cL_branches 188 = .ok (.invokevirtual 29, 3) := by decide +kernel
theorem dL_branches_191 : decode cL_branches 191 = .ok (.aload_n 0, 1) := by decide +kernel
theorem dL_branches_192 : decode cL_branches 192 = .ok (.bipush 6, 2) := by decide +kernel
theorem dL_branches_194 : decode cL_branches 194 = .ok (.invokevirtual 15, 3) := by decide +kernel
theorem dL_branches_197 : decode cL_branches 197 = .ok (.if_icmp .lt 7, 3) := by decide +kernel
theorem dL_branches_200 : decode cL_branches 200 = .ok (.iconst 1, 1) := by decide +kernel
theorem dL_branches_201 : decode cL_branches 201 = .ok (.goto 4, 3) := by decide +kernel
theorem dL_branches_204 : decode cL_branches 204 = .ok (.iconst 0, 1) := by decide +kernel
theorem dL_branches_205 : decode cL_branches 205 = .ok (.if_icmp .ne 7, 3) := by decide +kernel
theorem dL_branches_208 : decode cL_branches 208 = .ok (.iconst 1, 1) := by decide +kernel
theorem dL_branches_209 : decode cL_branches 209 = .ok (.goto 4, 3) := by decide +kernel
theorem dL_branches_212 : decode cL_branches 212 = .ok (.iconst 0, 1) := by decide +kernel
theorem dL_branches_213 : decode cL_branches 213 = .ok (.istore_n 3, 1) := by decide +kernel
theorem dL_branches_214 : decode cL_branches 214 = .ok (.iinc 4 1, 3) := by decide +kernel
theorem dL_branches_217 : decode cL_branches 217 = .ok (.goto (-208), 3) := by decide +kernel
theorem dL_branches_220 : decode cL_branches 220 = .ok (.iconst 0, 1) := by decide +kernel
theorem dL_branches_221 : decode cL_branches 221 = .ok (.istore 4, 2) := by decide +kernel
theorem dL_branches_223 : decode cL_branches 223 = .ok (.iconst 0, 1) := by decide +kernel
theorem dL_branches_224 : decode cL_branches 224 = .ok (.istore 5, 2) := by decide +kernel
theorem dL_branches_226 : decode cL_branches 226 = .ok (.iload 5, 2) := by decide +kernel
theorem dL_branches_228 : decode cL_branches 228 = .ok (.aload_n 0, 1) := by decide +kernel
theorem dL_branches_229 : decode cL_branches 229 = .ok (.bipush 7, 2) := by decide +kernel
theorem dL_branches_231 : decode cL_branches 231 = .ok (.invokevirtual 15, 3) := by decide +kernel
theorem dL_branches_234 : decode cL_branches 234 = .ok (.if_icmp .ge 69, 3) := by decide +kernel
theorem dL_branches_237 : decode cL_branches 237 = .ok (.iload_n 3, 1) := by decide +kernel
theorem dL_branches_238 : decode cL_branches 238 = .ok (.ifCond .eq 65, 3) := by decide +kernel
theorem dL_branches_241 : decode cL_branches 241 = .ok (.aload_n 0, 1) := by decide +kernel
theorem dL_branches_242 : decode cL_branches 242 = .ok (.aload_n 0, 1) := by decide +kernel
theorem dL_branches_243 : decode cL_branches 243 = .ok (.iload 5, 2) := by decide +kernel
theorem dL_branches_245 : decode cL_branches 245 = .ok (.iconst 0, 1) := by decide +kernel
theorem dL_branches_246 : decode cL_branches 246 = .ok (.invokevirtual 35, 3) := by decide +kernel
theorem dL_branches_249 : decode cL_branches 249 = .ok (.iconst 5, 1) := by decide +kernel
theorem dL_branches_250 : decode cL_branches 250 = .ok (.invokevirtual 9, 3) := by decide +kernel
theorem dL_branches_253 : decode cL_branches 253 = .ok (.aload_n 0, 1) := by decide +kernel
theorem dL_branches_254 : decode cL_branches 254 = .ok (.iload 5, 2) := by decide +kernel
theorem dL_branches_256 : decode cL_branches 256 = .ok (.iconst 1, 1) := by decide +kernel
theorem dL_branches_257 : decode cL_branches 257 = .ok (.invokevirtual 35, 3) := by decide +kernel
theorem dL_branches_260 : decode cL_branches 260 = .ok (.if_icmp .ne 7, 3) := by decide +kernel
theorem dL_branches_263 : decode cL_branches 263 = .ok (.iconst 1, 1) := by decide +kernel
theorem dL_branches_264 : decode cL_branches 264 = .ok (.goto 4, 3) := by decide +kernel
theorem dL_branches_267 : decode cL_branches 267 = .ok (.iconst 0, 1) := by decide +kernel
theorem dL_branches_268 : decode cL_branches 268 = .ok (.istore 6, 2) := by decide +kernel
theorem dL_branches_270 : decode cL_branches 270 = .ok (.iload 4, 2) := by decide +kernel
theorem dL_branches_272 : decode cL_branches 272 = .ok (.iconst 1, 1) := by decide +kernel
theorem dL_branches_273 : decode cL_branches 273 = .ok (.iload 6, 2) := by decide +kernel
theorem dL_branches_275 : decode cL_branches 275 = .ok (.isub, 1) := by decide +kernel
theorem dL_branches_276 : decode cL_branches 276 = .ok (.iadd, 1) := by decide +kernel
theorem dL_branches_277 : decode cL_branches 277 = .ok (.istore 4, 2) := by decide +kernel
theorem dL_branches_279 : decode cL_branches 279 = .ok (.aload_n 0, 1) := by decide +kernel
theorem dL_branches_280 : decode cL_branches 280 = .ok (.iload 5, 2) := by decide +kernel
theorem dL_branches_282 : decode cL_branches 282 = .ok (.iconst 2, 1) := by decide +kernel
theorem dL_branches_283 : decode cL_branches 283 = .ok (.invokevirtual 35, 3) := by decide +kernel
theorem dL_branches_286 : decode cL_branches 286 = .ok (.iload 6, 2) := by decide +kernel
theorem dL_branches_288 : decode cL_branches 288 = .ok (.if_icmp .ne 7, 3) := by decide +kernel
theorem dL_branches_291 : decode cL_branches 291 = .ok (.iconst 1, 1) := by decide +kernel
theorem dL_branches_292 : decode cL_branches 292 = .ok (.goto 4, 3) := by decide +kernel
theorem dL_branches_295 : decode cL_branches 295 = .ok (.iconst 0, 1) := by decide +kernel
theorem dL_branches_296 : decode cL_branches 296 = .ok (.istore_n 3, 1) := by decide +kernel
theorem dL_branches_297 : decode cL_branches 297 = .ok (.iinc 5 1, 3) := by decide +kernel
theorem dL_branches_300 : decode cL_branches 300 = .ok (.goto (-74), 3) := by decide +kernel
theorem dL_branches_303 : decode cL_branches 303 = .ok (.iload_n 3, 1) := by decide +kernel
theorem dL_branches_304 : decode cL_branches 304 = .ok (.ifCond .eq 36, 3) := by decide +kernel
theorem dL_branches_307 : decode cL_branches 307 = .ok (.aload_n 0, 1) := by decide +kernel
theorem dL_branches_308 : decode cL_branches 308 = .ok (.iconst 4, 1) := by decide +kernel
theorem dL_branches_309 : decode cL_branches 309 = .ok (.invokevirtual 15, 3) := by decide +kernel
theorem dL_branches_312 : decode cL_branches 312 = .ok (.iload_n 1, 1) := by decide +kernel
theorem dL_branches_313 : decode cL_branches 313 = .ok (.if_icmp .ne 27, 3) := by decide +kernel
theorem dL_branches_316 : decode cL_branches 316 = .ok (.aload_n 0, 1) := by decide +kernel
theorem dL_branches_317 : decode cL_branches 317 = .ok (.iconst 5, 1) := by decide +kernel
theorem dL_branches_318 : decode cL_branches 318 = .ok (.invokevirtual 15, 3) := by decide +kernel
theorem dL_branches_321 : decode cL_branches 321 = .ok (.iload_n 2, 1) := by decide +kernel
theorem dL_branches_322 : decode cL_branches 322 = .ok (.if_icmp .ne 18, 3) := by decide +kernel
theorem dL_branches_325 : decode cL_branches 325 = .ok (.aload_n 0, 1) := by decide +kernel
theorem dL_branches_326 : decode cL_branches 326 = .ok (.bipush 8, 2) := by decide +kernel
theorem dL_branches_328 : decode cL_branches 328 = .ok (.invokevirtual 15, 3) := by decide +kernel
theorem dL_branches_331 : decode cL_branches 331 = .ok (.iload 4, 2) := by decide +kernel
theorem dL_branches_333 : decode cL_branches 333 = .ok (.if_icmp .ne 7, 3) := by decide +kernel
theorem dL_branches_336 : decode cL_branches 336 = .ok (.iconst 1, 1) := by decide +kernel
theorem dL_branches_337 : decode cL_branches 337 = .ok (.goto 4, 3) := by decide +kernel
theorem dL_branches_340 : decode cL_branches 340 = .ok (.iconst 0, 1) := by decide +kernel
theorem dL_branches_341 : decode cL_branches 341 = .ok (.ireturn, 1) := by decide +kernel
set_option maxRecDepth 20000 in
theorem ggL_holds_X7_count : GoodIn wsL_holds wsX7_count := goodIn_r _ [6, 7, 8, 9, 10, 11, 12, 13, 14, 15, 16, 17, 18, 19, 20, 21, 22, 23, 24, 25, 26, 27, 28, 29, 30, 31, 32, 33, 34, 35, 36, 37, 38, 39, 40, 41, 42, 43, 44, 45, 46, 47, 48, 49, 50, 51, 52, 53, 54, 55, 56, 57, 58, 59, 60, 61, 62, 63, 64, 65, 66, 67, 68, 69, 70, 71, 72, 73, 74, 75, 76, 77, 78, 79, 80, 81, 82, 83, 84, 85, 86, 87, 88, 89, 90, 91, 5, 92, 93, 94, 95, 96, 97, 98, 99, 100, 101, 102, 103, 104, 105, 106, 107, 108, 109, 110, 240, 241, 242, 243, 244, 245, 246, 247, 248, 249, 250, 251, 252] (by decide +kernel) (by decide +kernel)
set_option maxRecDepth 20000 in
theorem gL_holds_X7_count : GoodIn wsL_holds (wsV RL 15 RX7 yX7_count wsX7_count) := goodIn_app (goodIn_of _ (by decide +kernel)) ggL_holds_X7_count
set_option maxRecDepth 20000 in
theorem ggL_holds_X7_onChain : GoodIn wsL_holds wsX7_onChain := goodIn_r _ [114, 10, 115, 116, 117, 118, 5, 119, 7, 11, 12, 13, 14, 15, 16, 17, 18, 19, 20, 21, 22, 23, 24, 120, 121, 122, 123, 124, 125, 126, 127, 128, 129, 130, 131, 132, 133, 134, 135, 136, 137, 138, 139, 240, 241, 242, 243, 244, 245, 246, 247, 253, 254] (by decide +kernel) (by decide +kernel)
set_option maxRecDepth 20000 in
theorem gL_holds_X7_onChain : GoodIn wsL_holds (wsV RL 38 RX7 yX7_onChain wsX7_onChain) := goodIn_app (goodIn_of _ (by decide +kernel)) ggL_holds_X7_onChain
set_option maxRecDepth 20000 in
theorem ggL_holds_X7_entry : GoodIn wsL_holds wsX7_entry := goodIn_r _ [143, 7, 10, 144, 145, 146, 14, 147, 29, 12, 13, 15, 16, 94, 5, 95, 148, 22, 23, 24, 149, 63, 64, 65, 21, 66, 67, 68, 69, 11, 150, 151, 152, 153, 17, 18, 19, 20, 154, 155, 156, 157, 158, 159, 160, 161, 162, 163, 164, 165, 166, 167, 168, 169, 170, 171, 172, 173, 174, 175, 176, 177, 178, 179, 180, 181, 182, 183, 184, 185, 186, 187, 188, 189, 190, 191, 192, 193, 240, 241, 242, 243, 244, 245, 246, 247, 255] (by decide +kernel) (by decide +kernel)
set_option maxRecDepth 20000 in
theorem gL_holds_X7_entry : GoodIn wsL_holds (wsV RL 9 RX7 yX7_entry wsX7_entry) := goodIn_app (goodIn_of _ (by decide +kernel)) ggL_holds_X7_entry
set_option maxRecDepth 20000 in
theorem ggL_holds_L_entries : GoodIn wsL_holds wsL_entries := goodIn_r _ [197, 1, 2, 3, 4, 5, 6, 7, 8, 9, 10, 11, 12, 13, 14, 15, 16, 17, 18, 19, 20, 21, 22, 23, 24, 25, 26, 27, 28, 29, 30, 31, 32, 33, 34, 35, 36, 37, 38, 39, 40, 41, 42, 43, 44, 45, 46, 47, 48, 49, 50, 51, 52, 53, 54, 55, 56, 57, 58, 59, 60, 61, 62, 63, 64, 65, 66, 67, 68, 69, 70, 71, 72, 73, 74, 75, 76, 77, 78, 79, 80, 81, 82, 83, 84, 85, 86, 87, 88, 89, 90, 91, 92, 93, 94, 95, 96, 97, 98, 99, 100, 101, 102, 103, 104, 105, 106, 107, 108, 109, 110, 140, 141, 142, 143, 144, 145, 146, 147, 148, 149, 150, 151, 152, 153, 154, 155, 156, 157, 158, 159, 160, 161, 162, 163, 164, 165, 166, 167, 168, 169, 170, 171, 172, 173, 174, 175, 176, 177, 178, 179, 180, 181, 182, 183, 184, 185, 186, 187, 188, 189, 190, 191, 192, 193, 198, 199, 196, 200, 201, 202, 203, 204, 205, 206, 207, 208, 240, 241, 242, 243, 244, 245, 246, 247, 248, 249, 250, 251, 252, 255] (by decide +kernel) (by decide +kernel)
set_option maxRecDepth 20000 in
theorem gL_holds_L_entries : GoodIn wsL_holds (va_wsS RL 41 yL_entries wsL_entries) := goodIn_app (goodIn_of _ (by decide +kernel)) ggL_holds_L_entries
set_option maxRecDepth 20000 in
theorem ggL_holds_L_branches : GoodIn wsL_holds wsL_branches := goodIn_r _ [211, 2, 3, 4, 5, 6, 7, 8, 9, 10, 11, 12, 13, 14, 15, 16, 17, 18, 19, 20, 21, 22, 23, 24, 25, 26, 27, 28, 29, 30, 31, 32, 33, 34, 35, 36, 37, 38, 39, 40, 41, 42, 43, 44, 45, 46, 47, 48, 49, 50, 51, 52, 53, 54, 55, 56, 57, 58, 59, 60, 61, 62, 63, 64, 65, 66, 67, 68, 69, 70, 71, 72, 73, 74, 75, 76, 77, 78, 79, 80, 81, 82, 83, 84, 85, 86, 87, 88, 89, 90, 91, 92, 93, 94, 95, 96, 97, 98, 99, 100, 101, 102, 103, 104, 105, 106, 107, 108, 109, 110, 212, 213, 214, 215, 216, 217, 218, 219, 220, 221, 222, 223, 224, 225, 140, 141, 142, 143, 144, 145, 146, 147, 148, 149, 150, 151, 152, 153, 154, 155, 156, 157, 158, 159, 160, 161, 162, 163, 164, 165, 166, 167, 168, 169, 170, 171, 172, 173, 174, 175, 176, 177, 178, 179, 180, 181, 182, 183, 184, 185, 186, 187, 188, 189, 190, 191, 192, 193, 226, 227, 228, 229, 230, 231, 232, 233, 234, 235, 236, 237, 238, 239, 240, 241, 242, 243, 244, 245, 246, 247, 248, 249, 250, 251, 252, 255] (by decide +kernel) (by decide +kernel)
set_option maxRecDepth 20000 in
theorem gL_holds_L_branches : GoodIn wsL_holds (va_wsS RL 45 yL_branches wsL_branches) := goodIn_app (goodIn_of _ (by decide +kernel)) ggL_holds_L_branches
theorem dL_holds_0 : decode cL_holds 0 = .ok (.aload_n 0, 1) := by decide +kernel
theorem dL_holds_1 : decode cL_holds 1 = .ok (.iconst 2, 1) := by decide +kernel
theorem dL_holds_2 : decode cL_holds 2 = .ok (.invokevirtual 15, 3) := by decide +kernel
theorem dL_holds_5 : decode cL_holds 5 = .ok (.istore_n 1, 1) := by decide +kernel
theorem dL_holds_6 : decode cL_holds 6 = .ok (.aload_n 0, 1) := by decide +kernel
theorem dL_holds_7 : decode cL_holds 7 = .ok (.iconst 0, 1) := by decide +kernel
theorem dL_holds_8 : decode cL_holds 8 = .ok (.invokevirtual 38, 3) := by decide +kernel
theorem dL_holds_11 : decode cL_holds 11 = .ok (.ifCond .ne 32, 3) := by decide +kernel
theorem dL_holds_14 : decode cL_holds 14 = .ok (.aload_n 0, 1) := by decide +kernel
theorem dL_holds_15 : decode cL_holds 15 = .ok (.iload_n 1, 1) := by decide +kernel
theorem dL_holds_16 : decode cL_holds 16 = .ok (.iconst 1, 1) := by decide +kernel
theorem dL_holds_17 : decode cL_holds 17 = .ok (.isub, 1) := by decide +kernel
theorem dL_holds_18 : decode cL_holds 18 = .ok (.invokevirtual 38, 3) := by decide +kernel
theorem dL_holds_21 : decode cL_holds 21 = .ok (.aload_n 0, 1) := by decide +kernel
theorem dL_holds_22 : decode cL_holds 22 = .ok (.iconst 1, 1) := by decide +kernel
theorem dL_holds_23 : decode cL_holds 23 = .ok (.invokevirtual 15, 3) := by decide +kernel
theorem dL_holds_26 : decode cL_holds 26 = .ok (.if_icmp .ne 17, 3) := by decide +kernel
theorem dL_holds_29 : decode cL_holds 29 = .ok (.aload_n 0, 1) := by decide +kernel
theorem dL_holds_30 : decode cL_holds 30 = .ok (.iload_n 1, 1) := by decide +kernel
theorem dL_holds_31 : decode cL_holds 31 = .ok (.invokevirtual 38, 3) := by decide +kernel
theorem dL_holds_34 : decode cL_holds 34 = .ok (.ldc 19, 2) := by decide +kernel
theorem dL_holds_36 : decode cL_holds 36 = .ok (.if_icmp .ne 7, 3) := by decide +kernel
theorem dL_holds_39 : decode cL_holds 39 = .ok (.iconst 1, 1) := by decide +kernel
theorem dL_holds_40 : decode cL_holds 40 = .ok (.goto 4, 3) := by decide +kernel
theorem dL_holds_43 : decode cL_holds 43 = .ok (.iconst 0, 1) := by decide +kernel
theorem dL_holds_44 : decode cL_holds 44 = .ok (.istore_n 2, 1) := by decide +kernel
theorem dL_holds_45 : decode cL_holds 45 = .ok (.iconst 1, 1) := by decide +kernel
theorem dL_holds_46 : decode cL_holds 46 = .ok (.istore_n 3, 1) := by decide +kernel
theorem dL_holds_47 : decode cL_holds 47 = .ok (.iload_n 3, 1) := by decide +kernel
theorem dL_holds_48 : decode cL_holds 48 = .ok (.iload_n 1, 1) := by decide +kernel
theorem dL_holds_49 : decode cL_holds 49 = .ok (.if_icmp .ge 39, 3) := by decide +kernel
theorem dL_holds_52 : decode cL_holds 52 = .ok (.iload_n 2, 1) := by decide +kernel
theorem dL_holds_53 : decode cL_holds 53 = .ok (.ifCond .eq 35, 3) := by decide +kernel
theorem dL_holds_56 : decode cL_holds 56 = .ok (.aload_n 0, 1) := by decide +kernel
theorem dL_holds_57 : decode cL_holds 57 = .ok (.aload_n 0, 1) := by decide +kernel
theorem dL_holds_58 : decode cL_holds 58 = .ok (.iload_n 3, 1) := by decide +kernel
theorem dL_holds_59 : decode cL_holds 59 = .ok (.invokevirtual 38, 3) := by decide +kernel
theorem dL_holds_62 : decode cL_holds 62 = .ok (.iconst 4, 1) := by decide +kernel
theorem dL_holds_63 : decode cL_holds 63 = .ok (.invokevirtual 9, 3) := by decide +kernel
theorem dL_holds_66 : decode cL_holds 66 = .ok (.aload_n 0, 1) := by decide +kernel
theorem dL_holds_67 : decode cL_holds 67 = .ok (.iload_n 3, 1) := by decide +kernel
theorem dL_holds_68 : decode cL_holds 68 = .ok (.iconst 1, 1) := by decide +kernel
theorem dL_holds_69 : decode cL_holds 69 = .ok (.isub, 1) := by decide +kernel
theorem dL_holds_70 : decode cL_holds 70 = .ok (.invokevirtual 38, 3) := by decide +kernel
theorem dL_holds_73 : decode cL_holds 73 = .ok (.if_icmp .ne 7, 3) := by decide +kernel
theorem dL_holds_76 : decode cL_holds 76 = .ok (.iconst 1, 1) := by decide +kernel
theorem dL_holds_77 : decode cL_holds 77 = .ok (.goto 4, 3) := by decide +kernel
theorem dL_holds_80 : decode cL_holds 80 = .ok (.iconst 0, 1) := by decide +kernel
theorem dL_holds_81 : decode cL_holds 81 = .ok (.istore_n 2, 1) := by decide +kernel
theorem dL_holds_82 : decode cL_holds 82 = .ok (.iinc 3 1, 3) := by decide +kernel
theorem dL_holds_85 : decode cL_holds 85 = .ok (.goto (-38), 3) := by decide +kernel
theorem dL_holds_88 : decode cL_holds 88 = .ok (.iload_n 2, 1) := by decide +kernel
theorem dL_holds_89 : decode cL_holds 89 = .ok (.ifCond .eq 21, 3) := by decide +kernel
theorem dL_holds_92 : decode cL_holds 92 = .ok (.aload_n 0, 1) := by decide +kernel
theorem dL_holds_93 : decode cL_holds 93 = .ok (.invokestatic 41, 3) := by decide +kernel
theorem dL_holds_96 : decode cL_holds 96 = .ok (.ifCond .eq 14, 3) := by decide +kernel
theorem dL_holds_99 : decode cL_holds 99 = .ok (.aload_n 0, 1) := by decide +kernel
theorem dL_holds_100 : decode cL_holds 100 = .ok (.invokestatic 45, 3) := by decide +kernel
theorem dL_holds_103 : decode cL_holds 103 = .ok (.ifCond .eq 7, 3) := by decide +kernel
theorem dL_holds_106 : decode cL_holds 106 = .ok (.iconst 1, 1) := by decide +kernel
theorem dL_holds_107 : decode cL_holds 107 = .ok (.goto 4, 3) := by decide +kernel
theorem dL_holds_110 : decode cL_holds 110 = .ok (.iconst 0, 1) := by decide +kernel
theorem dL_holds_111 : decode cL_holds 111 = .ok (.ireturn, 1) := by decide +kernel
