set_option maxRecDepth 20000 in
theorem ggL_writes_X7_count : GoodIn wsL_writes wsX7_count := goodIn_r _ [6, 7, 8, 9, 10, 11, 12, 13, 14, 15, 16, 17, 18, 19, 20, 21, 22, 23, 24, 25, 26, 27, 28, 29, 30, 31, 32, 33, 34, 35, 36, 37, 38, 39, 40, 41, 42, 43, 44, 45, 46, 47, 48, 49, 50, 51, 52, 53, 54, 55, 56, 57, 58, 59, 60, 61, 62, 63, 64, 65, 66, 67, 68, 69, 70, 71, 72, 73, 74, 75, 76, 77, 78, 79, 80, 81, 82, 83, 84, 85, 86, 87, 88, 89, 90, 91, 5, 92, 93, 94, 95, 96, 97, 98, 99, 100, 101, 102, 103, 104, 105, 106, 107, 108, 109, 110, 260, 261, 262, 263, 264, 265, 266, 267, 268, 269, 270, 271, 272] (by decide +kernel) (by decide +kernel)
set_option maxRecDepth 20000 in
theorem gL_writes_X7_count : GoodIn wsL_writes (wsV RL 15 RX7 yX7_count wsX7_count) := goodIn_app (goodIn_of _ (by decide +kernel)) ggL_writes_X7_count
set_option maxRecDepth 20000 in
theorem ggL_writes_X7_branch : GoodIn wsL_writes wsX7_branch := goodIn_r _ [114, 7, 10, 115, 116, 117, 14, 118, 29, 12, 13, 15, 16, 94, 5, 95, 119, 35, 36, 37, 120, 43, 44, 45, 30, 31, 32, 33, 34, 11, 121, 122, 123, 124, 21, 22, 23, 24, 260, 261, 262, 263, 264, 265, 266, 267] (by decide +kernel) (by decide +kernel)
set_option maxRecDepth 20000 in
theorem gL_writes_X7_branch : GoodIn wsL_writes (wsV RL 29 RX7 yX7_branch wsX7_branch) := goodIn_app (goodIn_of _ (by decide +kernel)) ggL_writes_X7_branch
set_option maxRecDepth 20000 in
theorem ggL_writes_X7_deposit : GoodIn wsL_writes wsX7_deposit := goodIn_r _ [128, 10, 129, 130, 5, 131, 93, 94, 95, 132, 133, 134, 135, 136, 137, 138, 7, 139, 140, 141, 8, 142, 38, 39, 40, 14, 41, 29, 12, 13, 15, 16, 42, 43, 44, 45, 30, 31, 32, 33, 34, 35, 36, 37, 11, 143, 144, 145, 146, 147, 148, 149, 150, 151, 152, 153, 154, 155, 156, 157, 158, 159, 160, 161, 22, 23, 24, 162, 163, 164, 165, 166, 167, 168, 169, 170, 171, 172, 173, 174, 175, 176, 177, 178, 179, 180, 181, 182, 183, 184, 102, 185, 186, 187, 104, 188, 189, 190, 191, 192, 193, 194, 195, 196, 197, 198, 199, 200, 201, 202, 203, 204, 205, 206, 207, 208, 209, 210, 211, 212, 213, 214, 215, 66, 67, 68, 69, 21, 216, 217, 218, 219, 260, 261, 262, 263, 264, 265, 266, 267, 273, 268, 269, 270] (by decide +kernel) (by decide +kernel)
set_option maxRecDepth 20000 in
theorem gL_writes_X7_deposit : GoodIn wsL_writes (wsV RL 48 RX7 yX7_deposit wsX7_deposit) := goodIn_app (goodIn_of _ (by decide +kernel)) ggL_writes_X7_deposit
set_option maxRecDepth 20000 in
theorem ggL_writes_X7_fee : GoodIn wsL_writes wsX7_fee := goodIn_r _ [223, 10, 224, 225, 5, 226, 93, 94, 95, 132, 133, 134, 135, 136, 137, 138, 7, 139, 140, 141, 8, 142, 38, 39, 40, 14, 41, 29, 12, 13, 15, 16, 42, 43, 44, 45, 30, 31, 32, 33, 34, 35, 36, 37, 11, 143, 144, 145, 146, 147, 148, 149, 150, 151, 152, 153, 154, 155, 156, 157, 158, 159, 160, 161, 22, 23, 24, 162, 163, 164, 165, 166, 167, 168, 169, 170, 171, 172, 173, 174, 175, 176, 177, 178, 179, 180, 181, 182, 183, 184, 102, 185, 186, 187, 104, 188, 189, 190, 191, 192, 193, 194, 195, 196, 197, 198, 199, 200, 201, 202, 203, 204, 205, 206, 207, 208, 209, 210, 211, 212, 213, 214, 215, 66, 67, 68, 69, 21, 216, 217, 218, 219, 260, 261, 262, 263, 264, 265, 266, 267, 273, 268, 269, 270] (by decide +kernel) (by decide +kernel)
set_option maxRecDepth 20000 in
theorem gL_writes_X7_fee : GoodIn wsL_writes (wsV RL 51 RX7 yX7_fee wsX7_fee) := goodIn_app (goodIn_of _ (by decide +kernel)) ggL_writes_X7_fee
set_option maxRecDepth 20000 in
theorem ggL_writes_X7_note : GoodIn wsL_writes wsX7_note := goodIn_r _ [230, 10, 231, 232, 5, 233, 93, 94, 95, 135, 136, 137, 138, 7, 139, 140, 141, 8, 142, 38, 39, 40, 14, 41, 29, 12, 13, 15, 16, 42, 43, 44, 45, 30, 31, 32, 33, 34, 35, 36, 37, 11, 143, 144, 145, 146, 147, 148, 149, 150, 151, 152, 153, 154, 155, 156, 157, 158, 159, 160, 161, 22, 23, 24, 162, 163, 164, 165, 166, 167, 168, 169, 170, 171, 172, 173, 174, 175, 176, 177, 178, 179, 180, 181, 182, 183, 184, 102, 185, 186, 187, 104, 188, 189, 190, 191, 192, 193, 194, 195, 196, 197, 198, 199, 200, 201, 202, 203, 204, 205, 206, 207, 208, 209, 210, 211, 212, 213, 214, 215, 66, 67, 68, 69, 21, 216, 217, 218, 219, 260, 261, 262, 263, 264, 265, 266, 267, 273, 268, 269, 270] (by decide +kernel) (by decide +kernel)
set_option maxRecDepth 20000 in
theorem gL_writes_X7_note : GoodIn wsL_writes (wsV RL 54 RX7 yX7_note wsX7_note) := goodIn_app (goodIn_of _ (by decide +kernel)) ggL_writes_X7_note
set_option maxRecDepth 20000 in
theorem ggL_writes_X7_pay : GoodIn wsL_writes wsX7_pay := goodIn_r _ [237, 10, 224, 225, 5, 226, 93, 94, 95, 132, 133, 134, 135, 136, 137, 138, 7, 139, 140, 141, 8, 142, 38, 39, 40, 14, 41, 29, 12, 13, 15, 16, 42, 43, 44, 45, 30, 31, 32, 33, 34, 35, 36, 37, 11, 143, 144, 145, 146, 147, 148, 149, 150, 151, 152, 153, 154, 155, 156, 157, 158, 159, 160, 161, 22, 23, 24, 162, 163, 164, 165, 166, 167, 168, 169, 170, 171, 172, 173, 174, 175, 176, 177, 178, 179, 180, 181, 182, 183, 184, 102, 185, 186, 187, 104, 188, 189, 190, 191, 192, 193, 194, 195, 196, 197, 198, 199, 200, 201, 202, 203, 204, 205, 206, 207, 208, 209, 210, 211, 212, 213, 214, 215, 66, 67, 68, 69, 21, 216, 217, 218, 219, 260, 261, 262, 263, 264, 265, 266, 267, 273, 268, 269, 270] (by decide +kernel) (by decide +kernel)
set_option maxRecDepth 20000 in
theorem gL_writes_X7_pay : GoodIn wsL_writes (wsV RL 57 RX7 yX7_pay wsX7_pay) := goodIn_app (goodIn_of _ (by decide +kernel)) ggL_writes_X7_pay
set_option maxRecDepth 20000 in
theorem ggL_writes_X7_entry : GoodIn wsL_writes wsX7_entry := goodIn_r _ [241, 7, 10, 242, 243, 244, 14, 245, 29, 12, 13, 15, 16, 94, 5, 95, 246, 22, 23, 24, 247, 63, 64, 65, 21, 66, 67, 68, 69, 11, 248, 249, 250, 251, 17, 18, 19, 20, 252, 253, 254, 255, 140, 143, 144, 145, 146, 147, 148, 149, 150, 151, 152, 153, 154, 155, 156, 157, 158, 159, 160, 161, 162, 163, 164, 165, 166, 167, 168, 169, 256, 257, 258, 259, 174, 175, 176, 177, 260, 261, 262, 263, 264, 265, 266, 267, 273] (by decide +kernel) (by decide +kernel)
set_option maxRecDepth 20000 in
theorem gL_writes_X7_entry : GoodIn wsL_writes (wsV RL 9 RX7 yX7_entry wsX7_entry) := goodIn_app (goodIn_of _ (by decide +kernel)) ggL_writes_X7_entry
theorem dL_writes_0 : decode cL_writes 0 = .ok (.aload_n 0, 1) := by decide +kernel
theorem dL_writes_1 : decode cL_writes 1 = .ok (.iconst 5, 1) := by decide +kernel
theorem dL_writes_2 : decode cL_writes 2 = .ok (.invokevirtual 15, 3) := by decide +kernel
theorem dL_writes_5 : decode cL_writes 5 = .ok (.istore_n 2, 1) := by decide +kernel
theorem dL_writes_6 : decode cL_writes 6 = .ok (.aload_n 0, 1) := by decide +kernel
theorem dL_writes_7 : decode cL_writes 7 = .ok (.iconst 0, 1) := by decide +kernel
theorem dL_writes_8 : decode cL_writes 8 = .ok (.invokevirtual 15, 3) := by decide +kernel
theorem dL_writes_11 : decode cL_writes 11 = .ok (.istore_n 3, 1) := by decide +kernel
theorem dL_writes_12 : decode cL_writes 12 = .ok (.aload_n 0, 1) := by decide +kernel
theorem dL_writes_13 : decode cL_writes 13 = .ok (.iconst 1, 1) := by decide +kernel
theorem dL_writes_14 : decode cL_writes 14 = .ok (.invokevirtual 15, 3) := by decide +kernel
theorem dL_writes_17 : decode cL_writes 17 = .ok (.istore 4, 2) := by decide +kernel
theorem dL_writes_19 : decode cL_writes 19 = .ok (.aload_n 0, 1) := by decide +kernel
theorem dL_writes_20 : decode cL_writes 20 = .ok (.iconst 3, 1) := by decide +kernel
theorem dL_writes_21 : decode cL_writes 21 = .ok (.invokevirtual 15, 3) := by decide +kernel
theorem dL_writes_24 : decode cL_writes 24 = .ok (.ifCond .ne 7, 3) := by decide +kernel
theorem dL_writes_27 : decode cL_writes 27 = .ok (.iconst 0, 1) := by decide +kernel
theorem dL_writes_28 : decode cL_writes 28 = .ok (.goto 9, 3) := by decide +kernel
theorem dL_writes_31 : decode cL_writes 31 = .ok (.aload_n 0, 1) := by decide +kernel
theorem dL_writes_32 : decode cL_writes 32 = .ok (.iconst 0, 1) := by decide +kernel
theorem dL_writes_33 : decode cL_writes 33 = .ok (.iconst 3, 1) := by decide +kernel
theorem dL_writes_34 : decode cL_writes 34 = .ok (.invokevirtual 29, 3) := by decide +kernel
theorem dL_writes_37 : decode cL_writes 37 = .ok (.istore 5, 2) := by decide +kernel
theorem dL_writes_39 : decode cL_writes 39 = .ok (.aload_n 0, 1) := by decide +kernel
theorem dL_writes_40 : decode cL_writes 40 = .ok (.iconst 3, 1) := by decide +kernel
theorem dL_writes_41 : decode cL_writes 41 = .ok (.invokevirtual 15, 3) := by decide +kernel
theorem dL_writes_44 : decode cL_writes 44 = .ok (.ifCond .ne 7, 3) := by decide +kernel
theorem dL_writes_47 : decode cL_writes 47 = .ok (.iconst 2, 1) := by decide +kernel
theorem dL_writes_48 : decode cL_writes 48 = .ok (.goto 9, 3) := by decide +kernel
theorem dL_writes_51 : decode cL_writes 51 = .ok (.aload_n 0, 1) := by decide +kernel
theorem dL_writes_52 : decode cL_writes 52 = .ok (.iconst 0, 1) := by decide +kernel
theorem dL_writes_53 : decode cL_writes 53 = .ok (.iconst 4, 1) := by decide +kernel
theorem dL_writes_54 : decode cL_writes 54 = .ok (.invokevirtual 29, 3) := by decide +kernel
theorem dL_writes_57 : decode cL_writes 57 = .ok (.istore 6, 2) := by decide +kernel
theorem dL_writes_59 : decode cL_writes 59 = .ok (.iload_n 1, 1) := by decide +kernel
theorem dL_writes_60 : decode cL_writes 60 = .ok (.iconst 4, 1) := by decide +kernel
theorem dL_writes_61 : decode cL_writes 61 = .ok (.irem, 1) := by decide +kernel
theorem dL_writes_62 : decode cL_writes 62 = .ok (.istore 7, 2) := by decide +kernel
theorem dL_writes_64 : decode cL_writes 64 = .ok (.iload 7, 2) := by decide +kernel
theorem dL_writes_66 : decode cL_writes 66 = .ok (.ifCond .ne 26, 3) := by decide +kernel
theorem dL_writes_69 : decode cL_writes 69 = .ok (.aload_n 0, 1) := by decide +kernel
theorem dL_writes_70 : decode cL_writes 70 = .ok (.iload_n 1, 1) := by decide +kernel
theorem dL_writes_71 : decode cL_writes 71 = .ok (.iconst 4, 1) := by decide +kernel
theorem dL_writes_72 : decode cL_writes 72 = .ok (.idiv, 1) := by decide +kernel
theorem dL_writes_73 : decode cL_writes 73 = .ok (.bipush 6, 2) := by decide +kernel
theorem dL_writes_75 : decode cL_writes 75 = .ok (.irem, 1) := by decide +kernel
theorem dL_writes_76 : decode cL_writes 76 = .ok (.iconst 1, 1) := by decide +kernel
theorem dL_writes_77 : decode cL_writes 77 = .ok (.iload_n 1, 1) := by decide +kernel
theorem dL_writes_78 : decode cL_writes 78 = .ok (.bipush 32, 2) := by decide +kernel
theorem dL_writes_80 : decode cL_writes 80 = .ok (.idiv, 1) := by decide +kernel
theorem dL_writes_81 : decode cL_writes 81 = .ok (.sipush 500, 3) := by decide +kernel
theorem dL_writes_84 : decode cL_writes 84 = .ok (.irem, 1) := by decide +kernel
theorem dL_writes_85 : decode cL_writes 85 = .ok (.iadd, 1) := by decide +kernel
theorem dL_writes_86 : decode cL_writes 86 = .ok (.invokevirtual 48, 3) := by decide +kernel
theorem dL_writes_89 : decode cL_writes 89 = .ok (.goto 81, 3) := by decide +kernel
theorem dL_writes_92 : decode cL_writes 92 = .ok (.iload 7, 2) := by decide +kernel
theorem dL_writes_94 : decode cL_writes 94 = .ok (.iconst 1, 1) := by decide +kernel
theorem dL_writes_95 : decode cL_writes 95 = .ok (.if_icmp .ne 26, 3) := by decide +kernel
theorem dL_writes_98 : decode cL_writes 98 = .ok (.aload_n 0, 1) := by decide +kernel
theorem dL_writes_99 : decode cL_writes 99 = .ok (.iconst 1, 1) := by decide +kernel
theorem dL_writes_100 : decode cL_writes 100 = .ok (.iload_n 1, 1) := by decide +kernel
theorem dL_writes_101 : decode cL_writes 101 = .ok (.iconst 4, 1) := by decide +kernel
theorem dL_writes_102 : decode cL_writes 102 = .ok (.idiv, 1) := by decide +kernel
theorem dL_writes_103 : decode cL_writes 103 = .ok (.iconst 5, 1) := by decide +kernel
theorem dL_writes_104 : decode cL_writes 104 = .ok (.irem, 1) := by decide +kernel
theorem dL_writes_105 : decode cL_writes 105 = .ok (.iadd, 1) := by decide +kernel
theorem dL_writes_106 : decode cL_writes 106 = .ok (.iconst 1, 1) := by decide +kernel
theorem dL_writes_107 : decode cL_writes 107 = .ok (.iload_n 1, 1) := by decide +kernel
theorem dL_writes_108 : decode cL_writes 108 = .ok (.bipush 32, 2) := by decide +kernel
theorem dL_writes_110 : decode cL_writes 110 = .ok (.idiv, 1) := by decide +kernel
theorem dL_writes_111 : decode cL_writes 111 = .ok (.bipush 90, 2) := by decide +kernel
theorem dL_writes_113 : decode cL_writes 113 = .ok (.irem, 1) := by decide +kernel
theorem dL_writes_114 : decode cL_writes 114 = .ok (.iadd, 1) := by decide +kernel
theorem dL_writes_115 : decode cL_writes 115 = .ok (.invokevirtual 51, 3) := by decide +kernel
theorem dL_writes_118 : decode cL_writes 118 = .ok (.goto 52, 3) := by decide +kernel
theorem dL_writes_121 : decode cL_writes 121 = .ok (.iload 7, 2) := by decide +kernel
theorem dL_writes_123 : decode cL_writes 123 = .ok (.iconst 2, 1) := by decide +kernel
theorem dL_writes_124 : decode cL_writes 124 = .ok (.if_icmp .ne 17, 3) := by decide +kernel
theorem dL_writes_127 : decode cL_writes 127 = .ok (.aload_n 0, 1) := by decide +kernel
theorem dL_writes_128 : decode cL_writes 128 = .ok (.iload_n 1, 1) := by decide +kernel
theorem dL_writes_129 : decode cL_writes 129 = .ok (.iconst 4, 1) := by decide +kernel
theorem dL_writes_130 : decode cL_writes 130 = .ok (.idiv, 1) := by decide +kernel
theorem dL_writes_131 : decode cL_writes 131 = .ok (.sipush 1000, 3) := by decide +kernel
theorem dL_writes_134 : decode cL_writes 134 = .ok (.irem, 1) := by decide +kernel
theorem dL_writes_135 : decode cL_writes 135 = .ok (.invokevirtual 54, 3) := by decide +kernel
theorem dL_writes_138 : decode cL_writes 138 = .ok (.goto 32, 3) := by decide +kernel
theorem dL_writes_141 : decode cL_writes 141 = .ok (.aload_n 0, 1) := by decide +kernel
theorem dL_writes_142 : decode cL_writes 142 = .ok (.iconst 1, 1) := by decide +kernel
theorem dL_writes_143 : decode cL_writes 143 = .ok (.iload_n 1, 1) := by decide +kernel
theorem dL_writes_144 : decode cL_writes 144 = .ok (.iconst 4, 1) := by decide +kernel
theorem dL_writes_145 : decode cL_writes 145 = .ok (.idiv, 1) := by decide +kernel
theorem dL_writes_146 : decode cL_writes 146 = .ok (.iconst 5, 1) := by decide +kernel
theorem dL_writes_147 : decode cL_writes 147 = .ok (.irem, 1) := by decide +kernel
theorem dL_writes_148 : decode cL_writes 148 = .ok (.iadd, 1) := by decide +kernel
theorem dL_writes_149 : decode cL_writes 149 = .ok (.iconst 1, 1) := by decide +kernel
theorem dL_writes_150 : decode cL_writes 150 = .ok (.iload_n 1, 1) := by decide +kernel
theorem dL_writes_151 : decode cL_writes 151 = .ok (.iconst 4, 1) := by decide +kernel
theorem dL_writes_152 : decode cL_writes 152 = .ok (.idiv, 1) := by decide +kernel
theorem dL_writes_153 : decode cL_writes 153 = .ok (.iconst 1, 1) := by decide +kernel
theorem dL_writes_154 : decode cL_writes 154 = .ok (.iadd, 1) := by decide +kernel
theorem dL_writes_155 : decode cL_writes 155 = .ok (.iconst 5, 1) := by decide +kernel
theorem dL_writes_156 : decode cL_writes 156 = .ok (.irem, 1) := by decide +kernel
theorem dL_writes_157 : decode cL_writes 157 = .ok (.iadd, 1) := by decide +kernel
theorem dL_writes_158 : decode cL_writes 158 = .ok (.iconst 1, 1) := by decide +kernel
theorem dL_writes_159 : decode cL_writes 159 = .ok (.iload_n 1, 1) := by decide +kernel
theorem dL_writes_160 : decode cL_writes 160 = .ok (.bipush 32, 2) := by decide +kernel
theorem dL_writes_162 : decode cL_writes 162 = .ok (.idiv, 1) := by decide +kernel
theorem dL_writes_163 : decode cL_writes 163 = .ok (.bipush 90, 2) := by decide +kernel
theorem dL_writes_165 : decode cL_writes 165 = .ok (.irem, 1) := by decide +kernel
theorem dL_writes_166 : decode cL_writes 166 = .ok (.iadd, 1) := by decide +kernel
theorem dL_writes_167 : decode cL_writes 167 = .ok (.invokevirtual 57, 3) := by decide +kernel
theorem dL_writes_170 : decode cL_writes 170 = .ok (.istore 8, 2) := by decide +kernel
theorem dL_writes_172 : decode cL_writes 172 = .ok (.iload 8, 2) := by decide +kernel
theorem dL_writes_174 : decode cL_writes 174 = .ok (.ifCond .ge 62, 3) := by decide +kernel
theorem dL_writes_177 : decode cL_writes 177 = .ok (.iload_n 2, 1) := by decide +kernel
theorem dL_writes_178 : decode cL_writes 178 = .ok (.ifCond .gt 24, 3) := by decide +kernel
theorem dL_writes_181 : decode cL_writes 181 = .ok (.iload_n 3, 1) := by decide +kernel
theorem dL_writes_182 : decode cL_writes 182 = .ok (.bipush 60, 2) := by decide +kernel
theorem dL_writes_184 : decode cL_writes 184 = .ok (.if_icmp .ne 6, 3) := by decide +kernel
theorem dL_writes_187 : decode cL_writes 187 = .ok (.goto 15, 3) := by decide +kernel
theorem dL_writes_190 : decode cL_writes 190 = .ok (.iload 7, 2) := by decide +kernel
theorem dL_writes_192 : decode cL_writes 192 = .ok (.iconst 1, 1) := by decide +kernel
theorem dL_writes_193 : decode cL_writes 193 = .ok (.if_icmp .eq 9, 3) := by decide +kernel
theorem dL_writes_196 : decode cL_writes 196 = .ok (.iload 7, 2) := by decide +kernel
theorem dL_writes_198 : decode cL_writes 198 = .ok (.iconst 3, 1) := by decide +kernel
theorem dL_writes_199 : decode cL_writes 199 = .ok (.if_icmp .ne 35, 3) := by decide +kernel
theorem dL_writes_202 : decode cL_writes 202 = .ok (.aload_n 0, 1) := by decide +kernel
theorem dL_writes_203 : decode cL_writes 203 = .ok (.iconst 0, 1) := by decide +kernel
theorem dL_writes_204 : decode cL_writes 204 = .ok (.invokevirtual 15, 3) := by decide +kernel
theorem dL_writes_207 : decode cL_writes 207 = .ok (.iload_n 3, 1) := by decide +kernel
theorem dL_writes_208 : decode cL_writes 208 = .ok (.if_icmp .ne 26, 3) := by decide +kernel
theorem dL_writes_211 : decode cL_writes 211 = .ok (.aload_n 0, 1) := by decide +kernel
theorem dL_writes_212 : decode cL_writes 212 = .ok (.iconst 3, 1) := by decide +kernel
theorem dL_writes_213 : decode cL_writes 213 = .ok (.invokevirtual 15, 3) := by decide +kernel
theorem dL_writes_216 : decode cL_writes 216 = .ok (.ifCond .eq 14, 3) := by decide +kernel
theorem dL_writes_219 : decode cL_writes 219 = .ok (.aload_n 0, 1) := by decide +kernel
theorem dL_writes_220 : decode cL_writes 220 = .ok (.iconst 0, 1) := by decide +kernel
theorem dL_writes_221 : decode cL_writes 221 = .ok (.iconst 3, 1) := by decide +kernel
theorem dL_writes_222 : decode cL_writes 222 = .ok (.invokevirtual 29, 3) := by decide +kernel
theorem dL_writes_225 : decode cL_writes 225 = .ok (.iload 5, 2) := by decide +kernel
theorem dL_writes_227 : decode cL_writes 227 = .ok (.if_icmp .ne 7, 3) := by decide +kernel
theorem dL_writes_230 : decode cL_writes 230 = .ok (.iconst 1, 1) := by decide +kernel
theorem dL_writes_231 : decode cL_writes 231 = .ok (.goto 4, 3) := by decide +kernel
theorem dL_writes_234 : decode cL_writes 234 = .ok (.iconst 0, 1) := by decide +kernel
theorem dL_writes_235 : decode cL_writes 235 = .ok (.ireturn, 1) := by decide +kernel
theorem dL_writes_236 : decode cL_writes 236 = .ok (.iload_n 2, 1) := by decide +kernel
theorem dL_writes_237 : decode cL_writes 237 = .ok (.ifCond .ne 86, 3) := by decide +kernel
theorem dL_writes_240 : decode cL_writes 240 = .ok (.iload 8, 2) := by decide +kernel
theorem dL_writes_242 : decode cL_writes 242 = .ok (.iload_n 3, 1) := by decide +kernel
theorem dL_writes_243 : decode cL_writes 243 = .ok (.if_icmp .ne 80, 3) := by decide +kernel
theorem dL_writes_246 : decode cL_writes 246 = .ok (.aload_n 0, 1) := by decide +kernel
theorem dL_writes_247 : decode cL_writes 247 = .ok (.iconst 1, 1) := by decide +kernel
theorem dL_writes_248 : decode cL_writes 248 = .ok (.invokevirtual 15, 3) := by decide +kernel
theorem dL_writes_251 : decode cL_writes 251 = .ok (.iload_n 3, 1) := by decide +kernel
theorem dL_writes_252 : decode cL_writes 252 = .ok (.if_icmp .ne 71, 3) := by decide +kernel
theorem dL_writes_255 : decode cL_writes 255 = .ok (.aload_n 0, 1) := by decide +kernel
theorem dL_writes_256 : decode cL_writes 256 = .ok (.iload_n 3, 1) := by decide +kernel
theorem dL_writes_257 : decode cL_writes 257 = .ok (.iconst 4, 1) := by decide +kernel
theorem dL_writes_258 : decode cL_writes 258 = .ok (.invokevirtual 9, 3) := by decide +kernel
theorem dL_writes_261 : decode cL_writes 261 = .ok (.iload 4, 2) := by decide +kernel
theorem dL_writes_263 : decode cL_writes 263 = .ok (.if_icmp .ne 60, 3) := by decide +kernel
theorem dL_writes_266 : decode cL_writes 266 = .ok (.aload_n 0, 1) := by decide +kernel
theorem dL_writes_267 : decode cL_writes 267 = .ok (.iload_n 3, 1) := by decide +kernel
theorem dL_writes_268 : decode cL_writes 268 = .ok (.bipush 6, 2) := by decide +kernel
theorem dL_writes_270 : decode cL_writes 270 = .ok (.invokevirtual 9, 3) := by decide +kernel
theorem dL_writes_273 : decode cL_writes 273 = .ok (.iconst 1, 1) := by decide +kernel
theorem dL_writes_274 : decode cL_writes 274 = .ok (.if_icmp .ne 49, 3) := by decide +kernel
theorem dL_writes_277 : decode cL_writes 277 = .ok (.aload_n 0, 1) := by decide +kernel
theorem dL_writes_278 : decode cL_writes 278 = .ok (.iload_n 3, 1) := by decide +kernel
theorem dL_writes_279 : decode cL_writes 279 = .ok (.bipush 8, 2) := by decide +kernel
theorem dL_writes_281 : decode cL_writes 281 = .ok (.invokevirtual 9, 3) := by decide +kernel
theorem dL_writes_284 : decode cL_writes 284 = .ok (.ldc 19, 2) := by decide +kernel
theorem dL_writes_286 : decode cL_writes 286 = .ok (.if_icmp .ne 37, 3) := by decide +kernel
theorem dL_writes_289 : decode cL_writes 289 = .ok (.aload_n 0, 1) := by decide +kernel
theorem dL_writes_290 : decode cL_writes 290 = .ok (.iconst 3, 1) := by decide +kernel
theorem dL_writes_291 : decode cL_writes 291 = .ok (.invokevirtual 15, 3) := by decide +kernel
theorem dL_writes_294 : decode cL_writes 294 = .ok (.ifCond .eq 25, 3) := by decide +kernel
theorem dL_writes_297 : decode cL_writes 297 = .ok (.aload_n 0, 1) := by decide +kernel
theorem dL_writes_298 : decode cL_writes 298 = .ok (.iconst 0, 1) := by decide +kernel
theorem dL_writes_299 : decode cL_writes 299 = .ok (.iconst 3, 1) := by decide +kernel
theorem dL_writes_300 : decode cL_writes 300 = .ok (.invokevirtual 29, 3) := by decide +kernel
theorem dL_writes_303 : decode cL_writes 303 = .ok (.iload 5, 2) := by decide +kernel
theorem dL_writes_305 : decode cL_writes 305 = .ok (.iload 6, 2) := by decide +kernel
theorem dL_writes_307 : decode cL_writes 307 = .ok (.ifCond .ne 7, 3) := by decide +kernel
theorem dL_writes_310 : decode cL_writes 310 = .ok (.iconst 1, 1) := by decide +kernel
theorem dL_writes_311 : decode cL_writes 311 = .ok (.goto 4, 3) := by decide +kernel
theorem dL_writes_314 : decode cL_writes 314 = .ok (.iconst 0, 1) := by decide +kernel
theorem dL_writes_315 : decode cL_writes 315 = .ok (.iadd, 1) := by decide +kernel
theorem dL_writes_316 : decode cL_writes 316 = .ok (.if_icmp .ne 7, 3) := by decide +kernel
theorem dL_writes_319 : decode cL_writes 319 = .ok (.iconst 1, 1) := by decide +kernel
theorem dL_writes_320 : decode cL_writes 320 = .ok (.goto 4, 3) := by decide +kernel
theorem dL_writes_323 : decode cL_writes 323 = .ok (.iconst 0, 1) := by decide +kernel
theorem dL_writes_324 : decode cL_writes 324 = .ok (.ireturn, 1) := by decide +kernel
set_option maxRecDepth 20000 in
theorem ggL_acts_X7_count : GoodIn wsL_acts wsX7_count := goodIn_r _ [8, 9, 10, 11, 12, 13, 14, 15, 16, 17, 18, 19, 20, 21, 22, 23, 24, 25, 26, 27, 28, 29, 30, 31, 32, 33, 34, 35, 36, 37, 38, 39, 40, 41, 42, 43, 44, 45, 46, 47, 48, 49, 50, 51, 52, 53, 54, 55, 56, 57, 58, 59, 60, 61, 62, 63, 64, 65, 66, 67, 68, 69, 70, 71, 72, 73, 74, 75, 76, 77, 78, 79, 80, 81, 82, 83, 84, 85, 86, 87, 88, 89, 90, 91, 92, 93, 7, 94, 95, 96, 97, 98, 99, 100, 101, 102, 103, 104, 105, 106, 107, 108, 109, 110, 111, 112, 372, 373, 374, 375, 376, 377, 378, 379, 380, 381, 382, 383, 384] (by decide +kernel) (by decide +kernel)
set_option maxRecDepth 20000 in
theorem gL_acts_X7_count : GoodIn wsL_acts (wsV RL 15 RX7 yX7_count wsX7_count) := goodIn_app (goodIn_of _ (by decide +kernel)) ggL_acts_X7_count
set_option maxRecDepth 20000 in
theorem ggL_acts_X7_entry : GoodIn wsL_acts wsX7_entry := goodIn_r _ [116, 9, 12, 117, 118, 119, 16, 120, 31, 14, 15, 17, 18, 96, 7, 97, 121, 24, 25, 26, 122, 65, 66, 67, 23, 68, 69, 70, 71, 13, 123, 124, 125, 126, 19, 20, 21, 22, 127, 128, 129, 130, 131, 132, 133, 134, 135, 136, 137, 138, 139, 140, 141, 142, 143, 144, 145, 146, 147, 148, 149, 150, 151, 152, 153, 154, 155, 156, 157, 158, 159, 160, 161, 162, 163, 164, 165, 166, 372, 373, 374, 375, 376, 377, 378, 379, 385] (by decide +kernel) (by decide +kernel)
set_option maxRecDepth 20000 in
theorem gL_acts_X7_entry : GoodIn wsL_acts (wsV RL 9 RX7 yX7_entry wsX7_entry) := goodIn_app (goodIn_of _ (by decide +kernel)) ggL_acts_X7_entry
set_option maxRecDepth 20000 in
theorem ggL_acts_X7_goBack : GoodIn wsL_acts wsX7_goBack := goodIn_r _ [170, 9, 12, 171, 172, 10, 173, 117, 118, 119, 16, 120, 31, 14, 15, 17, 18, 96, 7, 97, 13, 123, 124, 125, 126, 23, 24, 25, 26, 174, 175, 176, 104, 177, 178, 179, 106, 180, 181, 182, 183, 184, 185, 186, 187, 188, 189, 190, 191, 19, 20, 21, 22, 192, 193, 194, 195, 196, 197, 198, 199, 200, 201, 202, 203, 204, 205, 206, 207, 208, 209, 210, 211, 212, 213, 214, 215, 216, 217, 218, 219, 220, 221, 372, 373, 374, 375, 376, 377, 378, 379, 380, 381, 382, 386, 387] (by decide +kernel) (by decide +kernel)
set_option maxRecDepth 20000 in
theorem gL_acts_X7_goBack : GoodIn wsL_acts (wsV RL 61 RX7 yX7_goBack wsX7_goBack) := goodIn_app (goodIn_of _ (by decide +kernel)) ggL_acts_X7_goBack
set_option maxRecDepth 20000 in
theorem ggL_acts_X7_adopt : GoodIn wsL_acts wsX7_adopt := goodIn_r _ [225, 9, 12, 171, 131, 173, 172, 10, 226, 227, 228, 16, 229, 31, 14, 15, 17, 18, 96, 7, 97, 95, 230, 33, 34, 35, 36, 37, 38, 39, 231, 232, 233, 234, 235, 236, 237, 195, 238, 239, 240, 193, 194, 196, 197, 198, 181, 182, 183, 199, 200, 201, 202, 203, 24, 25, 26, 13, 132, 133, 134, 135, 136, 137, 138, 139, 140, 141, 142, 143, 144, 145, 146, 147, 148, 149, 150, 151, 152, 153, 154, 155, 156, 157, 158, 241, 242, 243, 244, 245, 246, 247, 248, 249, 205, 206, 207, 208, 250, 251, 252, 253, 254, 255, 256, 257, 163, 164, 165, 166, 258, 259, 260, 261, 262, 174, 175, 176, 104, 177, 178, 179, 106, 180, 184, 185, 186, 187, 188, 189, 190, 191, 263, 264, 265, 266, 204, 267, 268, 269, 270, 271, 23, 272, 273, 274, 275, 276, 277, 278, 279, 68, 69, 70, 71, 217, 218, 219, 220, 280, 214, 215, 216, 372, 373, 374, 375, 376, 377, 378, 379, 386, 387, 385, 380, 381, 382] (by decide +kernel) (by decide +kernel)
set_option maxRecDepth 20000 in
theorem gL_acts_X7_adopt : GoodIn wsL_acts (wsV RL 66 RX7 yX7_adopt wsX7_adopt) := goodIn_app (goodIn_of _ (by decide +kernel)) ggL_acts_X7_adopt
set_option maxRecDepth 20000 in
theorem ggL_acts_X7_branch : GoodIn wsL_acts wsX7_branch := goodIn_r _ [284, 9, 12, 226, 227, 228, 16, 229, 31, 14, 15, 17, 18, 96, 7, 97, 285, 37, 38, 39, 286, 45, 46, 47, 32, 33, 34, 35, 36, 13, 287, 288, 289, 290, 23, 24, 25, 26, 372, 373, 374, 375, 376, 377, 378, 379] (by decide +kernel) (by decide +kernel)
set_option maxRecDepth 20000 in
theorem gL_acts_X7_branch : GoodIn wsL_acts (wsV RL 29 RX7 yX7_branch wsX7_branch) := goodIn_app (goodIn_of _ (by decide +kernel)) ggL_acts_X7_branch
set_option maxRecDepth 20000 in
theorem ggL_acts_X7_dismiss : GoodIn wsL_acts wsX7_dismiss := goodIn_r _ [294, 9, 12, 171, 172, 10, 295, 226, 227, 228, 16, 229, 31, 14, 15, 17, 18, 96, 7, 97, 230, 33, 34, 35, 36, 37, 38, 39, 259, 260, 261, 262, 174, 175, 176, 104, 177, 178, 179, 106, 180, 181, 182, 183, 184, 185, 186, 187, 188, 189, 190, 191, 280, 214, 215, 216, 285, 296, 273, 274, 275, 276, 277, 278, 279, 68, 69, 70, 71, 23, 24, 25, 26, 217, 218, 219, 220, 372, 373, 374, 375, 376, 377, 378, 379, 380, 381, 382] (by decide +kernel) (by decide +kernel)
set_option maxRecDepth 20000 in
theorem gL_acts_X7_dismiss : GoodIn wsL_acts (wsV RL 70 RX7 yX7_dismiss wsX7_dismiss) := goodIn_app (goodIn_of _ (by decide +kernel)) ggL_acts_X7_dismiss
set_option maxRecDepth 20000 in
theorem ggL_acts_X7_forge : GoodIn wsL_acts wsX7_forge := goodIn_r _ [300, 9, 12, 171, 10, 117, 118, 119, 16, 120, 31, 14, 15, 17, 18, 96, 7, 97, 121, 24, 25, 26, 301, 302, 303, 95, 304, 305, 306, 307, 308, 309, 310, 131, 13, 123, 124, 125, 126, 23, 132, 133, 134, 135, 136, 137, 138, 139, 140, 141, 142, 143, 144, 145, 146, 147, 148, 149, 150, 151, 152, 153, 154, 155, 156, 157, 158, 311, 312, 164, 165, 166, 313, 174, 175, 176, 104, 177, 178, 179, 106, 180, 181, 182, 183, 184, 185, 186, 187, 188, 189, 190, 191, 314, 277, 278, 279, 372, 373, 374, 375, 376, 377, 378, 379, 385, 380, 381, 382] (by decide +kernel) (by decide +kernel)
set_option maxRecDepth 20000 in
theorem gL_acts_X7_forge : GoodIn wsL_acts (wsV RL 73 RX7 yX7_forge wsX7_forge) := goodIn_app (goodIn_of _ (by decide +kernel)) ggL_acts_X7_forge
set_option maxRecDepth 20000 in
theorem ggL_acts_X7_relink : GoodIn wsL_acts wsX7_relink := goodIn_r _ [318, 9, 12, 10, 117, 118, 119, 16, 120, 31, 14, 15, 17, 18, 96, 7, 97, 174, 175, 176, 104, 177, 178, 179, 106, 180, 181, 182, 183, 184, 185, 186, 187, 188, 189, 190, 191, 13, 123, 124, 125, 126, 23, 24, 25, 26, 122, 65, 66, 67, 68, 69, 70, 71, 319, 314, 277, 278, 279, 372, 373, 374, 375, 376, 377, 378, 379, 380, 381, 382] (by decide +kernel) (by decide +kernel)
set_option maxRecDepth 20000 in
theorem gL_acts_X7_relink : GoodIn wsL_acts (wsV RL 76 RX7 yX7_relink wsX7_relink) := goodIn_app (goodIn_of _ (by decide +kernel)) ggL_acts_X7_relink
set_option maxRecDepth 20000 in
theorem ggL_acts_X7_seal : GoodIn wsL_acts wsX7_seal := goodIn_r _ [323, 9, 172, 10, 13, 14, 15, 16, 17, 18, 174, 175, 176, 104, 177, 178, 179, 106, 180, 181, 182, 183, 184, 185, 186, 187, 188, 189, 190, 191, 96, 7, 97, 324, 325, 326, 327, 31, 328, 329, 330, 331, 23, 24, 25, 26, 217, 218, 219, 220, 372, 373, 374, 375, 376, 377, 378, 379, 380, 381, 382] (by decide +kernel) (by decide +kernel)
set_option maxRecDepth 20000 in
theorem gL_acts_X7_seal : GoodIn wsL_acts (wsV RL 79 RX7 yX7_seal wsX7_seal) := goodIn_app (goodIn_of _ (by decide +kernel)) ggL_acts_X7_seal
set_option maxRecDepth 20000 in
theorem ggL_acts_X7_setPatience : GoodIn wsL_acts wsX7_setPatience := goodIn_r _ [335, 12, 10, 9, 95, 96, 7, 97, 174, 175, 176, 104, 177, 178, 179, 106, 180, 181, 182, 183, 184, 185, 186, 16, 187, 18, 188, 189, 190, 191, 13, 14, 15, 17, 221, 218, 219, 220, 372, 373, 374, 375, 376, 377, 378, 380, 381, 382, 379] (by decide +kernel) (by decide +kernel)
set_option maxRecDepth 20000 in
theorem gL_acts_X7_setPatience : GoodIn wsL_acts (wsV RL 83 RX7 yX7_setPatience wsX7_setPatience) := goodIn_app (goodIn_of _ (by decide +kernel)) ggL_acts_X7_setPatience
set_option maxRecDepth 20000 in
theorem ggL_acts_L_writes : GoodIn wsL_acts wsL_writes := goodIn_r _ [339, 340, 4, 5, 6, 7, 8, 9, 10, 11, 12, 13, 14, 15, 16, 17, 18, 19, 20, 21, 22, 23, 24, 25, 26, 27, 28, 29, 30, 31, 32, 33, 34, 35, 36, 37, 38, 39, 40, 41, 42, 43, 44, 45, 46, 47, 48, 49, 50, 51, 52, 53, 54, 55, 56, 57, 58, 59, 60, 61, 62, 63, 64, 65, 66, 67, 68, 69, 70, 71, 72, 73, 74, 75, 76, 77, 78, 79, 80, 81, 82, 83, 84, 85, 86, 87, 88, 89, 90, 91, 92, 93, 94, 95, 96, 97, 98, 99, 100, 101, 102, 103, 104, 105, 106, 107, 108, 109, 110, 111, 112, 281, 282, 283, 284, 226, 227, 228, 229, 285, 286, 287, 288, 289, 290, 341, 342, 343, 344, 345, 346, 347, 304, 305, 306, 348, 349, 350, 351, 171, 131, 172, 295, 132, 133, 134, 135, 136, 137, 138, 139, 140, 141, 142, 143, 144, 145, 146, 147, 148, 149, 150, 151, 152, 153, 154, 155, 156, 157, 158, 352, 255, 256, 257, 163, 164, 165, 166, 259, 260, 261, 262, 174, 175, 176, 177, 178, 179, 180, 181, 182, 183, 184, 185, 186, 187, 188, 189, 190, 191, 353, 354, 355, 356, 213, 214, 215, 216, 296, 273, 274, 275, 276, 277, 278, 279, 217, 218, 219, 220, 357, 358, 359, 360, 361, 362, 363, 364, 365, 366, 367, 301, 302, 303, 368, 369, 370, 371, 113, 114, 115, 116, 117, 118, 119, 120, 121, 122, 123, 124, 125, 126, 127, 128, 129, 130, 159, 160, 161, 162, 372, 373, 374, 375, 376, 377, 378, 379, 380, 381, 382, 383, 384, 385] (by decide +kernel) (by decide +kernel)
set_option maxRecDepth 20000 in
theorem gL_acts_L_writes : GoodIn wsL_acts (va_wsS RL 86 yL_writes wsL_writes) := goodIn_app (goodIn_of _ (by decide +kernel)) ggL_acts_L_writes
theorem dL_acts_0 : decode cL_acts 0 = .ok (.iload_n 1, 1) := by decide +kernel
theorem dL_acts_1 : decode cL_acts 1 = .ok (.bipush 16, 2) := by decide +kernel
theorem dL_acts_3 : decode cL_acts 3 = .ok (.idiv, 1) := by decide +kernel
theorem dL_acts_4 : decode cL_acts 4 = .ok (.istore_n 2, 1) := by decide +kernel
theorem dL_acts_5 : decode cL_acts 5 = .ok (.aload_n 0, 1) := by decide +kernel
theorem dL_acts_6 : decode cL_acts 6 = .ok (.iconst 0, 1) := by decide +kernel
theorem dL_acts_7 : decode cL_acts 7 = .ok (.invokevirtual 15, 3) := by decide +kernel
theorem dL_acts_10 : decode cL_acts 10 = .ok (.istore_n 3, 1) := by decide +kernel
theorem dL_acts_11 : decode cL_acts 11 = .ok (.iload_n 1, 1) := by decide +kernel
theorem dL_acts_12 : decode cL_acts 12 = .ok (.bipush 16, 2) := by decide +kernel
theorem dL_acts_14 : decode cL_acts 14 = .ok (.irem, 1) := by decide +kernel
theorem dL_acts_15 : decode cL_acts 15 = .ok (.tableswitch 531 0 7 #[45, 45, 140, 171, 287, 414, 488, 512], 45) := by decide +kernel
theorem dL_acts_60 : decode cL_acts 60 = .ok (.iload_n 2, 1) := by decide +kernel
theorem dL_acts_61 : decode cL_acts 61 = .ok (.iload_n 3, 1) := by decide +kernel
theorem dL_acts_62 : decode cL_acts 62 = .ok (.irem, 1) := by decide +kernel
theorem dL_acts_63 : decode cL_acts 63 = .ok (.istore 4, 2) := by decide +kernel
theorem dL_acts_65 : decode cL_acts 65 = .ok (.aload_n 0, 1) := by decide +kernel
theorem dL_acts_66 : decode cL_acts 66 = .ok (.iload 4, 2) := by decide +kernel
theorem dL_acts_68 : decode cL_acts 68 = .ok (.bipush 7, 2) := by decide +kernel
theorem dL_acts_70 : decode cL_acts 70 = .ok (.invokevirtual 9, 3) := by decide +kernel
theorem dL_acts_73 : decode cL_acts 73 = .ok (.istore 5, 2) := by decide +kernel
theorem dL_acts_75 : decode cL_acts 75 = .ok (.aload_n 0, 1) := by decide +kernel
theorem dL_acts_76 : decode cL_acts 76 = .ok (.iconst 3, 1) := by decide +kernel
theorem dL_acts_77 : decode cL_acts 77 = .ok (.invokevirtual 15, 3) := by decide +kernel
theorem dL_acts_80 : decode cL_acts 80 = .ok (.istore 6, 2) := by decide +kernel
theorem dL_acts_82 : decode cL_acts 82 = .ok (.aload_n 0, 1) := by decide +kernel
theorem dL_acts_83 : decode cL_acts 83 = .ok (.iload 4, 2) := by decide +kernel
theorem dL_acts_85 : decode cL_acts 85 = .ok (.invokevirtual 61, 3) := by decide +kernel
theorem dL_acts_88 : decode cL_acts 88 = .ok (.istore 7, 2) := by decide +kernel
theorem dL_acts_90 : decode cL_acts 90 = .ok (.iload 5, 2) := by decide +kernel
theorem dL_acts_92 : decode cL_acts 92 = .ok (.ifCond .ne 18, 3) := by decide +kernel
theorem dL_acts_95 : decode cL_acts 95 = .ok (.iload 7, 2) := by decide +kernel
theorem dL_acts_97 : decode cL_acts 97 = .ok (.ldc 64, 2) := by decide +kernel
theorem dL_acts_99 : decode cL_acts 99 = .ok (.if_icmp .ne 7, 3) := by decide +kernel
theorem dL_acts_102 : decode cL_acts 102 = .ok (.iconst 1, 1) := by decide +kernel
theorem dL_acts_103 : decode cL_acts 103 = .ok (.goto 51, 3) := by decide +kernel
theorem dL_acts_106 : decode cL_acts 106 = .ok (.iconst 0, 1) := by decide +kernel
theorem dL_acts_107 : decode cL_acts 107 = .ok (.goto 47, 3) := by decide +kernel
theorem dL_acts_110 : decode cL_acts 110 = .ok (.iload 7, 2) := by decide +kernel
theorem dL_acts_112 : decode cL_acts 112 = .ok (.ldc 65, 2) := by decide +kernel
theorem dL_acts_114 : decode cL_acts 114 = .ok (.if_icmp .ne 18, 3) := by decide +kernel
theorem dL_acts_117 : decode cL_acts 117 = .ok (.iload 6, 2) := by decide +kernel
theorem dL_acts_119 : decode cL_acts 119 = .ok (.bipush 10, 2) := by decide +kernel
theorem dL_acts_121 : decode cL_acts 121 = .ok (.if_icmp .ne 7, 3) := by decide +kernel
theorem dL_acts_124 : decode cL_acts 124 = .ok (.iconst 1, 1) := by decide +kernel
theorem dL_acts_125 : decode cL_acts 125 = .ok (.goto 29, 3) := by decide +kernel
theorem dL_acts_128 : decode cL_acts 128 = .ok (.iconst 0, 1) := by decide +kernel
theorem dL_acts_129 : decode cL_acts 129 = .ok (.goto 25, 3) := by decide +kernel
theorem dL_acts_132 : decode cL_acts 132 = .ok (.iload 7, 2) := by decide +kernel
theorem dL_acts_134 : decode cL_acts 134 = .ok (.iload 6, 2) := by decide +kernel
theorem dL_acts_136 : decode cL_acts 136 = .ok (.if_icmp .ne 17, 3) := by decide +kernel
theorem dL_acts_139 : decode cL_acts 139 = .ok (.aload_n 0, 1) := by decide +kernel
theorem dL_acts_140 : decode cL_acts 140 = .ok (.iconst 1, 1) := by decide +kernel
theorem dL_acts_141 : decode cL_acts 141 = .ok (.invokevirtual 15, 3) := by decide +kernel
theorem dL_acts_144 : decode cL_acts 144 = .ok (.iload 4, 2) := by decide +kernel
theorem dL_acts_146 : decode cL_acts 146 = .ok (.if_icmp .ne 7, 3) := by decide +kernel
theorem dL_acts_149 : decode cL_acts 149 = .ok (.iconst 1, 1) := by decide +kernel
theorem dL_acts_150 : decode cL_acts 150 = .ok (.goto 4, 3) := by decide +kernel
theorem dL_acts_153 : decode cL_acts 153 = .ok (.iconst 0, 1) := by decide +kernel
theorem dL_acts_154 : decode cL_acts 154 = .ok (.ireturn, 1) := by decide +kernel
theorem dL_acts_155 : decode cL_acts 155 = .ok (.aload_n 0, 1) := by decide +kernel
theorem dL_acts_156 : decode cL_acts 156 = .ok (.iconst 3, 1) := by decide +kernel
theorem dL_acts_157 : decode cL_acts 157 = .ok (.invokevirtual 15, 3) := by decide +kernel
theorem dL_acts_160 : decode cL_acts 160 = .ok (.ifCond .eq 20, 3) := by decide +kernel
theorem dL_acts_163 : decode cL_acts 163 = .ok (.aload_n 0, 1) := by decide +kernel
theorem dL_acts_164 : decode cL_acts 164 = .ok (.iload_n 2, 1) := by decide +kernel
theorem dL_acts_165 : decode cL_acts 165 = .ok (.aload_n 0, 1) := by decide +kernel
theorem dL_acts_166 : decode cL_acts 166 = .ok (.iconst 3, 1) := by decide +kernel
theorem dL_acts_167 : decode cL_acts 167 = .ok (.invokevirtual 15, 3) := by decide +kernel
theorem dL_acts_170 : decode cL_acts 170 = .ok (.irem, 1) := by decide +kernel
theorem dL_acts_171 : decode cL_acts 171 = .ok (.iconst 1, 1) := by decide +kernel
theorem dL_acts_172 : decode cL_acts 172 = .ok (.invokevirtual 66, 3) := by decide +kernel
theorem dL_acts_175 : decode cL_acts 175 = .ok (.ldc 69, 2) := by decide +kernel
theorem dL_acts_177 : decode cL_acts 177 = .ok (.if_icmp .eq 7, 3) := by decide +kernel
theorem dL_acts_180 : decode cL_acts 180 = .ok (.iconst 1, 1) := by decide +kernel
theorem dL_acts_181 : decode cL_acts 181 = .ok (.goto 4, 3) := by decide +kernel
theorem dL_acts_184 : decode cL_acts 184 = .ok (.iconst 0, 1) := by decide +kernel
theorem dL_acts_185 : decode cL_acts 185 = .ok (.ireturn, 1) := by decide +kernel
theorem dL_acts_186 : decode cL_acts 186 = .ok (.aload_n 0, 1) := by decide +kernel
theorem dL_acts_187 : decode cL_acts 187 = .ok (.iconst 3, 1) := by decide +kernel
theorem dL_acts_188 : decode cL_acts 188 = .ok (.invokevirtual 15, 3) := by decide +kernel
theorem dL_acts_191 : decode cL_acts 191 = .ok (.ifCond .ne 5, 3) := by decide +kernel
theorem dL_acts_194 : decode cL_acts 194 = .ok (.iconst 1, 1) := by decide +kernel
theorem dL_acts_195 : decode cL_acts 195 = .ok (.ireturn, 1) := by decide +kernel
theorem dL_acts_196 : decode cL_acts 196 = .ok (.iload_n 2, 1) := by decide +kernel
theorem dL_acts_197 : decode cL_acts 197 = .ok (.aload_n 0, 1) := by decide +kernel
theorem dL_acts_198 : decode cL_acts 198 = .ok (.iconst 3, 1) := by decide +kernel
theorem dL_acts_199 : decode cL_acts 199 = .ok (.invokevirtual 15, 3) := by decide +kernel
theorem dL_acts_202 : decode cL_acts 202 = .ok (.irem, 1) := by decide +kernel
theorem dL_acts_203 : decode cL_acts 203 = .ok (.istore 8, 2) := by decide +kernel
theorem dL_acts_205 : decode cL_acts 205 = .ok (.aload_n 0, 1) := by decide +kernel
theorem dL_acts_206 : decode cL_acts 206 = .ok (.iload 8, 2) := by decide +kernel
theorem dL_acts_208 : decode cL_acts 208 = .ok (.iconst 4, 1) := by decide +kernel
theorem dL_acts_209 : decode cL_acts 209 = .ok (.invokevirtual 29, 3) := by decide +kernel
theorem dL_acts_212 : decode cL_acts 212 = .ok (.istore 9, 2) := by decide +kernel
theorem dL_acts_214 : decode cL_acts 214 = .ok (.aload_n 0, 1) := by decide +kernel
theorem dL_acts_215 : decode cL_acts 215 = .ok (.iload 8, 2) := by decide +kernel
theorem dL_acts_217 : decode cL_acts 217 = .ok (.invokevirtual 70, 3) := by decide +kernel
theorem dL_acts_220 : decode cL_acts 220 = .ok (.istore 10, 2) := by decide +kernel
theorem dL_acts_222 : decode cL_acts 222 = .ok (.iload 10, 2) := by decide +kernel
theorem dL_acts_224 : decode cL_acts 224 = .ok (.ifCond .ge 29, 3) := by decide +kernel
theorem dL_acts_227 : decode cL_acts 227 = .ok (.iload 10, 2) := by decide +kernel
theorem dL_acts_229 : decode cL_acts 229 = .ok (.iload 9, 2) := by decide +kernel
theorem dL_acts_231 : decode cL_acts 231 = .ok (.iconst 1, 1) := by decide +kernel
theorem dL_acts_232 : decode cL_acts 232 = .ok (.if_icmp .le 8, 3) := by decide +kernel
theorem dL_acts_235 : decode cL_acts 235 = .ok (.ldc 64, 2) := by decide +kernel
theorem dL_acts_237 : decode cL_acts 237 = .ok (.goto 5, 3) := by decide +kernel
theorem dL_acts_240 : decode cL_acts 240 = .ok (.ldc 65, 2) := by decide +kernel
theorem dL_acts_242 : decode cL_acts 242 = .ok (.if_icmp .ne 7, 3) := by decide +kernel
theorem dL_acts_245 : decode cL_acts 245 = .ok (.iconst 1, 1) := by decide +kernel
theorem dL_acts_246 : decode cL_acts 246 = .ok (.goto 55, 3) := by decide +kernel
theorem dL_acts_249 : decode cL_acts 249 = .ok (.iconst 0, 1) := by decide +kernel
theorem dL_acts_250 : decode cL_acts 250 = .ok (.goto 51, 3) := by decide +kernel
theorem dL_acts_253 : decode cL_acts 253 = .ok (.iload 10, 2) := by decide +kernel
theorem dL_acts_255 : decode cL_acts 255 = .ok (.iload_n 3, 1) := by decide +kernel
theorem dL_acts_256 : decode cL_acts 256 = .ok (.if_icmp .ne 44, 3) := by decide +kernel
theorem dL_acts_259 : decode cL_acts 259 = .ok (.aload_n 0, 1) := by decide +kernel
theorem dL_acts_260 : decode cL_acts 260 = .ok (.iload_n 3, 1) := by decide +kernel
theorem dL_acts_261 : decode cL_acts 261 = .ok (.iconst 0, 1) := by decide +kernel
theorem dL_acts_262 : decode cL_acts 262 = .ok (.invokevirtual 9, 3) := by decide +kernel
theorem dL_acts_265 : decode cL_acts 265 = .ok (.iconst 4, 1) := by decide +kernel
theorem dL_acts_266 : decode cL_acts 266 = .ok (.if_icmp .ne 34, 3) := by decide +kernel
theorem dL_acts_269 : decode cL_acts 269 = .ok (.aload_n 0, 1) := by decide +kernel
theorem dL_acts_270 : decode cL_acts 270 = .ok (.iload_n 3, 1) := by decide +kernel
theorem dL_acts_271 : decode cL_acts 271 = .ok (.iconst 3, 1) := by decide +kernel
theorem dL_acts_272 : decode cL_acts 272 = .ok (.invokevirtual 9, 3) := by decide +kernel
theorem dL_acts_275 : decode cL_acts 275 = .ok (.aload_n 0, 1) := by decide +kernel
theorem dL_acts_276 : decode cL_acts 276 = .ok (.iload 8, 2) := by decide +kernel
theorem dL_acts_278 : decode cL_acts 278 = .ok (.iconst 0, 1) := by decide +kernel
theorem dL_acts_279 : decode cL_acts 279 = .ok (.invokevirtual 29, 3) := by decide +kernel
theorem dL_acts_282 : decode cL_acts 282 = .ok (.if_icmp .ne 18, 3) := by decide +kernel
theorem dL_acts_285 : decode cL_acts 285 = .ok (.aload_n 0, 1) := by decide +kernel
theorem dL_acts_286 : decode cL_acts 286 = .ok (.iload 8, 2) := by decide +kernel
theorem dL_acts_288 : decode cL_acts 288 = .ok (.iconst 4, 1) := by decide +kernel
theorem dL_acts_289 : decode cL_acts 289 = .ok (.invokevirtual 29, 3) := by decide +kernel
theorem dL_acts_292 : decode cL_acts 292 = .ok (.iconst 3, 1) := by decide +kernel
theorem dL_acts_293 : decode cL_acts 293 = .ok (.if_icmp .ne 7, 3) := by decide +kernel
theorem dL_acts_296 : decode cL_acts 296 = .ok (.iconst 1, 1) := by decide +kernel
theorem dL_acts_297 : decode cL_acts 297 = .ok (.goto 4, 3) := by decide +kernel
theorem dL_acts_300 : decode cL_acts 300 = .ok (.iconst 0, 1) := by decide +kernel
theorem dL_acts_301 : decode cL_acts 301 = .ok (.ireturn, 1) := by decide +kernel
theorem dL_acts_302 : decode cL_acts 302 = .ok (.iload_n 3, 1) := by decide +kernel
theorem dL_acts_303 : decode cL_acts 303 = .ok (.iconst 1, 1) := by decide +kernel
theorem dL_acts_304 : decode cL_acts 304 = .ok (.if_icmp .ne 20, 3) := by decide +kernel
theorem dL_acts_307 : decode cL_acts 307 = .ok (.aload_n 0, 1) := by decide +kernel
theorem dL_acts_308 : decode cL_acts 308 = .ok (.iconst 0, 1) := by decide +kernel
theorem dL_acts_309 : decode cL_acts 309 = .ok (.iconst 5, 1) := by decide +kernel
theorem dL_acts_310 : decode cL_acts 310 = .ok (.invokevirtual 73, 3) := by decide +kernel
theorem dL_acts_313 : decode cL_acts 313 = .ok (.ldc 69, 2) := by decide +kernel
theorem dL_acts_315 : decode cL_acts 315 = .ok (.if_icmp .ne 7, 3) := by decide +kernel
theorem dL_acts_318 : decode cL_acts 318 = .ok (.iconst 1, 1) := by decide +kernel
theorem dL_acts_319 : decode cL_acts 319 = .ok (.goto 4, 3) := by decide +kernel
theorem dL_acts_322 : decode cL_acts 322 = .ok (.iconst 0, 1) := by decide +kernel
theorem dL_acts_323 : decode cL_acts 323 = .ok (.ireturn, 1) := by decide +kernel
theorem dL_acts_324 : decode cL_acts 324 = .ok (.iconst 1, 1) := by decide +kernel
theorem dL_acts_325 : decode cL_acts 325 = .ok (.iload_n 2, 1) := by decide +kernel
theorem dL_acts_326 : decode cL_acts 326 = .ok (.iload_n 3, 1) := by decide +kernel
theorem dL_acts_327 : decode cL_acts 327 = .ok (.iconst 1, 1) := by decide +kernel
theorem dL_acts_328 : decode cL_acts 328 = .ok (.isub, 1) := by decide +kernel
theorem dL_acts_329 : decode cL_acts 329 = .ok (.irem, 1) := by decide +kernel
theorem dL_acts_330 : decode cL_acts 330 = .ok (.iadd, 1) := by decide +kernel
theorem dL_acts_331 : decode cL_acts 331 = .ok (.istore 11, 2) := by decide +kernel
theorem dL_acts_333 : decode cL_acts 333 = .ok (.aload_n 0, 1) := by decide +kernel
theorem dL_acts_334 : decode cL_acts 334 = .ok (.iload 11, 2) := by decide +kernel
theorem dL_acts_336 : decode cL_acts 336 = .ok (.iconst 5, 1) := by decide +kernel
theorem dL_acts_337 : decode cL_acts 337 = .ok (.invokevirtual 9, 3) := by decide +kernel
theorem dL_acts_340 : decode cL_acts 340 = .ok (.istore 12, 2) := by decide +kernel
theorem dL_acts_342 : decode cL_acts 342 = .ok (.aload_n 0, 1) := by decide +kernel
theorem dL_acts_343 : decode cL_acts 343 = .ok (.iload 11, 2) := by decide +kernel
theorem dL_acts_345 : decode cL_acts 345 = .ok (.iconst 3, 1) := by decide +kernel
theorem dL_acts_346 : decode cL_acts 346 = .ok (.invokevirtual 9, 3) := by decide +kernel
theorem dL_acts_349 : decode cL_acts 349 = .ok (.istore 13, 2) := by decide +kernel
theorem dL_acts_351 : decode cL_acts 351 = .ok (.iconst 1, 1) := by decide +kernel
theorem dL_acts_352 : decode cL_acts 352 = .ok (.iload_n 2, 1) := by decide +kernel
theorem dL_acts_353 : decode cL_acts 353 = .ok (.bipush 64, 2) := by decide +kernel
theorem dL_acts_355 : decode cL_acts 355 = .ok (.idiv, 1) := by decide +kernel
theorem dL_acts_356 : decode cL_acts 356 = .ok (.sipush 500, 3) := by decide +kernel
theorem dL_acts_359 : decode cL_acts 359 = .ok (.irem, 1) := by decide +kernel
theorem dL_acts_360 : decode cL_acts 360 = .ok (.iadd, 1) := by decide +kernel
theorem dL_acts_361 : decode cL_acts 361 = .ok (.istore 14, 2) := by decide +kernel
theorem dL_acts_363 : decode cL_acts 363 = .ok (.aload_n 0, 1) := by decide +kernel
theorem dL_acts_364 : decode cL_acts 364 = .ok (.iload 11, 2) := by decide +kernel
theorem dL_acts_366 : decode cL_acts 366 = .ok (.iload 14, 2) := by decide +kernel
theorem dL_acts_368 : decode cL_acts 368 = .ok (.invokevirtual 73, 3) := by decide +kernel
theorem dL_acts_371 : decode cL_acts 371 = .ok (.istore 15, 2) := by decide +kernel
theorem dL_acts_373 : decode cL_acts 373 = .ok (.aload_n 0, 1) := by decide +kernel
theorem dL_acts_374 : decode cL_acts 374 = .ok (.iload 11, 2) := by decide +kernel
theorem dL_acts_376 : decode cL_acts 376 = .ok (.iconst 5, 1) := by decide +kernel
theorem dL_acts_377 : decode cL_acts 377 = .ok (.invokevirtual 9, 3) := by decide +kernel
theorem dL_acts_380 : decode cL_acts 380 = .ok (.iload 12, 2) := by decide +kernel
theorem dL_acts_382 : decode cL_acts 382 = .ok (.if_icmp .ne 45, 3) := by decide +kernel
theorem dL_acts_385 : decode cL_acts 385 = .ok (.iload 15, 2) := by decide +kernel
theorem dL_acts_387 : decode cL_acts 387 = .ok (.iload 13, 2) := by decide +kernel
theorem dL_acts_389 : decode cL_acts 389 = .ok (.if_icmp .ne 15, 3) := by decide +kernel
theorem dL_acts_392 : decode cL_acts 392 = .ok (.aload_n 0, 1) := by decide +kernel
theorem dL_acts_393 : decode cL_acts 393 = .ok (.iload 11, 2) := by decide +kernel
theorem dL_acts_395 : decode cL_acts 395 = .ok (.iconst 3, 1) := by decide +kernel
theorem dL_acts_396 : decode cL_acts 396 = .ok (.invokevirtual 9, 3) := by decide +kernel
theorem dL_acts_399 : decode cL_acts 399 = .ok (.iload 14, 2) := by decide +kernel
theorem dL_acts_401 : decode cL_acts 401 = .ok (.if_icmp .eq 22, 3) := by decide +kernel
theorem dL_acts_404 : decode cL_acts 404 = .ok (.iload 15, 2) := by decide +kernel
theorem dL_acts_406 : decode cL_acts 406 = .ok (.ldc 64, 2) := by decide +kernel
theorem dL_acts_408 : decode cL_acts 408 = .ok (.if_icmp .ne 19, 3) := by decide +kernel
theorem dL_acts_411 : decode cL_acts 411 = .ok (.aload_n 0, 1) := by decide +kernel
theorem dL_acts_412 : decode cL_acts 412 = .ok (.iload 11, 2) := by decide +kernel
theorem dL_acts_414 : decode cL_acts 414 = .ok (.iconst 3, 1) := by decide +kernel
theorem dL_acts_415 : decode cL_acts 415 = .ok (.invokevirtual 9, 3) := by decide +kernel
theorem dL_acts_418 : decode cL_acts 418 = .ok (.iload 13, 2) := by decide +kernel
theorem dL_acts_420 : decode cL_acts 420 = .ok (.if_icmp .ne 7, 3) := by decide +kernel
theorem dL_acts_423 : decode cL_acts 423 = .ok (.iconst 1, 1) := by decide +kernel
theorem dL_acts_424 : decode cL_acts 424 = .ok (.goto 4, 3) := by decide +kernel
theorem dL_acts_427 : decode cL_acts 427 = .ok (.iconst 0, 1) := by decide +kernel
theorem dL_acts_428 : decode cL_acts 428 = .ok (.ireturn, 1) := by decide +kernel
theorem dL_acts_429 : decode cL_acts 429 = .ok (.aload_n 0, 1) := by decide +kernel
theorem dL_acts_430 : decode cL_acts 430 = .ok (.bipush 9, 2) := by decide +kernel
theorem dL_acts_432 : decode cL_acts 432 = .ok (.invokevirtual 15, 3) := by decide +kernel
theorem dL_acts_435 : decode cL_acts 435 = .ok (.istore 16, 2) := by decide +kernel
theorem dL_acts_437 : decode cL_acts 437 = .ok (.iload_n 2, 1) := by decide +kernel
theorem dL_acts_438 : decode cL_acts 438 = .ok (.iload_n 3, 1) := by decide +kernel
theorem dL_acts_439 : decode cL_acts 439 = .ok (.irem, 1) := by decide +kernel
theorem dL_acts_440 : decode cL_acts 440 = .ok (.istore 17, 2) := by decide +kernel
theorem dL_acts_442 : decode cL_acts 442 = .ok (.aload_n 0, 1) := by decide +kernel
theorem dL_acts_443 : decode cL_acts 443 = .ok (.iload 17, 2) := by decide +kernel
theorem dL_acts_445 : decode cL_acts 445 = .ok (.invokevirtual 76, 3) := by decide +kernel
theorem dL_acts_448 : decode cL_acts 448 = .ok (.istore 18, 2) := by decide +kernel
theorem dL_acts_450 : decode cL_acts 450 = .ok (.iload 18, 2) := by decide +kernel
theorem dL_acts_452 : decode cL_acts 452 = .ok (.ifCond .lt 49, 3) := by decide +kernel
theorem dL_acts_455 : decode cL_acts 455 = .ok (.iload 18, 2) := by decide +kernel
theorem dL_acts_457 : decode cL_acts 457 = .ok (.iload_n 3, 1) := by decide +kernel
theorem dL_acts_458 : decode cL_acts 458 = .ok (.if_icmp .gt 43, 3) := by decide +kernel
theorem dL_acts_461 : decode cL_acts 461 = .ok (.aload_n 0, 1) := by decide +kernel
theorem dL_acts_462 : decode cL_acts 462 = .ok (.iload 17, 2) := by decide +kernel
theorem dL_acts_464 : decode cL_acts 464 = .ok (.bipush 6, 2) := by decide +kernel
theorem dL_acts_466 : decode cL_acts 466 = .ok (.invokevirtual 9, 3) := by decide +kernel
theorem dL_acts_469 : decode cL_acts 469 = .ok (.iconst 1, 1) := by decide +kernel
theorem dL_acts_470 : decode cL_acts 470 = .ok (.if_icmp .ne 31, 3) := by decide +kernel
theorem dL_acts_473 : decode cL_acts 473 = .ok (.iload 17, 2) := by decide +kernel
theorem dL_acts_475 : decode cL_acts 475 = .ok (.ifCond .gt 12, 3) := by decide +kernel
theorem dL_acts_478 : decode cL_acts 478 = .ok (.aload_n 0, 1) := by decide +kernel
theorem dL_acts_479 : decode cL_acts 479 = .ok (.bipush 9, 2) := by decide +kernel
theorem dL_acts_481 : decode cL_acts 481 = .ok (.invokevirtual 15, 3) := by decide +kernel
theorem dL_acts_484 : decode cL_acts 484 = .ok (.ifCond .ne 17, 3) := by decide +kernel
theorem dL_acts_487 : decode cL_acts 487 = .ok (.iload 16, 2) := by decide +kernel
theorem dL_acts_489 : decode cL_acts 489 = .ok (.ifCond .gt 8, 3) := by decide +kernel
theorem dL_acts_492 : decode cL_acts 492 = .ok (.iload 18, 2) := by decide +kernel
theorem dL_acts_494 : decode cL_acts 494 = .ok (.ifCond .ne 7, 3) := by decide +kernel
theorem dL_acts_497 : decode cL_acts 497 = .ok (.iconst 1, 1) := by decide +kernel
theorem dL_acts_498 : decode cL_acts 498 = .ok (.goto 4, 3) := by decide +kernel
theorem dL_acts_501 : decode cL_acts 501 = .ok (.iconst 0, 1) := by decide +kernel
theorem dL_acts_502 : decode cL_acts 502 = .ok (.ireturn, 1) := by decide +kernel
theorem dL_acts_503 : decode cL_acts 503 = .ok (.aload_n 0, 1) := by decide +kernel
theorem dL_acts_504 : decode cL_acts 504 = .ok (.invokevirtual 79, 3) := by decide +kernel
theorem dL_acts_507 : decode cL_acts 507 = .ok (.ifCond .ge 14, 3) := by decide +kernel
theorem dL_acts_510 : decode cL_acts 510 = .ok (.aload_n 0, 1) := by decide +kernel
theorem dL_acts_511 : decode cL_acts 511 = .ok (.bipush 7, 2) := by decide +kernel
theorem dL_acts_513 : decode cL_acts 513 = .ok (.invokevirtual 15, 3) := by decide +kernel
theorem dL_acts_516 : decode cL_acts 516 = .ok (.bipush 8, 2) := by decide +kernel
theorem dL_acts_518 : decode cL_acts 518 = .ok (.if_icmp .ne 7, 3) := by decide +kernel
theorem dL_acts_521 : decode cL_acts 521 = .ok (.iconst 1, 1) := by decide +kernel
theorem dL_acts_522 : decode cL_acts 522 = .ok (.goto 4, 3) := by decide +kernel
theorem dL_acts_525 : decode cL_acts 525 = .ok (.iconst 0, 1) := by decide +kernel
theorem dL_acts_526 : decode cL_acts 526 = .ok (.ireturn, 1) := by decide +kernel
theorem dL_acts_527 : decode cL_acts 527 = .ok (.aload_n 0, 1) := by decide +kernel
theorem dL_acts_528 : decode cL_acts 528 = .ok (.iconst 1, 1) := by decide +kernel
theorem dL_acts_529 : decode cL_acts 529 = .ok (.iload_n 2, 1) := by decide +kernel
theorem dL_acts_530 : decode cL_acts 530 = .ok (.bipush 8, 2) := by decide +kernel
theorem dL_acts_532 : decode cL_acts 532 = .ok (.irem, 1) := by decide +kernel
theorem dL_acts_533 : decode cL_acts 533 = .ok (.iadd, 1) := by decide +kernel
theorem dL_acts_534 : decode cL_acts 534 = .ok (.invokevirtual 83, 3) := by decide +kernel
theorem dL_acts_537 : decode cL_acts 537 = .ok (.ifCond .le 7, 3) := by decide +kernel
theorem dL_acts_540 : decode cL_acts 540 = .ok (.iconst 1, 1) := by decide +kernel
theorem dL_acts_541 : decode cL_acts 541 = .ok (.goto 4, 3) := by decide +kernel
theorem dL_acts_544 : decode cL_acts 544 = .ok (.iconst 0, 1) := by decide +kernel
theorem dL_acts_545 : decode cL_acts 545 = .ok (.ireturn, 1) := by decide +kernel
theorem dL_acts_546 : decode cL_acts 546 = .ok (.aload_n 0, 1) := by decide +kernel
theorem dL_acts_547 : decode cL_acts 547 = .ok (.iload_n 2, 1) := by decide +kernel
theorem dL_acts_548 : decode cL_acts 548 = .ok (.invokestatic 86, 3) := by decide +kernel
theorem dL_acts_551 : decode cL_acts 551 = .ok (.ireturn, 1) := by decide +kernel
