set_option maxRecDepth 20000 in
theorem gpholds_1 : GoodIn wsL_law (.code yL_holds cL_holds 4 (some .boolean) :: wsL_holds_r1) := goodIn_r _ [92, 93, 94, 95, 96, 2, 97, 13, 17, 21, 98, 99, 100, 101, 12, 102, 43, 103, 104, 105, 106, 107, 108, 109, 110] (by decide +kernel) (by decide +kernel)
set_option maxRecDepth 20000 in
theorem gpholds_2 : GoodIn wsL_law wsL_holds_r2 := goodIn_r _ [111, 112, 113, 114, 115, 116, 117, 118, 119, 120, 121, 122, 123, 124, 125, 126, 127, 128, 129, 130, 131, 132, 133, 134] (by decide +kernel) (by decide +kernel)
set_option maxRecDepth 20000 in
theorem gpholds_3 : GoodIn wsL_law wsL_holds_r3 := goodIn_r _ [135, 136, 137, 138, 139, 140, 141, 142, 143, 144, 145, 146, 147, 148, 149, 150, 151, 152, 153, 154, 155, 156, 157, 158] (by decide +kernel) (by decide +kernel)
set_option maxRecDepth 20000 in
theorem gpholds_4 : GoodIn wsL_law wsL_holds_r4 := goodIn_r _ [159, 44, 160, 161, 162, 163, 164, 165, 166, 167, 168, 169, 170, 171, 172, 173, 174, 175, 176, 177, 178, 179, 180, 181] (by decide +kernel) (by decide +kernel)
set_option maxRecDepth 20000 in
theorem gpholds_5 : GoodIn wsL_law wsL_holds_r5 := goodIn_r _ [182, 183, 184, 185, 186, 16, 187, 57, 188, 189, 190, 20, 191, 63, 192, 193, 194, 195, 37, 196, 197, 198, 199, 200] (by decide +kernel) (by decide +kernel)
set_option maxRecDepth 20000 in
theorem gpholds_6 : GoodIn wsL_law wsL_holds_r6 := goodIn_r _ [201, 202, 36, 203, 87, 204, 205, 206, 207, 208, 209, 210, 88, 211, 212, 213, 214, 215, 216, 217, 218, 219, 220, 221] (by decide +kernel) (by decide +kernel)
set_option maxRecDepth 20000 in
theorem gpholds_7 : GoodIn wsL_law wsL_holds_r7 := goodIn_r _ [222, 223, 224, 225, 226, 227, 228, 229, 230, 231, 232, 233, 234, 33, 235, 236, 237, 32, 238, 239, 240, 241, 242, 83] (by decide +kernel) (by decide +kernel)
set_option maxRecDepth 20000 in
theorem gpholds_8 : GoodIn wsL_law wsL_holds_r8 := goodIn_r _ [243, 244, 245, 246, 247, 248, 249, 250, 251, 252, 253, 254, 255, 256, 257, 258, 259, 260, 261, 262, 263, 264, 265, 266] (by decide +kernel) (by decide +kernel)
set_option maxRecDepth 20000 in
theorem gpholds_9 : GoodIn wsL_law wsL_holds_r9 := goodIn_r _ [267, 268, 269, 91, 270, 271, 272, 273, 274, 275, 276, 277, 278, 279, 280, 281, 282, 283, 284, 285, 286, 287, 288, 289] (by decide +kernel) (by decide +kernel)
set_option maxRecDepth 20000 in
theorem gpholds_10 : GoodIn wsL_law wsL_holds_r10 := goodIn_r _ [290, 291, 292, 293, 294, 295, 296, 297, 298, 299, 300, 301, 302, 303, 304, 305, 306, 307, 308, 309, 310, 311, 312] (by decide +kernel) (by decide +kernel)
theorem ggL_law_L_holds : GoodIn wsL_law wsL_holds := goodIn_ca (goodIn_ca (goodIn_ca (goodIn_ca (goodIn_ca (goodIn_ca (goodIn_ca gpholds_1 (goodIn_app gpholds_2 (goodIn_app gpholds_3 (goodIn_app gpholds_4 (goodIn_app gpholds_5 (goodIn_app gpholds_6 (goodIn_app gpholds_7 (goodIn_app gpholds_8 (goodIn_app gpholds_9 (gpholds_10)))))))))) (goodIn_sub inlX7 (by decide +kernel))) (goodIn_sub inlX1 (by decide +kernel))) (goodIn_sub inlX0 (by decide +kernel))) (goodIn_sub inlX6 (by decide +kernel))) (goodIn_sub inlX3 (by decide +kernel))) (goodIn_sub inlX5 (by decide +kernel))
set_option maxRecDepth 20000 in
theorem gL_law_L_holds : GoodIn wsL_law (va_wsS RL 91 yL_holds wsL_holds) := goodIn_app (goodIn_of _ (by decide +kernel)) ggL_law_L_holds
