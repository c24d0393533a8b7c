set_option maxRecDepth 20000 in
theorem gpacts_1 : GoodIn wsL_law (.code yL_acts cL_acts 19 (some .boolean) :: wsL_acts_r1) := goodIn_r _ [367, 368, 369, 3, 94, 95, 96, 2, 97, 13, 17, 21, 98, 99, 100, 101, 12, 102, 43, 103, 104, 105, 106, 107, 108] (by decide +kernel) (by decide +kernel)
set_option maxRecDepth 20000 in
theorem gpacts_2 : GoodIn wsL_law wsL_acts_r2 := goodIn_r _ [109, 110, 111, 112, 113, 114, 115, 116, 117, 118, 119, 120, 121, 122, 123, 124, 125, 126, 127, 128, 129, 130, 131, 132] (by decide +kernel) (by decide +kernel)
set_option maxRecDepth 20000 in
theorem gpacts_3 : GoodIn wsL_law wsL_acts_r3 := goodIn_r _ [133, 134, 135, 136, 137, 138, 139, 140, 141, 142, 143, 144, 145, 146, 147, 148, 149, 150, 151, 152, 153, 154, 155, 156] (by decide +kernel) (by decide +kernel)
set_option maxRecDepth 20000 in
theorem gpacts_4 : GoodIn wsL_law wsL_acts_r4 := goodIn_r _ [157, 158, 159, 44, 160, 161, 162, 163, 164, 165, 166, 167, 168, 169, 170, 171, 172, 173, 174, 175, 176, 177, 178, 179] (by decide +kernel) (by decide +kernel)
set_option maxRecDepth 20000 in
theorem gpacts_5 : GoodIn wsL_law wsL_acts_r5 := goodIn_r _ [180, 181, 182, 183, 184, 185, 186, 16, 187, 57, 188, 189, 190, 20, 191, 63, 217, 218, 219, 220, 221, 222, 223, 224] (by decide +kernel) (by decide +kernel)
set_option maxRecDepth 20000 in
theorem gpacts_6 : GoodIn wsL_law wsL_acts_r6 := goodIn_r _ [225, 226, 227, 228, 229, 230, 231, 232, 233, 234, 33, 235, 236, 237, 32, 238, 239, 240, 241, 242, 83, 243, 244, 245] (by decide +kernel) (by decide +kernel)
set_option maxRecDepth 20000 in
theorem gpacts_7 : GoodIn wsL_law wsL_acts_r7 := goodIn_r _ [246, 247, 248, 249, 250, 251, 252, 253, 254, 255, 256, 257, 258, 259, 260, 261, 262, 263, 264, 265, 266, 267, 370, 371] (by decide +kernel) (by decide +kernel)
set_option maxRecDepth 20000 in
theorem gpacts_8 : GoodIn wsL_law wsL_acts_r8 := goodIn_r _ [372, 373, 324, 325, 37, 335, 336, 337, 338, 56, 58, 339, 205, 206, 207, 340, 341, 342, 343, 344, 345, 346, 347, 200] (by decide +kernel) (by decide +kernel)
set_option maxRecDepth 20000 in
theorem gpacts_9 : GoodIn wsL_law wsL_acts_r9 := goodIn_r _ [201, 202, 36, 203, 87, 204, 208, 209, 210, 88, 211, 212, 213, 214, 215, 216, 374, 375, 376, 377, 352, 353, 354, 355] (by decide +kernel) (by decide +kernel)
set_option maxRecDepth 20000 in
theorem gpacts_10 : GoodIn wsL_law wsL_acts_r10 := goodIn_r _ [45, 46, 47, 48, 378, 379, 380, 381, 382, 289, 290, 291, 292, 383, 384, 385, 386, 387, 388, 389, 390, 391, 392, 393] (by decide +kernel) (by decide +kernel)
set_option maxRecDepth 20000 in
theorem gpacts_11 : GoodIn wsL_law wsL_acts_r11 := goodIn_r _ [394, 395, 396, 397, 398, 399, 400, 401, 402, 403, 404, 405, 406, 407, 328, 329, 330, 408, 331, 332, 333, 334, 409, 410] (by decide +kernel) (by decide +kernel)
set_option maxRecDepth 20000 in
theorem gpacts_12 : GoodIn wsL_law wsL_acts_r12 := goodIn_r _ [411, 412, 413, 414, 415, 416, 417, 418, 357, 358, 359, 49, 50, 51, 52, 419, 285, 286, 287, 288, 293, 294, 295, 296] (by decide +kernel) (by decide +kernel)
set_option maxRecDepth 20000 in
theorem gpacts_13 : GoodIn wsL_law wsL_acts_r13 := goodIn_r _ [297, 298, 420, 421, 422, 423, 326, 356, 424, 425, 426, 427, 428, 429, 430, 317, 318, 319, 431, 432, 433, 434, 435, 281] (by decide +kernel) (by decide +kernel)
set_option maxRecDepth 20000 in
theorem gpacts_14 : GoodIn wsL_law wsL_acts_r14 := goodIn_r _ [436, 437, 438, 439, 440, 441, 442, 443, 444, 445, 446, 447, 448, 449, 450, 451, 452, 453, 454, 455, 456, 457, 458, 459] (by decide +kernel) (by decide +kernel)
set_option maxRecDepth 20000 in
theorem gpacts_15 : GoodIn wsL_law wsL_acts_r15 := goodIn_r _ [460, 91, 461, 93, 313, 314, 315, 316, 278, 279, 280, 320, 321, 322, 323, 327, 348, 349, 350, 351, 462, 463, 464, 465] (by decide +kernel) (by decide +kernel)
set_option maxRecDepth 20000 in
theorem gpacts_16 : GoodIn wsL_law wsL_acts_r16 := goodIn_r _ [466, 467, 468, 469, 470, 471, 472, 473, 474, 475, 476] (by decide +kernel) (by decide +kernel)
theorem ggL_law_L_acts : GoodIn wsL_law wsL_acts := goodIn_ca (goodIn_ca (goodIn_ca (goodIn_ca (goodIn_ca (goodIn_ca (goodIn_ca gpacts_1 (goodIn_app gpacts_2 (goodIn_app gpacts_3 (goodIn_app gpacts_4 (goodIn_app gpacts_5 (goodIn_app gpacts_6 (goodIn_app gpacts_7 (goodIn_app gpacts_8 (goodIn_app gpacts_9 (goodIn_app gpacts_10 (goodIn_app gpacts_11 (goodIn_app gpacts_12 (goodIn_app gpacts_13 (goodIn_app gpacts_14 (goodIn_app gpacts_15 (gpacts_16)))))))))))))))) (goodIn_sub inlX7 (by decide +kernel))) (goodIn_sub inlX1 (by decide +kernel))) (goodIn_sub inlX0 (by decide +kernel))) (goodIn_sub inlX6 (by decide +kernel))) (goodIn_sub inlX5 (by decide +kernel))) (goodIn_sub inlX3 (by decide +kernel))
set_option maxRecDepth 20000 in
theorem gL_law_L_acts : GoodIn wsL_law (va_wsS RL 98 yL_acts wsL_acts) := goodIn_app (goodIn_of _ (by decide +kernel)) ggL_law_L_acts
