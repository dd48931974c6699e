set_option maxRecDepth 20000 in
theorem ggL_law_L_holds : GoodIn wsL_law wsL_holds := goodIn_r _ [408, 165, 166, 167, 2, 168, 12, 25, 17, 21, 169, 170, 171, 172, 173, 174, 175, 24, 176, 84, 177, 178, 179, 180, 181, 85, 86, 87, 182, 183, 184, 185, 186, 187, 188, 189, 190, 191, 192, 11, 193, 38, 42, 194, 195, 196, 41, 197, 115, 52, 53, 51, 198, 199, 200, 201, 202, 203, 204, 205, 206, 207, 208, 209, 210, 211, 36, 37, 212, 213, 214, 215, 216, 217, 88, 218, 219, 220, 221, 222, 223, 224, 225, 226, 227, 228, 229, 230, 231, 232, 233, 234, 235, 236, 237, 45, 238, 58, 239, 240, 241, 242, 243, 244, 245, 246, 247, 61, 62, 63, 98, 99, 253, 254, 255, 256, 147, 289, 290, 291, 292, 293, 294, 295, 296, 35, 46, 257, 258, 259, 260, 261, 262, 263, 264, 265, 266, 267, 268, 269, 270, 271, 272, 273, 274, 275, 276, 277, 278, 279, 280, 281, 282, 283, 284, 285, 286, 287, 288, 424, 425, 426, 427, 428, 429, 430, 431, 432, 433, 434, 435, 436, 437, 438, 439, 450, 451, 452, 453, 454, 455, 456, 457, 458, 459, 460, 461, 462, 463, 464, 465, 466, 440, 441, 442, 443, 444, 445, 446, 447, 448, 449] (by decide +kernel) (by decide +kernel)
set_option maxRecDepth 20000 in
theorem gL_law_L_holds : GoodIn wsL_law (va_wsS RL 102 yL_holds wsL_holds) := goodIn_app (goodIn_of _ (by decide +kernel)) ggL_law_L_holds
set_option maxRecDepth 20000 in
theorem ggL_law_L_low : GoodIn wsL_law wsL_low := goodIn_r _ [302, 303] (by decide +kernel) (by decide +kernel)
set_option maxRecDepth 20000 in
theorem gL_law_L_low : GoodIn wsL_law (va_wsS RL 35 yL_low wsL_low) := goodIn_app (goodIn_of _ (by decide +kernel)) ggL_law_L_low
