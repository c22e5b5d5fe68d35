set_option maxRecDepth 20000 in
theorem gd_L_law_r7 : GoodIn lw_tbl wsL_law_r7 := goodIn_r wsL_law_r7 [689, 690, 692, 19, 693, 694, 696, 20, 697, 698, 700, 21, 701, 603, 601, 600, 196, 197, 198, 199, 200, 201, 202, 203] (by decide +kernel) (by decide +kernel)
set_option maxRecDepth 20000 in
theorem gd_L_law_r8 : GoodIn lw_tbl wsL_law_r8 := goodIn_r wsL_law_r8 [204, 205, 206, 207, 220, 227, 208, 209, 210, 211, 212, 213, 214, 215, 216, 217, 218, 219, 223, 224, 225, 226, 702, 703] (by decide +kernel) (by decide +kernel)
set_option maxRecDepth 20000 in
theorem gd_L_law_r9 : GoodIn lw_tbl wsL_law_r9 := goodIn_r wsL_law_r9 [704, 705, 706, 708, 22, 709, 710, 712, 23, 713, 230, 231, 232, 233, 234, 236, 0, 237, 238, 239, 240, 241, 242, 243] (by decide +kernel) (by decide +kernel)
set_option maxRecDepth 20000 in
theorem gd_L_law_r10 : GoodIn lw_tbl wsL_law_r10 := goodIn_r wsL_law_r10 [244, 245, 246, 247, 248, 250, 1, 251, 270, 252, 253, 254, 255, 120, 256, 257, 258, 259, 260, 261, 37, 262, 263, 264] (by decide +kernel) (by decide +kernel)
set_option maxRecDepth 20000 in
theorem gd_L_law_r11 : GoodIn lw_tbl wsL_law_r11 := goodIn_r wsL_law_r11 [38, 265, 266, 267, 268, 269, 271, 272, 273, 39, 274, 365, 275, 276, 277, 278, 279, 363, 367, 280, 282, 2, 284, 368] (by decide +kernel) (by decide +kernel)
set_option maxRecDepth 20000 in
theorem gd_L_law_r12 : GoodIn lw_tbl wsL_law_r12 := goodIn_r wsL_law_r12 [285, 286, 288, 3, 289, 290, 291, 292, 293, 714, 715, 716, 717, 294, 295, 296, 297, 298, 300, 4, 301, 302, 303, 304] (by decide +kernel) (by decide +kernel)
