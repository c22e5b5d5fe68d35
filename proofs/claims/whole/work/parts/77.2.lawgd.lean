set_option maxRecDepth 20000 in
theorem gd_L_law_r13 : GoodIn lw_tbl wsL_law_r13 := goodIn_r wsL_law_r13 [305, 306, 307, 308, 309, 310, 311, 312, 313, 314, 315, 318, 718, 719, 720, 721, 321, 322, 323, 324, 91, 325, 326, 327] (by decide +kernel) (by decide +kernel)
set_option maxRecDepth 20000 in
theorem gd_L_law_r14 : GoodIn lw_tbl wsL_law_r14 := goodIn_r wsL_law_r14 [328, 90, 722, 723, 724, 725, 580, 329, 330, 331, 332, 333, 335, 5, 336, 270, 283, 337, 338, 339, 340, 89, 341, 342] (by decide +kernel) (by decide +kernel)
set_option maxRecDepth 20000 in
theorem gd_L_law_r15 : GoodIn lw_tbl wsL_law_r15 := goodIn_r wsL_law_r15 [40, 343, 344, 345, 346, 347, 348, 350, 351, 352, 354, 353, 41, 355, 356, 357, 358, 359, 360, 362, 378, 379, 380, 381] (by decide +kernel) (by decide +kernel)
set_option maxRecDepth 20000 in
theorem gd_L_law_r16 : GoodIn lw_tbl wsL_law_r16 := goodIn_r wsL_law_r16 [122, 123, 382, 384, 6, 385, 386, 388, 7, 389, 390, 392, 8, 393, 422, 423, 394, 395, 42, 396, 397, 398, 399, 400] (by decide +kernel) (by decide +kernel)
set_option maxRecDepth 20000 in
theorem gd_L_law_r17 : GoodIn lw_tbl wsL_law_r17 := goodIn_r wsL_law_r17 [401, 402, 403, 404, 405, 784, 406, 415, 416, 417, 418, 419, 421, 726, 727, 728, 729, 424, 425, 426, 427, 428, 429, 430] (by decide +kernel) (by decide +kernel)
set_option maxRecDepth 20000 in
theorem gd_L_law_r18 : GoodIn lw_tbl wsL_law_r18 := goodIn_r wsL_law_r18 [431, 143, 432, 433, 435, 9, 436, 92, 437, 438, 439, 440, 441, 442, 443, 444, 445, 446, 447, 448, 449, 450, 452, 10] (by decide +kernel) (by decide +kernel)
