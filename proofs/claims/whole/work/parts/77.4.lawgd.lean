set_option maxRecDepth 20000 in
theorem gd_L_law_r25 : GoodIn lw_tbl wsL_law_r25 := goodIn_r wsL_law_r25 [556, 766, 767, 768, 769, 770, 771, 557, 558, 559, 560, 364, 366, 772, 773, 774, 775, 561, 562, 563, 564, 142, 144, 776] (by decide +kernel) (by decide +kernel)
set_option maxRecDepth 20000 in
theorem gd_L_law_r26 : GoodIn lw_tbl wsL_law_r26 := goodIn_r wsL_law_r26 [777, 778, 779] (by decide +kernel) (by decide +kernel)
set_option maxRecDepth 20000 in
theorem gd_X0 : GoodIn lw_tbl wsX00 := goodIn_r wsX00 [369, 371, 373, 375] (by decide +kernel) (by decide +kernel)
set_option maxRecDepth 20000 in
theorem gd_X1 : GoodIn lw_tbl wsX10 := goodIn_r wsX10 [65, 67, 69, 71, 73, 75, 77] (by decide +kernel) (by decide +kernel)
set_option maxRecDepth 20000 in
theorem gd_X2 : GoodIn lw_tbl wsX20 := goodIn_r wsX20 [98, 100, 102] (by decide +kernel) (by decide +kernel)
set_option maxRecDepth 20000 in
theorem gd_X3 : GoodIn lw_tbl wsX30 := goodIn_r wsX30 [147, 149, 151, 153, 155, 157] (by decide +kernel) (by decide +kernel)
