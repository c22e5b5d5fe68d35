set_option maxRecDepth 20000 in
theorem gd_L_law_r19 : GoodIn lw_tbl wsL_law_r19 := goodIn_r wsL_law_r19 [453, 454, 455, 457, 11, 458, 461, 459, 460, 462, 463, 464, 465, 468, 466, 467, 469, 471, 12, 472, 473, 475, 13, 476] (by decide +kernel) (by decide +kernel)
set_option maxRecDepth 20000 in
theorem gd_L_law_r20 : GoodIn lw_tbl wsL_law_r20 := goodIn_r wsL_law_r20 [477, 478, 479, 480, 481, 483, 14, 484, 485, 486, 730, 731, 732, 733, 602, 734, 736, 24, 737, 738, 740, 25, 741, 487] (by decide +kernel) (by decide +kernel)
set_option maxRecDepth 20000 in
theorem gd_L_law_r21 : GoodIn lw_tbl wsL_law_r21 := goodIn_r wsL_law_r21 [488, 489, 490, 140, 491, 492, 493, 494, 495, 496, 497, 498, 742, 743, 744, 745, 746, 748, 26, 749, 499, 500, 501, 502] (by decide +kernel) (by decide +kernel)
set_option maxRecDepth 20000 in
theorem gd_L_law_r22 : GoodIn lw_tbl wsL_law_r22 := goodIn_r wsL_law_r22 [138, 750, 751, 752, 753, 503, 504, 505, 506, 51, 507, 508, 509, 510, 754, 755, 756, 757, 590, 511, 512, 513, 514, 515] (by decide +kernel) (by decide +kernel)
set_option maxRecDepth 20000 in
theorem gd_L_law_r23 : GoodIn lw_tbl wsL_law_r23 := goodIn_r wsL_law_r23 [516, 517, 518, 519, 521, 15, 522, 523, 524, 525, 526, 527, 528, 758, 759, 760, 761, 529, 530, 531, 532, 533, 534, 535] (by decide +kernel) (by decide +kernel)
set_option maxRecDepth 20000 in
theorem gd_L_law_r24 : GoodIn lw_tbl wsL_law_r24 := goodIn_r wsL_law_r24 [536, 537, 538, 539, 540, 541, 542, 544, 16, 545, 546, 547, 548, 549, 550, 762, 763, 764, 765, 551, 552, 553, 554, 555] (by decide +kernel) (by decide +kernel)
