set_option maxRecDepth 20000 in
theorem gd_X4 : GoodIn lw_tbl wsX40 := goodIn_r wsX40 [167, 169, 171, 173, 175, 177, 179] (by decide +kernel) (by decide +kernel)
set_option maxRecDepth 20000 in
theorem gd_X5 : GoodIn lw_tbl wsX50 := goodIn_r wsX50 [605, 607, 609, 611, 613, 615, 617, 619, 621, 623, 625, 627, 629, 631, 633, 635, 637, 639, 641, 643, 645, 647, 649, 651, 653, 655, 657, 659, 661, 663, 665, 667, 669, 671] (by decide +kernel) (by decide +kernel)
set_option maxRecDepth 20000 in
theorem gd_Jx4a65c : GoodIn lw_tbl wsJx4a65c0 := goodIn_r wsJx4a65c0 [128, 124, 126] (by decide +kernel) (by decide +kernel)
