theorem dX4_init_16 : decode cX4_init 16 = .ok (.new 16, 3) := by decide +kernel
theorem dX4_init_19 : decode cX4_init 19 = .ok (.dup, 1) := by decide +kernel
theorem dX4_init_20 : decode cX4_init 20 = .ok (.invokespecial 18, 3) := by decide +kernel
theorem dX4_init_23 : decode cX4_init 23 = .ok (.putfield 19, 3) := by decide +kernel
theorem dX4_init_26 : decode cX4_init 26 = .ok (.aload_n 0, 1) := by decide +kernel
theorem dX4_init_27 : decode cX4_init 27 = .ok (.new 23, 3) := by decide +kernel
theorem dX4_init_30 : decode cX4_init 30 = .ok (.dup, 1) := by decide +kernel
theorem dX4_init_31 : decode cX4_init 31 = .ok (.invokespecial 25, 3) := by decide +kernel
theorem dX4_init_34 : decode cX4_init 34 = .ok (.putfield 26, 3) := by decide +kernel
theorem dX4_init_37 : decode cX4_init 37 = .ok (.aload_n 0, 1) := by decide +kernel
theorem dX4_init_38 : decode cX4_init 38 = .ok (.new 30, 3) := by decide +kernel
theorem dX4_init_41 : decode cX4_init 41 = .ok (.dup, 1) := by decide +kernel
theorem dX4_init_42 : decode cX4_init 42 = .ok (.invokespecial 32, 3) := by decide +kernel
theorem dX4_init_45 : decode cX4_init 45 = .ok (.putfield 33, 3) := by decide +kernel
theorem dX4_init_48 : decode cX4_init 48 = .ok (.aload_n 0, 1) := by decide +kernel
theorem dX4_init_49 : decode cX4_init 49 = .ok (.new 23, 3) := by decide +kernel
theorem dX4_init_52 : decode cX4_init 52 = .ok (.dup, 1) := by decide +kernel
theorem dX4_init_53 : decode cX4_init 53 = .ok (.invokespecial 25, 3) := by decide +kernel
theorem dX4_init_56 : decode cX4_init 56 = .ok (.putfield 37, 3) := by decide +kernel
theorem dX4_init_59 : decode cX4_init 59 = .ok (.aload_n 0, 1) := by decide +kernel
theorem dX4_init_60 : decode cX4_init 60 = .ok (.bipush 40, 2) := by decide +kernel
theorem dX4_init_62 : decode cX4_init 62 = .ok (.newarray .int, 2) := by decide +kernel
theorem dX4_init_64 : decode cX4_init 64 = .ok (.putfield 40, 3) := by decide +kernel
theorem dX4_init_67 : decode cX4_init 67 = .ok (.aload_n 0, 1) := by decide +kernel
theorem dX4_init_68 : decode cX4_init 68 = .ok (.iconst 0, 1) := by decide +kernel
theorem dX4_init_69 : decode cX4_init 69 = .ok (.putfield 44, 3) := by decide +kernel
theorem dX4_init_72 : decode cX4_init 72 = .ok (.return_, 1) := by decide +kernel
set_option maxRecDepth 20000 in
theorem ggX4_name_X3_endWays : GoodIn wsX4_name wsX3_endWays := goodIn_r _ [8, 9, 10, 39, 40, 41, 42, 43, 44] (by decide +kernel) (by decide +kernel)
set_option maxRecDepth 20000 in
theorem gX4_name_X3_endWays : GoodIn wsX4_name (wsV RX4 51 RX3 yX3_endWays wsX3_endWays) := goodIn_app (goodIn_of _ (by decide +kernel)) ggX4_name_X3_endWays
set_option maxRecDepth 20000 in
theorem ggX4_name_X1_addFree : GoodIn wsX4_name wsX1_addFree := goodIn_r _ [15, 16, 17, 18, 19, 20, 21, 22, 23, 24, 32, 33, 34, 35, 36, 37, 38] (by decide +kernel) (by decide +kernel)
set_option maxRecDepth 20000 in
theorem gX4_name_X1_addFree : GoodIn wsX4_name (wsV RX4 54 RX1 yX1_addFree wsX1_addFree) := goodIn_app (goodIn_of _ (by decide +kernel)) ggX4_name_X1_addFree
theorem dX4_name_0 : decode cX4_name 0 = .ok (.aload_n 0, 1) := by decide +kernel
theorem dX4_name_1 : decode cX4_name 1 = .ok (.getfield 10, 3) := by decide +kernel
theorem dX4_name_4 : decode cX4_name 4 = .ok (.getfield 48, 3) := by decide +kernel
theorem dX4_name_7 : decode cX4_name 7 = .ok (.bipush 64, 2) := by decide +kernel
theorem dX4_name_9 : decode cX4_name 9 = .ok (.if_icmp .lt 5, 3) := by decide +kernel
theorem dX4_name_12 : decode cX4_name 12 = .ok (.iconst (-1), 1) := by decide +kernel
theorem dX4_name_13 : decode cX4_name 13 = .ok (.ireturn, 1) := by decide +kernel
theorem dX4_name_14 : decode cX4_name 14 = .ok (.aload_n 0, 1) := by decide +kernel
theorem dX4_name_15 : decode cX4_name 15 = .ok (.getfield 33, 3) := by decide +kernel
theorem dX4_name_18 : decode cX4_name 18 = .ok (.invokevirtual 51, 3) := by decide +kernel
theorem dX4_name_21 : decode cX4_name 21 = .ok (.aload_n 0, 1) := by decide +kernel
theorem dX4_name_22 : decode cX4_name 22 = .ok (.getfield 10, 3) := by decide +kernel
theorem dX4_name_25 : decode cX4_name 25 = .ok (.invokevirtual 54, 3) := by decide +kernel
theorem dX4_name_28 : decode cX4_name 28 = .ok (.ireturn, 1) := by decide +kernel
set_option maxRecDepth 20000 in
theorem ggX4_span_X1_has : GoodIn wsX4_span wsX1_has := goodIn_r _ [7, 8, 56, 57, 58, 59, 60, 61, 62] (by decide +kernel) (by decide +kernel)
set_option maxRecDepth 20000 in
theorem gX4_span_X1_has : GoodIn wsX4_span (wsV RX4 58 RX1 yX1_has wsX1_has) := goodIn_app (goodIn_of _ (by decide +kernel)) ggX4_span_X1_has
set_option maxRecDepth 20000 in
theorem ggX4_span_X1_narrow : GoodIn wsX4_span wsX1_narrow := goodIn_r _ [12, 13, 14, 15, 16, 17, 18, 19, 20, 21, 22, 23, 24, 25, 26, 6, 27, 28, 29, 30, 31, 32, 33, 34, 35, 36, 37, 38, 39, 40, 41, 56, 57, 58, 59, 60, 61, 62] (by decide +kernel) (by decide +kernel)
set_option maxRecDepth 20000 in
theorem gX4_span_X1_narrow : GoodIn wsX4_span (wsV RX4 62 RX1 yX1_narrow wsX1_narrow) := goodIn_app (goodIn_of _ (by decide +kernel)) ggX4_span_X1_narrow
set_option maxRecDepth 20000 in
theorem ggX4_span_X3_endWays : GoodIn wsX4_span wsX3_endWays := goodIn_r _ [46, 47, 48, 63, 64, 65, 66, 67, 68] (by decide +kernel) (by decide +kernel)
set_option maxRecDepth 20000 in
theorem gX4_span_X3_endWays : GoodIn wsX4_span (wsV RX4 51 RX3 yX3_endWays wsX3_endWays) := goodIn_app (goodIn_of _ (by decide +kernel)) ggX4_span_X3_endWays
theorem dX4_span_0 : decode cX4_span 0 = .ok (.aload_n 0, 1) := by decide +kernel
theorem dX4_span_1 : decode cX4_span 1 = .ok (.getfield 10, 3) := by decide +kernel
theorem dX4_span_4 : decode cX4_span 4 = .ok (.iload_n 1, 1) := by decide +kernel
theorem dX4_span_5 : decode cX4_span 5 = .ok (.invokevirtual 58, 3) := by decide +kernel
theorem dX4_span_8 : decode cX4_span 8 = .ok (.ifCond .eq 17, 3) := by decide +kernel
theorem dX4_span_11 : decode cX4_span 11 = .ok (.aload_n 0, 1) := by decide +kernel
theorem dX4_span_12 : decode cX4_span 12 = .ok (.getfield 10, 3) := by decide +kernel
theorem dX4_span_15 : decode cX4_span 15 = .ok (.iload_n 1, 1) := by decide +kernel
theorem dX4_span_16 : decode cX4_span 16 = .ok (.lload_n 2, 1) := by decide +kernel
theorem dX4_span_17 : decode cX4_span 17 = .ok (.lload 4, 2) := by decide +kernel
theorem dX4_span_19 : decode cX4_span 19 = .ok (.invokevirtual 62, 3) := by decide +kernel
theorem dX4_span_22 : decode cX4_span 22 = .ok (.ifCond .ne 5, 3) := by decide +kernel
theorem dX4_span_25 : decode cX4_span 25 = .ok (.iconst 0, 1) := by decide +kernel
theorem dX4_span_26 : decode cX4_span 26 = .ok (.ireturn, 1) := by decide +kernel
theorem dX4_span_27 : decode cX4_span 27 = .ok (.aload_n 0, 1) := by decide +kernel
theorem dX4_span_28 : decode cX4_span 28 = .ok (.getfield 33, 3) := by decide +kernel
theorem dX4_span_31 : decode cX4_span 31 = .ok (.invokevirtual 51, 3) := by decide +kernel
theorem dX4_span_34 : decode cX4_span 34 = .ok (.iconst 1, 1) := by decide +kernel
theorem dX4_span_35 : decode cX4_span 35 = .ok (.ireturn, 1) := by decide +kernel
set_option maxRecDepth 20000 in
theorem ggX4_give_X1_has : GoodIn wsX4_give wsX1_has := goodIn_r _ [7, 8, 113, 114, 115, 116, 117, 118, 119] (by decide +kernel) (by decide +kernel)
set_option maxRecDepth 20000 in
theorem gX4_give_X1_has : GoodIn wsX4_give (wsV RX4 58 RX1 yX1_has wsX1_has) := goodIn_app (goodIn_of _ (by decide +kernel)) ggX4_give_X1_has
set_option maxRecDepth 20000 in
theorem ggX4_give_X4_settle : GoodIn wsX4_give wsX4_settle := goodIn_r _ [13, 1, 14, 15, 16, 6, 17, 18, 19, 20, 21, 22, 23, 24, 25, 26, 27, 28, 29, 30, 31, 32, 33, 34, 35, 36, 37, 38, 39, 40, 41, 42, 43, 44, 45, 12, 46, 47, 48, 49, 50, 51, 52, 53, 54, 55, 56, 57, 58, 59, 60, 61, 62, 63, 64, 65, 66, 67, 68, 69, 70, 71, 72, 73, 74, 75, 76, 77, 78, 79, 80, 81, 82, 83, 84, 85, 86, 87, 88, 89, 90, 91, 92, 93, 94, 95, 96, 97, 98, 106, 107, 108, 109, 110, 111, 112, 113, 114, 115, 116, 117, 118, 119, 120, 121, 122, 123, 124, 125, 126] (by decide +kernel) (by decide +kernel)
set_option maxRecDepth 20000 in
theorem gX4_give_X4_settle : GoodIn wsX4_give (wsV RX4 66 RX4 yX4_settle wsX4_settle) := goodIn_app (goodIn_of _ (by decide +kernel)) ggX4_give_X4_settle
set_option maxRecDepth 20000 in
theorem ggX4_give_X3_endWays : GoodIn wsX4_give wsX3_endWays := goodIn_r _ [103, 104, 105, 127, 128, 129, 130, 131, 132] (by decide +kernel) (by decide +kernel)
set_option maxRecDepth 20000 in
theorem gX4_give_X3_endWays : GoodIn wsX4_give (wsV RX4 51 RX3 yX3_endWays wsX3_endWays) := goodIn_app (goodIn_of _ (by decide +kernel)) ggX4_give_X3_endWays
theorem dX4_give_0 : decode cX4_give 0 = .ok (.aload_n 0, 1) := by decide +kernel
theorem dX4_give_1 : decode cX4_give 1 = .ok (.getfield 10, 3) := by decide +kernel
theorem dX4_give_4 : decode cX4_give 4 = .ok (.iload_n 1, 1) := by decide +kernel
theorem dX4_give_5 : decode cX4_give 5 = .ok (.invokevirtual 58, 3) := by decide +kernel
theorem dX4_give_8 : decode cX4_give 8 = .ok (.ifCond .eq 12, 3) := by decide +kernel
theorem dX4_give_11 : decode cX4_give 11 = .ok (.aload_n 0, 1) := by decide +kernel
theorem dX4_give_12 : decode cX4_give 12 = .ok (.iload_n 1, 1) := by decide +kernel
theorem dX4_give_13 : decode cX4_give 13 = .ok (.lload_n 2, 1) := by decide +kernel
theorem dX4_give_14 : decode cX4_give 14 = .ok (.invokevirtual 66, 3) := by decide +kernel
theorem dX4_give_17 : decode cX4_give 17 = .ok (.ifCond .ne 5, 3) := by decide +kernel
theorem dX4_give_20 : decode cX4_give 20 = .ok (.iconst 0, 1) := by decide +kernel
theorem dX4_give_21 : decode cX4_give 21 = .ok (.ireturn, 1) := by decide +kernel
theorem dX4_give_22 : decode cX4_give 22 = .ok (.aload_n 0, 1) := by decide +kernel
theorem dX4_give_23 : decode cX4_give 23 = .ok (.getfield 33, 3) := by decide +kernel
theorem dX4_give_26 : decode cX4_give 26 = .ok (.invokevirtual 51, 3) := by decide +kernel
theorem dX4_give_29 : decode cX4_give 29 = .ok (.iconst 1, 1) := by decide +kernel
theorem dX4_give_30 : decode cX4_give 30 = .ok (.ireturn, 1) := by decide +kernel
set_option maxRecDepth 20000 in
theorem ggX4_equal_X1_has : GoodIn wsX4_equal wsX1_has := goodIn_r _ [7, 8, 149, 150, 151, 152, 153, 154, 155] (by decide +kernel) (by decide +kernel)
set_option maxRecDepth 20000 in
theorem gX4_equal_X1_has : GoodIn wsX4_equal (wsV RX4 58 RX1 yX1_has wsX1_has) := goodIn_app (goodIn_of _ (by decide +kernel)) ggX4_equal_X1_has
set_option maxRecDepth 20000 in
theorem ggX4_equal_X4_agree : GoodIn wsX4_equal wsX4_agree := goodIn_r _ [13, 1, 14, 15, 16, 6, 17, 18, 19, 20, 21, 22, 23, 24, 25, 26, 27, 12, 28, 29, 30, 31, 32, 33, 34, 35, 36, 37, 38, 39, 40, 41, 42, 43, 44, 45, 46, 47, 48, 49, 50, 51, 52, 53, 54, 55, 56, 57, 58, 59, 60, 61, 62, 63, 64, 65, 66, 67, 68, 69, 70, 71, 72, 73, 74, 75, 76, 77, 78, 79, 80, 81, 82, 83, 84, 85, 86, 87, 88, 89, 90, 91, 92, 93, 94, 95, 96, 97, 98, 99, 100, 101, 102, 103, 104, 105, 106, 107, 108, 109, 110, 111, 112, 113, 114, 115, 116, 117, 118, 119, 120, 121, 122, 123, 124, 142, 143, 144, 145, 146, 147, 148, 149, 150, 151, 152, 153, 154, 155, 156, 157, 158, 159, 160, 161, 162] (by decide +kernel) (by decide +kernel)
set_option maxRecDepth 20000 in
theorem gX4_equal_X4_agree : GoodIn wsX4_equal (wsV RX4 70 RX4 yX4_agree wsX4_agree) := goodIn_app (goodIn_of _ (by decide +kernel)) ggX4_equal_X4_agree
set_option maxRecDepth 20000 in
theorem ggX4_equal_X1_join : GoodIn wsX4_equal wsX1_join := goodIn_r _ [128, 19, 129, 130, 118, 131, 132, 133, 134, 8, 149, 150, 151, 152, 153, 154, 155] (by decide +kernel) (by decide +kernel)
set_option maxRecDepth 20000 in
theorem gX4_equal_X1_join : GoodIn wsX4_equal (wsV RX4 74 RX1 yX1_join wsX1_join) := goodIn_app (goodIn_of _ (by decide +kernel)) ggX4_equal_X1_join
set_option maxRecDepth 20000 in
theorem ggX4_equal_X3_endWays : GoodIn wsX4_equal wsX3_endWays := goodIn_r _ [139, 140, 141, 163, 164, 165, 166, 167, 168] (by decide +kernel) (by decide +kernel)
set_option maxRecDepth 20000 in
theorem gX4_equal_X3_endWays : GoodIn wsX4_equal (wsV RX4 51 RX3 yX3_endWays wsX3_endWays) := goodIn_app (goodIn_of _ (by decide +kernel)) ggX4_equal_X3_endWays
theorem dX4_equal_0 : decode cX4_equal 0 = .ok (.aload_n 0, 1) := by decide +kernel
theorem dX4_equal_1 : decode cX4_equal 1 = .ok (.getfield 10, 3) := by decide +kernel
theorem dX4_equal_4 : decode cX4_equal 4 = .ok (.iload_n 1, 1) := by decide +kernel
theorem dX4_equal_5 : decode cX4_equal 5 = .ok (.invokevirtual 58, 3) := by decide +kernel
theorem dX4_equal_8 : decode cX4_equal 8 = .ok (.ifCond .eq 23, 3) := by decide +kernel
theorem dX4_equal_11 : decode cX4_equal 11 = .ok (.aload_n 0, 1) := by decide +kernel
theorem dX4_equal_12 : decode cX4_equal 12 = .ok (.getfield 10, 3) := by decide +kernel
theorem dX4_equal_15 : decode cX4_equal 15 = .ok (.iload_n 2, 1) := by decide +kernel
theorem dX4_equal_16 : decode cX4_equal 16 = .ok (.invokevirtual 58, 3) := by decide +kernel
theorem dX4_equal_19 : decode cX4_equal 19 = .ok (.ifCond .eq 12, 3) := by decide +kernel
theorem dX4_equal_22 : decode cX4_equal 22 = .ok (.aload_n 0, 1) := by decide +kernel
theorem dX4_equal_23 : decode cX4_equal 23 = .ok (.iload_n 1, 1) := by decide +kernel
theorem dX4_equal_24 : decode cX4_equal 24 = .ok (.iload_n 2, 1) := by decide +kernel
theorem dX4_equal_25 : decode cX4_equal 25 = .ok (.invokevirtual 70, 3) := by decide +kernel
theorem dX4_equal_28 : decode cX4_equal 28 = .ok (.ifCond .ne 5, 3) := by decide +kernel
theorem dX4_equal_31 : decode cX4_equal 31 = .ok (.iconst 0, 1) := by decide +kernel
theorem dX4_equal_32 : decode cX4_equal 32 = .ok (.ireturn, 1) := by decide +kernel
theorem dX4_equal_33 : decode cX4_equal 33 = .ok (.aload_n 0, 1) := by decide +kernel
theorem dX4_equal_34 : decode cX4_equal 34 = .ok (.getfield 10, 3) := by decide +kernel
theorem dX4_equal_37 : decode cX4_equal 37 = .ok (.iload_n 1, 1) := by decide +kernel
theorem dX4_equal_38 : decode cX4_equal 38 = .ok (.iload_n 2, 1) := by decide +kernel
theorem dX4_equal_39 : decode cX4_equal 39 = .ok (.invokevirtual 74, 3) := by decide +kernel
theorem dX4_equal_42 : decode cX4_equal 42 = .ok (.aload_n 0, 1) := by decide +kernel
theorem dX4_equal_43 : decode cX4_equal 43 = .ok (.getfield 33, 3) := by decide +kernel
theorem dX4_equal_46 : decode cX4_equal 46 = .ok (.invokevirtual 51, 3) := by decide +kernel
theorem dX4_equal_49 : decode cX4_equal 49 = .ok (.iconst 1, 1) := by decide +kernel
theorem dX4_equal_50 : decode cX4_equal 50 = .ok (.ireturn, 1) := by decide +kernel
set_option maxRecDepth 20000 in
theorem ggX4_put_X1_has : GoodIn wsX4_put wsX1_has := goodIn_r _ [8, 9, 28, 29, 30, 31, 32, 33, 34] (by decide +kernel) (by decide +kernel)
set_option maxRecDepth 20000 in
theorem gX4_put_X1_has : GoodIn wsX4_put (wsV RX4 58 RX1 yX1_has wsX1_has) := goodIn_app (goodIn_of _ (by decide +kernel)) ggX4_put_X1_has
set_option maxRecDepth 20000 in
theorem ggX4_put_X2_append : GoodIn wsX4_put wsX2_append := goodIn_r _ [14, 15, 16, 17, 25, 26, 27] (by decide +kernel) (by decide +kernel)
set_option maxRecDepth 20000 in
theorem gX4_put_X2_append : GoodIn wsX4_put (wsV RX4 81 RX2 yX2_append wsX2_append) := goodIn_app (goodIn_of _ (by decide +kernel)) ggX4_put_X2_append
theorem dX4_put_0 : decode cX4_put 0 = .ok (.aload_n 0, 1) := by decide +kernel
theorem dX4_put_1 : decode cX4_put 1 = .ok (.getfield 10, 3) := by decide +kernel
theorem dX4_put_4 : decode cX4_put 4 = .ok (.iload_n 1, 1) := by decide +kernel
theorem dX4_put_5 : decode cX4_put 5 = .ok (.invokevirtual 58, 3) := by decide +kernel
theorem dX4_put_8 : decode cX4_put 8 = .ok (.ifCond .eq 15, 3) := by decide +kernel
theorem dX4_put_11 : decode cX4_put 11 = .ok (.aload_n 0, 1) := by decide +kernel
theorem dX4_put_12 : decode cX4_put 12 = .ok (.getfield 19, 3) := by decide +kernel
theorem dX4_put_15 : decode cX4_put 15 = .ok (.getfield 78, 3) := by decide +kernel
theorem dX4_put_18 : decode cX4_put 18 = .ok (.bipush 32, 2) := by decide +kernel
theorem dX4_put_20 : decode cX4_put 20 = .ok (.if_icmp .lt 5, 3) := by decide +kernel
theorem dX4_put_23 : decode cX4_put 23 = .ok (.iconst (-1), 1) := by decide +kernel
theorem dX4_put_24 : decode cX4_put 24 = .ok (.ireturn, 1) := by decide +kernel
theorem dX4_put_25 : decode cX4_put 25 = .ok (.aload_n 0, 1) := by decide +kernel
theorem dX4_put_26 : decode cX4_put 26 = .ok (.getfield 19, 3) := by decide +kernel
theorem dX4_put_29 : decode cX4_put 29 = .ok (.iload_n 1, 1) := by decide +kernel
theorem dX4_put_30 : decode cX4_put 30 = .ok (.lload_n 2, 1) := by decide +kernel
theorem dX4_put_31 : decode cX4_put 31 = .ok (.invokevirtual 81, 3) := by decide +kernel
theorem dX4_put_34 : decode cX4_put 34 = .ok (.aload_n 0, 1) := by decide +kernel
theorem dX4_put_35 : decode cX4_put 35 = .ok (.getfield 19, 3) := by decide +kernel
theorem dX4_put_38 : decode cX4_put 38 = .ok (.getfield 78, 3) := by decide +kernel
theorem dX4_put_41 : decode cX4_put 41 = .ok (.ireturn, 1) := by decide +kernel
set_option maxRecDepth 20000 in
theorem ggX4_keep_X3_endWays : GoodIn wsX4_keep wsX3_endWays := goodIn_r _ [8, 9, 10, 148, 149, 150, 151, 152, 153] (by decide +kernel) (by decide +kernel)
set_option maxRecDepth 20000 in
theorem gX4_keep_X3_endWays : GoodIn wsX4_keep (wsV RX4 51 RX3 yX3_endWays wsX3_endWays) := goodIn_app (goodIn_of _ (by decide +kernel)) ggX4_keep_X3_endWays
set_option maxRecDepth 20000 in
theorem ggX4_keep_X4_keepRow : GoodIn wsX4_keep wsX4_keepRow := goodIn_r _ [15, 16, 17, 18, 19, 2, 20, 21, 22, 23, 24, 25, 26, 27, 28, 29, 30, 31, 32, 33, 34, 35, 36, 37, 38, 39, 40, 41, 42, 43, 44, 45, 46, 47, 48, 49, 50, 51, 52, 53, 54, 55, 56, 57, 58, 59, 60, 61, 62, 63, 64, 65, 66, 67, 68, 69, 70, 71, 72, 73, 74, 75, 76, 77, 78, 79, 80, 81, 82, 83, 84, 85, 86, 87, 88, 89, 90, 91, 92, 93, 94, 95, 96, 97, 98, 99, 100, 101, 102, 103, 104, 105, 106, 107, 108, 109, 110, 111, 112, 113, 114, 115, 116, 117, 118, 119, 120, 121, 122, 123, 124, 125, 126, 127, 128, 129, 130, 131, 132, 133, 134, 135, 136, 137, 138, 139, 140, 141, 142, 143, 144, 154, 155, 156, 157, 158, 159, 160, 145, 146, 147, 161, 162, 163, 164, 165, 166, 167] (by decide +kernel) (by decide +kernel)
set_option maxRecDepth 20000 in
theorem gX4_keep_X4_keepRow : GoodIn wsX4_keep (wsV RX4 85 RX4 yX4_keepRow wsX4_keepRow) := goodIn_app (goodIn_of _ (by decide +kernel)) ggX4_keep_X4_keepRow
theorem dX4_keep_0 : decode cX4_keep 0 = .ok (.aload_n 0, 1) := by decide +kernel
theorem dX4_keep_1 : decode cX4_keep 1 = .ok (.getfield 33, 3) := by decide +kernel
theorem dX4_keep_4 : decode cX4_keep 4 = .ok (.invokevirtual 51, 3) := by decide +kernel
theorem dX4_keep_7 : decode cX4_keep 7 = .ok (.aload_n 0, 1) := by decide +kernel
theorem dX4_keep_8 : decode cX4_keep 8 = .ok (.iload_n 1, 1) := by decide +kernel
theorem dX4_keep_9 : decode cX4_keep 9 = .ok (.lload_n 2, 1) := by decide +kernel
theorem dX4_keep_10 : decode cX4_keep 10 = .ok (.invokevirtual 85, 3) := by decide +kernel
theorem dX4_keep_13 : decode cX4_keep 13 = .ok (.istore 4, 2) := by decide +kernel
theorem dX4_keep_15 : decode cX4_keep 15 = .ok (.aload_n 0, 1) := by decide +kernel
theorem dX4_keep_16 : decode cX4_keep 16 = .ok (.getfield 19, 3) := by decide +kernel
theorem dX4_keep_19 : decode cX4_keep 19 = .ok (.iconst 0, 1) := by decide +kernel
theorem dX4_keep_20 : decode cX4_keep 20 = .ok (.putfield 78, 3) := by decide +kernel
theorem dX4_keep_23 : decode cX4_keep 23 = .ok (.iload 4, 2) := by decide +kernel
theorem dX4_keep_25 : decode cX4_keep 25 = .ok (.ireturn, 1) := by decide +kernel
set_option maxRecDepth 20000 in
theorem ggX4_label_X3_run : GoodIn wsX4_label wsX3_run := goodIn_r _ [10, 11, 12, 13, 14, 15, 9, 16, 17, 18, 19, 20, 21, 22, 23, 24, 25, 26, 27, 28, 29, 30, 31, 32, 33, 34, 35, 36, 37, 38, 39, 40, 41, 42, 43, 44, 45, 46, 47, 48, 49, 50, 51, 52, 53, 54, 55, 56, 57, 58, 59, 60, 61, 62, 63, 64, 65, 66, 67, 68, 69, 70, 71, 72, 73, 74, 75, 76, 77, 78, 79, 80, 81, 82, 83, 84, 85, 86, 87, 88, 89, 90, 91, 92, 93, 94, 95, 96, 97, 98, 99, 100, 101, 102, 103, 104, 105, 106, 107, 108, 109, 110, 111, 112, 113, 114, 115, 116, 117, 118, 119, 120, 121, 122, 123, 124, 125, 126, 127, 128, 129, 130, 131, 132, 133, 134, 135, 136, 137, 138, 139, 140, 141, 142, 143, 144, 145, 156, 157, 158, 159, 160, 161, 153, 154, 155, 162, 163, 164, 165, 166, 167, 168, 169, 170, 171, 172, 173, 174, 175] (by decide +kernel) (by decide +kernel)
set_option maxRecDepth 20000 in
theorem gX4_label_X3_run : GoodIn wsX4_label (wsV RX4 89 RX3 yX3_run wsX3_run) := goodIn_app (goodIn_of _ (by decide +kernel)) ggX4_label_X3_run
theorem dX4_label_0 : decode cX4_label 0 = .ok (.aload_n 0, 1) := by decide +kernel
theorem dX4_label_1 : decode cX4_label 1 = .ok (.getfield 33, 3) := by decide +kernel
theorem dX4_label_4 : decode cX4_label 4 = .ok (.aload_n 0, 1) := by decide +kernel
theorem dX4_label_5 : decode cX4_label 5 = .ok (.getfield 19, 3) := by decide +kernel
theorem dX4_label_8 : decode cX4_label 8 = .ok (.aload_n 0, 1) := by decide +kernel
theorem dX4_label_9 : decode cX4_label 9 = .ok (.getfield 10, 3) := by decide +kernel
theorem dX4_label_12 : decode cX4_label 12 = .ok (.aload_n 0, 1) := by decide +kernel
theorem dX4_label_13 : decode cX4_label 13 = .ok (.getfield 26, 3) := by decide +kernel
theorem dX4_label_16 : decode cX4_label 16 = .ok (.invokevirtual 89, 3) := by decide +kernel
theorem dX4_label_19 : decode cX4_label 19 = .ok (.istore_n 1, 1) := by decide +kernel
theorem dX4_label_20 : decode cX4_label 20 = .ok (.aload_n 0, 1) := by decide +kernel
theorem dX4_label_21 : decode cX4_label 21 = .ok (.getfield 19, 3) := by decide +kernel
theorem dX4_label_24 : decode cX4_label 24 = .ok (.iconst 0, 1) := by decide +kernel
theorem dX4_label_25 : decode cX4_label 25 = .ok (.putfield 78, 3) := by decide +kernel
theorem dX4_label_28 : decode cX4_label 28 = .ok (.iload_n 1, 1) := by decide +kernel
theorem dX4_label_29 : decode cX4_label 29 = .ok (.ireturn, 1) := by decide +kernel
set_option maxRecDepth 20000 in
theorem ggX4_way_X3_hasWay : GoodIn wsX4_way wsX3_hasWay := goodIn_r _ [7, 8, 21, 22, 23, 24, 25, 26] (by decide +kernel) (by decide +kernel)
set_option maxRecDepth 20000 in
theorem gX4_way_X3_hasWay : GoodIn wsX4_way (wsV RX4 93 RX3 yX3_hasWay wsX3_hasWay) := goodIn_app (goodIn_of _ (by decide +kernel)) ggX4_way_X3_hasWay
set_option maxRecDepth 20000 in
theorem ggX4_way_X3_numberIn : GoodIn wsX4_way wsX3_numberIn := goodIn_r _ [12, 13, 21, 22, 23, 24, 25, 26] (by decide +kernel) (by decide +kernel)
set_option maxRecDepth 20000 in
theorem gX4_way_X3_numberIn : GoodIn wsX4_way (wsV RX4 99 RX3 yX3_numberIn wsX3_numberIn) := goodIn_app (goodIn_of _ (by decide +kernel)) ggX4_way_X3_numberIn
theorem dX4_way_0 : decode cX4_way 0 = .ok (.aload_n 0, 1) := by decide +kernel
theorem dX4_way_1 : decode cX4_way 1 = .ok (.getfield 33, 3) := by decide +kernel
theorem dX4_way_4 : decode cX4_way 4 = .ok (.iload_n 1, 1) := by decide +kernel
theorem dX4_way_5 : decode cX4_way 5 = .ok (.invokevirtual 93, 3) := by decide +kernel
theorem dX4_way_8 : decode cX4_way 8 = .ok (.ifCond .eq 18, 3) := by decide +kernel
theorem dX4_way_11 : decode cX4_way 11 = .ok (.iload_n 2, 1) := by decide +kernel
theorem dX4_way_12 : decode cX4_way 12 = .ok (.ifCond .lt 14, 3) := by decide +kernel
theorem dX4_way_15 : decode cX4_way 15 = .ok (.iload_n 2, 1) := by decide +kernel
theorem dX4_way_16 : decode cX4_way 16 = .ok (.aload_n 0, 1) := by decide +kernel
theorem dX4_way_17 : decode cX4_way 17 = .ok (.getfield 33, 3) := by decide +kernel
theorem dX4_way_20 : decode cX4_way 20 = .ok (.getfield 96, 3) := by decide +kernel
theorem dX4_way_23 : decode cX4_way 23 = .ok (.if_icmp .lt 5, 3) := by decide +kernel
theorem dX4_way_26 : decode cX4_way 26 = .ok (.lconst 0, 1) := by decide +kernel
theorem dX4_way_27 : decode cX4_way 27 = .ok (.lreturn, 1) := by decide +kernel
theorem dX4_way_28 : decode cX4_way 28 = .ok (.aload_n 0, 1) := by decide +kernel
theorem dX4_way_29 : decode cX4_way 29 = .ok (.getfield 33, 3) := by decide +kernel
theorem dX4_way_32 : decode cX4_way 32 = .ok (.iload_n 1, 1) := by decide +kernel
theorem dX4_way_33 : decode cX4_way 33 = .ok (.iload_n 2, 1) := by decide +kernel
theorem dX4_way_34 : decode cX4_way 34 = .ok (.invokevirtual 99, 3) := by decide +kernel
theorem dX4_way_37 : decode cX4_way 37 = .ok (.lreturn, 1) := by decide +kernel
set_option maxRecDepth 20000 in
theorem ggX4_take_X3_hasWay : GoodIn wsX4_take wsX3_hasWay := goodIn_r _ [9, 10, 36, 37, 38, 39, 40, 41] (by decide +kernel) (by decide +kernel)
set_option maxRecDepth 20000 in
theorem gX4_take_X3_hasWay : GoodIn wsX4_take (wsV RX4 93 RX3 yX3_hasWay wsX3_hasWay) := goodIn_app (goodIn_of _ (by decide +kernel)) ggX4_take_X3_hasWay
set_option maxRecDepth 20000 in
theorem ggX4_take_X3_numberIn : GoodIn wsX4_take wsX3_numberIn := goodIn_r _ [14, 15, 36, 37, 38, 39, 40, 41] (by decide +kernel) (by decide +kernel)
set_option maxRecDepth 20000 in
theorem gX4_take_X3_numberIn : GoodIn wsX4_take (wsV RX4 99 RX3 yX3_numberIn wsX3_numberIn) := goodIn_app (goodIn_of _ (by decide +kernel)) ggX4_take_X3_numberIn
set_option maxRecDepth 20000 in
theorem ggX4_take_X1_setNumber : GoodIn wsX4_take wsX1_setNumber := goodIn_r _ [20, 21, 22, 23, 42, 43, 44, 45, 46, 47, 48] (by decide +kernel) (by decide +kernel)
set_option maxRecDepth 20000 in
theorem gX4_take_X1_setNumber : GoodIn wsX4_take (wsV RX4 106 RX1 yX1_setNumber wsX1_setNumber) := goodIn_app (goodIn_of _ (by decide +kernel)) ggX4_take_X1_setNumber
set_option maxRecDepth 20000 in
theorem ggX4_take_X3_endWays : GoodIn wsX4_take wsX3_endWays := goodIn_r _ [27, 28, 10, 36, 37, 38, 39, 40, 41] (by decide +kernel) (by decide +kernel)
set_option maxRecDepth 20000 in
theorem gX4_take_X3_endWays : GoodIn wsX4_take (wsV RX4 51 RX3 yX3_endWays wsX3_endWays) := goodIn_app (goodIn_of _ (by decide +kernel)) ggX4_take_X3_endWays
theorem dX4_take_0 : decode cX4_take 0 = .ok (.aload_n 0, 1) := by decide +kernel
theorem dX4_take_1 : decode cX4_take 1 = .ok (.getfield 33, 3) := by decide +kernel
theorem dX4_take_4 : decode cX4_take 4 = .ok (.iload_n 1, 1) := by decide +kernel
theorem dX4_take_5 : decode cX4_take 5 = .ok (.invokevirtual 93, 3) := by decide +kernel
theorem dX4_take_8 : decode cX4_take 8 = .ok (.ifCond .ne 5, 3) := by decide +kernel
theorem dX4_take_11 : decode cX4_take 11 = .ok (.iconst 0, 1) := by decide +kernel
theorem dX4_take_12 : decode cX4_take 12 = .ok (.ireturn, 1) := by decide +kernel
theorem dX4_take_13 : decode cX4_take 13 = .ok (.iconst 0, 1) := by decide +kernel
theorem dX4_take_14 : decode cX4_take 14 = .ok (.istore_n 2, 1) := by decide +kernel
theorem dX4_take_15 : decode cX4_take 15 = .ok (.iload_n 2, 1) := by decide +kernel
theorem dX4_take_16 : decode cX4_take 16 = .ok (.aload_n 0, 1) := by decide +kernel
theorem dX4_take_17 : decode cX4_take 17 = .ok (.getfield 33, 3) := by decide +kernel
theorem dX4_take_20 : decode cX4_take 20 = .ok (.getfield 96, 3) := by decide +kernel
theorem dX4_take_23 : decode cX4_take 23 = .ok (.if_icmp .ge 34, 3) := by decide +kernel
theorem dX4_take_26 : decode cX4_take 26 = .ok (.aload_n 0, 1) := by decide +kernel
theorem dX4_take_27 : decode cX4_take 27 = .ok (.getfield 10, 3) := by decide +kernel
theorem dX4_take_30 : decode cX4_take 30 = .ok (.aload_n 0, 1) := by decide +kernel
theorem dX4_take_31 : decode cX4_take 31 = .ok (.getfield 33, 3) := by decide +kernel
theorem dX4_take_34 : decode cX4_take 34 = .ok (.getfield 103, 3) := by decide +kernel
theorem dX4_take_37 : decode cX4_take 37 = .ok (.iload_n 2, 1) := by decide +kernel
theorem dX4_take_38 : decode cX4_take 38 = .ok (.iaload, 1) := by decide +kernel
theorem dX4_take_39 : decode cX4_take 39 = .ok (.aload_n 0, 1) := by decide +kernel
theorem dX4_take_40 : decode cX4_take 40 = .ok (.getfield 33, 3) := by decide +kernel
theorem dX4_take_43 : decode cX4_take 43 = .ok (.iload_n 1, 1) := by decide +kernel
theorem dX4_take_44 : decode cX4_take 44 = .ok (.iload_n 2, 1) := by decide +kernel
theorem dX4_take_45 : decode cX4_take 45 = .ok (.invokevirtual 99, 3) := by decide +kernel
theorem dX4_take_48 : decode cX4_take 48 = .ok (.invokevirtual 106, 3) := by decide +kernel
theorem dX4_take_51 : decode cX4_take 51 = .ok (.iinc 2 1, 3) := by decide +kernel
theorem dX4_take_54 : decode cX4_take 54 = .ok (.goto (-39), 3) := by decide +kernel
theorem dX4_take_57 : decode cX4_take 57 = .ok (.aload_n 0, 1) := by decide +kernel
theorem dX4_take_58 : decode cX4_take 58 = .ok (.getfield 33, 3) := by decide +kernel
theorem dX4_take_61 : decode cX4_take 61 = .ok (.invokevirtual 51, 3) := by decide +kernel
theorem dX4_take_64 : decode cX4_take 64 = .ok (.iconst 1, 1) := by decide +kernel
theorem dX4_take_65 : decode cX4_take 65 = .ok (.ireturn, 1) := by decide +kernel
set_option maxRecDepth 20000 in
theorem ggX4_mark_Jx4a65c_size_8abf5 : GoodIn wsX4_mark wsJx4a65c_size_8abf5 := goodIn_r _ [14, 15, 119, 120, 121] (by decide +kernel) (by decide +kernel)
set_option maxRecDepth 20000 in
theorem gX4_mark_Jx4a65c_size_8abf5 : GoodIn wsX4_mark (wsV RX4 109 RJx4a65c yJx4a65c_size_8abf5 wsJx4a65c_size_8abf5) := goodIn_app (goodIn_of _ (by decide +kernel)) ggX4_mark_Jx4a65c_size_8abf5
set_option maxRecDepth 20000 in
theorem ggX4_mark_X1_init : GoodIn wsX4_mark wsX1_init := goodIn_r _ [17, 18, 19, 20, 21, 22, 23, 24, 25, 26, 27, 28, 29, 112, 113, 114, 115, 116, 117, 118] (by decide +kernel) (by decide +kernel)
set_option maxRecDepth 20000 in
theorem gX4_mark_X1_init_n9 : GoodIn wsX4_mark (wsX1_init) := ggX4_mark_X1_init
set_option maxRecDepth 20000 in
theorem ggX4_mark_Jx4a65c_add_9ea2d : GoodIn wsX4_mark wsJx4a65c_add_9ea2d := goodIn_r _ [33, 34, 35, 36, 15, 37, 38, 39, 13, 40, 41, 42, 43, 44, 45, 46, 47, 48, 49, 50, 51, 52, 53, 54, 55, 56, 57, 58, 59, 60, 61, 62, 63, 64, 65, 66, 67, 68, 69, 70, 71, 72, 73, 74, 75, 76, 77, 78, 79, 80, 81, 82, 83, 119, 120, 121] (by decide +kernel) (by decide +kernel)
set_option maxRecDepth 20000 in
theorem gX4_mark_Jx4a65c_add_9ea2d : GoodIn wsX4_mark (wsV RX4 111 RJx4a65c yJx4a65c_add_9ea2d wsJx4a65c_add_9ea2d) := goodIn_app (goodIn_of _ (by decide +kernel)) ggX4_mark_Jx4a65c_add_9ea2d
set_option maxRecDepth 20000 in
theorem ggX4_mark_Jx4a65c_get_915e3 : GoodIn wsX4_mark wsJx4a65c_get_915e3 := goodIn_r _ [87, 15, 88, 89, 90, 91, 92, 93, 94, 95, 96, 97, 98, 13, 99, 36, 119, 120, 121] (by decide +kernel) (by decide +kernel)
set_option maxRecDepth 20000 in
theorem gX4_mark_Jx4a65c_get_915e3 : GoodIn wsX4_mark (wsV RX4 115 RJx4a65c yJx4a65c_get_915e3 wsJx4a65c_get_915e3) := goodIn_app (goodIn_of _ (by decide +kernel)) ggX4_mark_Jx4a65c_get_915e3
set_option maxRecDepth 20000 in
theorem ggX4_mark_X1_copyFrom : GoodIn wsX4_mark wsX1_copyFrom := goodIn_r _ [103, 104, 22, 24, 26, 27, 28, 29, 112, 113, 114, 115, 116, 117, 118] (by decide +kernel) (by decide +kernel)
set_option maxRecDepth 20000 in
theorem gX4_mark_X1_copyFrom : GoodIn wsX4_mark (wsV RX4 119 RX1 yX1_copyFrom wsX1_copyFrom) := goodIn_app (goodIn_of _ (by decide +kernel)) ggX4_mark_X1_copyFrom
theorem dX4_mark_0 : decode cX4_mark 0 = .ok (.aload_n 0, 1) := by decide +kernel
theorem dX4_mark_1 : decode cX4_mark 1 = .ok (.getfield 44, 3) := by decide +kernel
theorem dX4_mark_4 : decode cX4_mark 4 = .ok (.bipush 40, 2) := by decide +kernel
theorem dX4_mark_6 : decode cX4_mark 6 = .ok (.if_icmp .lt 5, 3) := by decide +kernel
theorem dX4_mark_9 : decode cX4_mark 9 = .ok (.iconst (-1), 1) := by decide +kernel
theorem dX4_mark_10 : decode cX4_mark 10 = .ok (.ireturn, 1) := by decide +kernel
theorem dX4_mark_11 : decode cX4_mark 11 = .ok (.aload_n 0, 1) := by decide +kernel
theorem dX4_mark_12 : decode cX4_mark 12 = .ok (.getfield 44, 3) := by decide +kernel
theorem dX4_mark_15 : decode cX4_mark 15 = .ok (.aload_n 0, 1) := by decide +kernel
theorem dX4_mark_16 : decode cX4_mark 16 = .ok (.getfield 37, 3) := by decide +kernel
theorem dX4_mark_19 : decode cX4_mark 19 = .ok (.invokevirtual 109, 3) := by decide +kernel
theorem dX4_mark_22 : decode cX4_mark 22 = .ok (.if_icmp .lt 18, 3) := by decide +kernel
theorem dX4_mark_25 : decode cX4_mark 25 = .ok (.aload_n 0, 1) := by decide +kernel
theorem dX4_mark_26 : decode cX4_mark 26 = .ok (.getfield 37, 3) := by decide +kernel
theorem dX4_mark_29 : decode cX4_mark 29 = .ok (.new 7, 3) := by decide +kernel
theorem dX4_mark_32 : decode cX4_mark 32 = .ok (.dup, 1) := by decide +kernel
theorem dX4_mark_33 : decode cX4_mark 33 = .ok (.invokespecial 9, 3) := by decide +kernel
theorem dX4_mark_36 : decode cX4_mark 36 = .ok (.invokevirtual 111, 3) := by decide +kernel
theorem dX4_mark_39 : decode cX4_mark 39 = .ok (.pop, 1) := by decide +kernel
theorem dX4_mark_40 : decode cX4_mark 40 = .ok (.aload_n 0, 1) := by decide +kernel
theorem dX4_mark_41 : decode cX4_mark 41 = .ok (.getfield 37, 3) := by decide +kernel
theorem dX4_mark_44 : decode cX4_mark 44 = .ok (.aload_n 0, 1) := by decide +kernel
theorem dX4_mark_45 : decode cX4_mark 45 = .ok (.getfield 44, 3) := by decide +kernel
theorem dX4_mark_48 : decode cX4_mark 48 = .ok (.invokevirtual 115, 3) := by decide +kernel
theorem dX4_mark_51 : decode cX4_mark 51 = .ok (.checkcast 7, 3) := by decide +kernel
theorem dX4_mark_54 : decode cX4_mark 54 = .ok (.aload_n 0, 1) := by decide +kernel
theorem dX4_mark_55 : decode cX4_mark 55 = .ok (.getfield 10, 3) := by decide +kernel
theorem dX4_mark_58 : decode cX4_mark 58 = .ok (.invokevirtual 119, 3) := by decide +kernel
theorem dX4_mark_61 : decode cX4_mark 61 = .ok (.aload_n 0, 1) := by decide +kernel
theorem dX4_mark_62 : decode cX4_mark 62 = .ok (.getfield 40, 3) := by decide +kernel
theorem dX4_mark_65 : decode cX4_mark 65 = .ok (.aload_n 0, 1) := by decide +kernel
theorem dX4_mark_66 : decode cX4_mark 66 = .ok (.getfield 44, 3) := by decide +kernel
theorem dX4_mark_69 : decode cX4_mark 69 = .ok (.aload_n 0, 1) := by decide +kernel
theorem dX4_mark_70 : decode cX4_mark 70 = .ok (.getfield 26, 3) := by decide +kernel
theorem dX4_mark_73 : decode cX4_mark 73 = .ok (.invokevirtual 109, 3) := by decide +kernel
theorem dX4_mark_76 : decode cX4_mark 76 = .ok (.iastore, 1) := by decide +kernel
theorem dX4_mark_77 : decode cX4_mark 77 = .ok (.aload_n 0, 1) := by decide +kernel
theorem dX4_mark_78 : decode cX4_mark 78 = .ok (.dup, 1) := by decide +kernel
theorem dX4_mark_79 : decode cX4_mark 79 = .ok (.getfield 44, 3) := by decide +kernel
theorem dX4_mark_82 : decode cX4_mark 82 = .ok (.iconst 1, 1) := by decide +kernel
theorem dX4_mark_83 : decode cX4_mark 83 = .ok (.iadd, 1) := by decide +kernel
theorem dX4_mark_84 : decode cX4_mark 84 = .ok (.putfield 44, 3) := by decide +kernel
theorem dX4_mark_87 : decode cX4_mark 87 = .ok (.aload_n 0, 1) := by decide +kernel
theorem dX4_mark_88 : decode cX4_mark 88 = .ok (.getfield 44, 3) := by decide +kernel
theorem dX4_mark_91 : decode cX4_mark 91 = .ok (.ireturn, 1) := by decide +kernel
set_option maxRecDepth 20000 in
theorem ggX4_back_Jx4a65c_size_8abf5 : GoodIn wsX4_back wsJx4a65c_size_8abf5 := goodIn_r _ [13, 14, 83, 84, 85] (by decide +kernel) (by decide +kernel)
set_option maxRecDepth 20000 in
theorem gX4_back_Jx4a65c_size_8abf5 : GoodIn wsX4_back (wsV RX4 109 RJx4a65c yJx4a65c_size_8abf5 wsJx4a65c_size_8abf5) := goodIn_app (goodIn_of _ (by decide +kernel)) ggX4_back_Jx4a65c_size_8abf5
set_option maxRecDepth 20000 in
theorem ggX4_back_Jx4a65c_get_915e3 : GoodIn wsX4_back wsJx4a65c_get_915e3 := goodIn_r _ [18, 14, 19, 20, 21, 22, 23, 24, 25, 26, 27, 28, 29, 12, 30, 31, 83, 84, 85] (by decide +kernel) (by decide +kernel)
set_option maxRecDepth 20000 in
theorem gX4_back_Jx4a65c_get_915e3 : GoodIn wsX4_back (wsV RX4 115 RJx4a65c yJx4a65c_get_915e3 wsJx4a65c_get_915e3) := goodIn_app (goodIn_of _ (by decide +kernel)) ggX4_back_Jx4a65c_get_915e3
set_option maxRecDepth 20000 in
theorem ggX4_back_X1_copyFrom : GoodIn wsX4_back wsX1_copyFrom := goodIn_r _ [36, 37, 38, 39, 40, 41, 42, 43, 86, 87, 88, 89, 90, 91, 92] (by decide +kernel) (by decide +kernel)
set_option maxRecDepth 20000 in
theorem gX4_back_X1_copyFrom : GoodIn wsX4_back (wsV RX4 119 RX1 yX1_copyFrom wsX1_copyFrom) := goodIn_app (goodIn_of _ (by decide +kernel)) ggX4_back_X1_copyFrom
set_option maxRecDepth 20000 in
theorem ggX4_back_Jx4a65c_remove_915e3 : GoodIn wsX4_back wsJx4a65c_remove_915e3 := goodIn_r _ [47, 14, 31, 19, 20, 21, 22, 23, 24, 25, 26, 48, 49, 50, 12, 51, 52, 53, 54, 55, 56, 57, 83, 84, 85] (by decide +kernel) (by decide +kernel)
set_option maxRecDepth 20000 in
theorem gX4_back_Jx4a65c_remove_915e3 : GoodIn wsX4_back (wsV RX4 123 RJx4a65c yJx4a65c_remove_915e3 wsJx4a65c_remove_915e3) := goodIn_app (goodIn_of _ (by decide +kernel)) ggX4_back_Jx4a65c_remove_915e3
set_option maxRecDepth 20000 in
theorem ggX4_back_X2_cutAtFirstGone : GoodIn wsX4_back wsX2_cutAtFirstGone := goodIn_r _ [62, 63, 64, 65, 66, 67, 35, 68, 37, 93, 94, 95, 86, 87, 88, 89, 90, 91, 92] (by decide +kernel) (by decide +kernel)
set_option maxRecDepth 20000 in
theorem gX4_back_X2_cutAtFirstGone : GoodIn wsX4_back (wsV RX4 126 RX2 yX2_cutAtFirstGone wsX2_cutAtFirstGone) := goodIn_app (goodIn_of _ (by decide +kernel)) ggX4_back_X2_cutAtFirstGone
set_option maxRecDepth 20000 in
theorem ggX4_back_X3_endWays : GoodIn wsX4_back wsX3_endWays := goodIn_r _ [73, 74, 75, 96, 97, 98, 99, 100, 101] (by decide +kernel) (by decide +kernel)
set_option maxRecDepth 20000 in
theorem gX4_back_X3_endWays : GoodIn wsX4_back (wsV RX4 51 RX3 yX3_endWays wsX3_endWays) := goodIn_app (goodIn_of _ (by decide +kernel)) ggX4_back_X3_endWays
theorem dX4_back_0 : decode cX4_back 0 = .ok (.aload_n 0, 1) := by decide +kernel
theorem dX4_back_1 : decode cX4_back 1 = .ok (.getfield 44, 3) := by decide +kernel
theorem dX4_back_4 : decode cX4_back 4 = .ok (.ifCond .le 17, 3) := by decide +kernel
theorem dX4_back_7 : decode cX4_back 7 = .ok (.aload_n 0, 1) := by decide +kernel
theorem dX4_back_8 : decode cX4_back 8 = .ok (.getfield 44, 3) := by decide +kernel
theorem dX4_back_11 : decode cX4_back 11 = .ok (.aload_n 0, 1) := by decide +kernel
theorem dX4_back_12 : decode cX4_back 12 = .ok (.getfield 37, 3) := by decide +kernel
theorem dX4_back_15 : decode cX4_back 15 = .ok (.invokevirtual 109, 3) := by decide +kernel
theorem dX4_back_18 : decode cX4_back 18 = .ok (.if_icmp .le 5, 3) := by decide +kernel
theorem dX4_back_21 : decode cX4_back 21 = .ok (.iconst (-1), 1) := by decide +kernel
theorem dX4_back_22 : decode cX4_back 22 = .ok (.ireturn, 1) := by decide +kernel
theorem dX4_back_23 : decode cX4_back 23 = .ok (.aload_n 0, 1) := by decide +kernel
theorem dX4_back_24 : decode cX4_back 24 = .ok (.dup, 1) := by decide +kernel
theorem dX4_back_25 : decode cX4_back 25 = .ok (.getfield 44, 3) := by decide +kernel
theorem dX4_back_28 : decode cX4_back 28 = .ok (.iconst 1, 1) := by decide +kernel
theorem dX4_back_29 : decode cX4_back 29 = .ok (.isub, 1) := by decide +kernel
theorem dX4_back_30 : decode cX4_back 30 = .ok (.putfield 44, 3) := by decide +kernel
theorem dX4_back_33 : decode cX4_back 33 = .ok (.aload_n 0, 1) := by decide +kernel
theorem dX4_back_34 : decode cX4_back 34 = .ok (.getfield 10, 3) := by decide +kernel
theorem dX4_back_37 : decode cX4_back 37 = .ok (.aload_n 0, 1) := by decide +kernel
theorem dX4_back_38 : decode cX4_back 38 = .ok (.getfield 37, 3) := by decide +kernel
theorem dX4_back_41 : decode cX4_back 41 = .ok (.aload_n 0, 1) := by decide +kernel
theorem dX4_back_42 : decode cX4_back 42 = .ok (.getfield 44, 3) := by decide +kernel
theorem dX4_back_45 : decode cX4_back 45 = .ok (.invokevirtual 115, 3) := by decide +kernel
theorem dX4_back_48 : decode cX4_back 48 = .ok (.checkcast 7, 3) := by decide +kernel
theorem dX4_back_51 : decode cX4_back 51 = .ok (.invokevirtual 119, 3) := by decide +kernel
theorem dX4_back_54 : decode cX4_back 54 = .ok (.aload_n 0, 1) := by decide +kernel
theorem dX4_back_55 : decode cX4_back 55 = .ok (.getfield 26, 3) := by decide +kernel
theorem dX4_back_58 : decode cX4_back 58 = .ok (.invokevirtual 109, 3) := by decide +kernel
theorem dX4_back_61 : decode cX4_back 61 = .ok (.iconst 1, 1) := by decide +kernel
theorem dX4_back_62 : decode cX4_back 62 = .ok (.isub, 1) := by decide +kernel
theorem dX4_back_63 : decode cX4_back 63 = .ok (.istore_n 1, 1) := by decide +kernel
theorem dX4_back_64 : decode cX4_back 64 = .ok (.iload_n 1, 1) := by decide +kernel
theorem dX4_back_65 : decode cX4_back 65 = .ok (.aload_n 0, 1) := by decide +kernel
theorem dX4_back_66 : decode cX4_back 66 = .ok (.getfield 40, 3) := by decide +kernel
theorem dX4_back_69 : decode cX4_back 69 = .ok (.aload_n 0, 1) := by decide +kernel
theorem dX4_back_70 : decode cX4_back 70 = .ok (.getfield 44, 3) := by decide +kernel
theorem dX4_back_73 : decode cX4_back 73 = .ok (.iaload, 1) := by decide +kernel
theorem dX4_back_74 : decode cX4_back 74 = .ok (.if_icmp .lt 18, 3) := by decide +kernel
theorem dX4_back_77 : decode cX4_back 77 = .ok (.aload_n 0, 1) := by decide +kernel
theorem dX4_back_78 : decode cX4_back 78 = .ok (.getfield 26, 3) := by decide +kernel
theorem dX4_back_81 : decode cX4_back 81 = .ok (.iload_n 1, 1) := by decide +kernel
theorem dX4_back_82 : decode cX4_back 82 = .ok (.invokevirtual 123, 3) := by decide +kernel
theorem dX4_back_85 : decode cX4_back 85 = .ok (.pop, 1) := by decide +kernel
theorem dX4_back_86 : decode cX4_back 86 = .ok (.iinc 1 (-1), 3) := by decide +kernel
theorem dX4_back_89 : decode cX4_back 89 = .ok (.goto (-25), 3) := by decide +kernel
theorem dX4_back_92 : decode cX4_back 92 = .ok (.aload_n 0, 1) := by decide +kernel
theorem dX4_back_93 : decode cX4_back 93 = .ok (.getfield 19, 3) := by decide +kernel
theorem dX4_back_96 : decode cX4_back 96 = .ok (.aload_n 0, 1) := by decide +kernel
theorem dX4_back_97 : decode cX4_back 97 = .ok (.getfield 10, 3) := by decide +kernel
theorem dX4_back_100 : decode cX4_back 100 = .ok (.invokevirtual 126, 3) := by decide +kernel
theorem dX4_back_103 : decode cX4_back 103 = .ok (.aload_n 0, 1) := by decide +kernel
theorem dX4_back_104 : decode cX4_back 104 = .ok (.getfield 33, 3) := by decide +kernel
theorem dX4_back_107 : decode cX4_back 107 = .ok (.invokevirtual 51, 3) := by decide +kernel
theorem dX4_back_110 : decode cX4_back 110 = .ok (.aload_n 0, 1) := by decide +kernel
theorem dX4_back_111 : decode cX4_back 111 = .ok (.getfield 44, 3) := by decide +kernel
theorem dX4_back_114 : decode cX4_back 114 = .ok (.ireturn, 1) := by decide +kernel
set_option maxRecDepth 20000 in
theorem ggX4_about_X1_has : GoodIn wsX4_about wsX1_has := goodIn_r _ [7, 8, 87, 88, 89, 90, 91, 92, 93] (by decide +kernel) (by decide +kernel)
set_option maxRecDepth 20000 in
theorem gX4_about_X1_has : GoodIn wsX4_about (wsV RX4 58 RX1 yX1_has wsX1_has) := goodIn_app (goodIn_of _ (by decide +kernel)) ggX4_about_X1_has
set_option maxRecDepth 20000 in
theorem ggX4_about_X1_freedom : GoodIn wsX4_about wsX1_freedom := goodIn_r _ [12, 13, 14, 15, 6, 16, 17, 18, 19, 20, 21, 22, 23, 87, 88, 89, 90, 91, 92, 93] (by decide +kernel) (by decide +kernel)
set_option maxRecDepth 20000 in
theorem gX4_about_X1_freedom : GoodIn wsX4_about (wsV RX4 129 RX1 yX1_freedom wsX1_freedom) := goodIn_app (goodIn_of _ (by decide +kernel)) ggX4_about_X1_freedom
set_option maxRecDepth 20000 in
theorem ggX4_about_X1_leastOf : GoodIn wsX4_about wsX1_leastOf := goodIn_r _ [27, 18, 87, 88, 89, 90, 91, 92, 93] (by decide +kernel) (by decide +kernel)
set_option maxRecDepth 20000 in
theorem gX4_about_X1_leastOf : GoodIn wsX4_about (wsV RX4 133 RX1 yX1_leastOf wsX1_leastOf) := goodIn_app (goodIn_of _ (by decide +kernel)) ggX4_about_X1_leastOf
set_option maxRecDepth 20000 in
theorem ggX4_about_X1_countOnes : GoodIn wsX4_about wsX1_countOnes := goodIn_r _ [31, 8, 18, 87, 88, 89, 90, 91, 92, 93] (by decide +kernel) (by decide +kernel)
set_option maxRecDepth 20000 in
theorem gX4_about_X1_countOnes : GoodIn wsX4_about (wsV RX4 136 RX1 yX1_countOnes wsX1_countOnes) := goodIn_app (goodIn_of _ (by decide +kernel)) ggX4_about_X1_countOnes
set_option maxRecDepth 20000 in
theorem ggX4_about_X4_countRowsWith : GoodIn wsX4_about wsX4_countRowsWith := goodIn_r _ [36, 37, 38, 1, 39, 40, 41, 42, 43, 44, 45, 46, 47, 48, 49, 50, 51, 52, 53, 54, 55, 56, 57, 58, 59, 60, 61, 62, 63, 64, 65, 66, 67, 68, 25, 26, 6, 27, 18, 80, 81, 82, 83, 84, 85, 86, 94, 95, 96, 97, 98, 99, 100, 87, 88, 89, 90, 91, 92, 93] (by decide +kernel) (by decide +kernel)
set_option maxRecDepth 20000 in
theorem gX4_about_X4_countRowsWith : GoodIn wsX4_about (wsV RX4 139 RX4 yX4_countRowsWith wsX4_countRowsWith) := goodIn_app (goodIn_of _ (by decide +kernel)) ggX4_about_X4_countRowsWith
set_option maxRecDepth 20000 in
theorem ggX4_about_X3_isFreeName : GoodIn wsX4_about wsX3_isFreeName := goodIn_r _ [73, 74, 75, 76, 72, 77, 78, 79, 101, 102, 103, 104, 105, 106] (by decide +kernel) (by decide +kernel)
set_option maxRecDepth 20000 in
theorem gX4_about_X3_isFreeName : GoodIn wsX4_about (wsV RX4 142 RX3 yX3_isFreeName wsX3_isFreeName) := goodIn_app (goodIn_of _ (by decide +kernel)) ggX4_about_X3_isFreeName
theorem dX4_about_0 : decode cX4_about 0 = .ok (.aload_n 0, 1) := by decide +kernel
theorem dX4_about_1 : decode cX4_about 1 = .ok (.getfield 10, 3) := by decide +kernel
theorem dX4_about_4 : decode cX4_about 4 = .ok (.iload_n 1, 1) := by decide +kernel
theorem dX4_about_5 : decode cX4_about 5 = .ok (.invokevirtual 58, 3) := by decide +kernel
theorem dX4_about_8 : decode cX4_about 8 = .ok (.ifCond .ne 5, 3) := by decide +kernel
theorem dX4_about_11 : decode cX4_about 11 = .ok (.iconst (-1), 1) := by decide +kernel
theorem dX4_about_12 : decode cX4_about 12 = .ok (.ireturn, 1) := by decide +kernel
theorem dX4_about_13 : decode cX4_about 13 = .ok (.iload_n 2, 1) := by decide +kernel
theorem dX4_about_14 : decode cX4_about 14 = .ok (.tableswitch 91 0 4 #[34, 43, 52, 61, 67], 34) := by decide +kernel
theorem dX4_about_48 : decode cX4_about 48 = .ok (.aload_n 0, 1) := by decide +kernel
theorem dX4_about_49 : decode cX4_about 49 = .ok (.getfield 10, 3) := by decide +kernel
theorem dX4_about_52 : decode cX4_about 52 = .ok (.iload_n 1, 1) := by decide +kernel
theorem dX4_about_53 : decode cX4_about 53 = .ok (.invokevirtual 129, 3) := by decide +kernel
theorem dX4_about_56 : decode cX4_about 56 = .ok (.ireturn, 1) := by decide +kernel
theorem dX4_about_57 : decode cX4_about 57 = .ok (.aload_n 0, 1) := by decide +kernel
theorem dX4_about_58 : decode cX4_about 58 = .ok (.getfield 10, 3) := by decide +kernel
theorem dX4_about_61 : decode cX4_about 61 = .ok (.iload_n 1, 1) := by decide +kernel
theorem dX4_about_62 : decode cX4_about 62 = .ok (.invokevirtual 133, 3) := by decide +kernel
theorem dX4_about_65 : decode cX4_about 65 = .ok (.ireturn, 1) := by decide +kernel
theorem dX4_about_66 : decode cX4_about 66 = .ok (.aload_n 0, 1) := by decide +kernel
theorem dX4_about_67 : decode cX4_about 67 = .ok (.getfield 10, 3) := by decide +kernel
theorem dX4_about_70 : decode cX4_about 70 = .ok (.iload_n 1, 1) := by decide +kernel
theorem dX4_about_71 : decode cX4_about 71 = .ok (.invokevirtual 136, 3) := by decide +kernel
theorem dX4_about_74 : decode cX4_about 74 = .ok (.ireturn, 1) := by decide +kernel
theorem dX4_about_75 : decode cX4_about 75 = .ok (.aload_n 0, 1) := by decide +kernel
theorem dX4_about_76 : decode cX4_about 76 = .ok (.iload_n 1, 1) := by decide +kernel
theorem dX4_about_77 : decode cX4_about 77 = .ok (.invokevirtual 139, 3) := by decide +kernel
theorem dX4_about_80 : decode cX4_about 80 = .ok (.ireturn, 1) := by decide +kernel
theorem dX4_about_81 : decode cX4_about 81 = .ok (.aload_n 0, 1) := by decide +kernel
theorem dX4_about_82 : decode cX4_about 82 = .ok (.getfield 33, 3) := by decide +kernel
theorem dX4_about_85 : decode cX4_about 85 = .ok (.aload_n 0, 1) := by decide +kernel
theorem dX4_about_86 : decode cX4_about 86 = .ok (.getfield 10, 3) := by decide +kernel
theorem dX4_about_89 : decode cX4_about 89 = .ok (.iload_n 1, 1) := by decide +kernel
theorem dX4_about_90 : decode cX4_about 90 = .ok (.invokevirtual 133, 3) := by decide +kernel
theorem dX4_about_93 : decode cX4_about 93 = .ok (.invokevirtual 142, 3) := by decide +kernel
theorem dX4_about_96 : decode cX4_about 96 = .ok (.ifCond .eq 7, 3) := by decide +kernel
theorem dX4_about_99 : decode cX4_about 99 = .ok (.iconst 1, 1) := by decide +kernel
theorem dX4_about_100 : decode cX4_about 100 = .ok (.goto 4, 3) := by decide +kernel
theorem dX4_about_103 : decode cX4_about 103 = .ok (.iconst 0, 1) := by decide +kernel
theorem dX4_about_104 : decode cX4_about 104 = .ok (.ireturn, 1) := by decide +kernel
theorem dX4_about_105 : decode cX4_about 105 = .ok (.iconst (-1), 1) := by decide +kernel
theorem dX4_about_106 : decode cX4_about 106 = .ok (.ireturn, 1) := by decide +kernel
set_option maxRecDepth 20000 in
theorem ggX4_bound_X1_has : GoodIn wsX4_bound wsX1_has := goodIn_r _ [6, 7, 36, 37, 38, 39, 40, 41, 42] (by decide +kernel) (by decide +kernel)
set_option maxRecDepth 20000 in
theorem gX4_bound_X1_has : GoodIn wsX4_bound (wsV RX4 58 RX1 yX1_has wsX1_has) := goodIn_app (goodIn_of _ (by decide +kernel)) ggX4_bound_X1_has
set_option maxRecDepth 20000 in
theorem ggX4_bound_X1_isKnown : GoodIn wsX4_bound wsX1_isKnown := goodIn_r _ [11, 12, 13, 36, 37, 38, 39, 40, 41, 42] (by decide +kernel) (by decide +kernel)
set_option maxRecDepth 20000 in
theorem gX4_bound_X1_isKnown : GoodIn wsX4_bound (wsV RX4 145 RX1 yX1_isKnown wsX1_isKnown) := goodIn_app (goodIn_of _ (by decide +kernel)) ggX4_bound_X1_isKnown
set_option maxRecDepth 20000 in
theorem ggX4_bound_X1_numberOf : GoodIn wsX4_bound wsX1_numberOf := goodIn_r _ [17, 18, 13, 36, 37, 38, 39, 40, 41, 42] (by decide +kernel) (by decide +kernel)
set_option maxRecDepth 20000 in
theorem gX4_bound_X1_numberOf : GoodIn wsX4_bound (wsV RX4 148 RX1 yX1_numberOf wsX1_numberOf) := goodIn_app (goodIn_of _ (by decide +kernel)) ggX4_bound_X1_numberOf
set_option maxRecDepth 20000 in
theorem ggX4_bound_X1_highOf : GoodIn wsX4_bound wsX1_highOf := goodIn_r _ [22, 23, 13, 36, 37, 38, 39, 40, 41, 42] (by decide +kernel) (by decide +kernel)
set_option maxRecDepth 20000 in
theorem gX4_bound_X1_highOf : GoodIn wsX4_bound (wsV RX4 152 RX1 yX1_highOf wsX1_highOf) := goodIn_app (goodIn_of _ (by decide +kernel)) ggX4_bound_X1_highOf
set_option maxRecDepth 20000 in
theorem ggX4_bound_X1_lowOf : GoodIn wsX4_bound wsX1_lowOf := goodIn_r _ [27, 28, 13, 36, 37, 38, 39, 40, 41, 42] (by decide +kernel) (by decide +kernel)
set_option maxRecDepth 20000 in
theorem gX4_bound_X1_lowOf : GoodIn wsX4_bound (wsV RX4 155 RX1 yX1_lowOf wsX1_lowOf) := goodIn_app (goodIn_of _ (by decide +kernel)) ggX4_bound_X1_lowOf
theorem dX4_bound_0 : decode cX4_bound 0 = .ok (.aload_n 0, 1) := by decide +kernel
theorem dX4_bound_1 : decode cX4_bound 1 = .ok (.getfield 10, 3) := by decide +kernel
theorem dX4_bound_4 : decode cX4_bound 4 = .ok (.iload_n 1, 1) := by decide +kernel
theorem dX4_bound_5 : decode cX4_bound 5 = .ok (.invokevirtual 58, 3) := by decide +kernel
theorem dX4_bound_8 : decode cX4_bound 8 = .ok (.ifCond .ne 5, 3) := by decide +kernel
theorem dX4_bound_11 : decode cX4_bound 11 = .ok (.lconst 0, 1) := by decide +kernel
theorem dX4_bound_12 : decode cX4_bound 12 = .ok (.lreturn, 1) := by decide +kernel
theorem dX4_bound_13 : decode cX4_bound 13 = .ok (.aload_n 0, 1) := by decide +kernel
theorem dX4_bound_14 : decode cX4_bound 14 = .ok (.getfield 10, 3) := by decide +kernel
theorem dX4_bound_17 : decode cX4_bound 17 = .ok (.iload_n 1, 1) := by decide +kernel
theorem dX4_bound_18 : decode cX4_bound 18 = .ok (.invokevirtual 145, 3) := by decide +kernel
theorem dX4_bound_21 : decode cX4_bound 21 = .ok (.ifCond .eq 12, 3) := by decide +kernel
theorem dX4_bound_24 : decode cX4_bound 24 = .ok (.aload_n 0, 1) := by decide +kernel
theorem dX4_bound_25 : decode cX4_bound 25 = .ok (.getfield 10, 3) := by decide +kernel
theorem dX4_bound_28 : decode cX4_bound 28 = .ok (.iload_n 1, 1) := by decide +kernel
theorem dX4_bound_29 : decode cX4_bound 29 = .ok (.invokevirtual 148, 3) := by decide +kernel
theorem dX4_bound_32 : decode cX4_bound 32 = .ok (.lreturn, 1) := by decide +kernel
theorem dX4_bound_33 : decode cX4_bound 33 = .ok (.iload_n 2, 1) := by decide +kernel
theorem dX4_bound_34 : decode cX4_bound 34 = .ok (.ifCond .eq 14, 3) := by decide +kernel
theorem dX4_bound_37 : decode cX4_bound 37 = .ok (.aload_n 0, 1) := by decide +kernel
theorem dX4_bound_38 : decode cX4_bound 38 = .ok (.getfield 10, 3) := by decide +kernel
theorem dX4_bound_41 : decode cX4_bound 41 = .ok (.iload_n 1, 1) := by decide +kernel
theorem dX4_bound_42 : decode cX4_bound 42 = .ok (.invokevirtual 152, 3) := by decide +kernel
theorem dX4_bound_45 : decode cX4_bound 45 = .ok (.goto 11, 3) := by decide +kernel
theorem dX4_bound_48 : decode cX4_bound 48 = .ok (.aload_n 0, 1) := by decide +kernel
theorem dX4_bound_49 : decode cX4_bound 49 = .ok (.getfield 10, 3) := by decide +kernel
theorem dX4_bound_52 : decode cX4_bound 52 = .ok (.iload_n 1, 1) := by decide +kernel
theorem dX4_bound_53 : decode cX4_bound 53 = .ok (.invokevirtual 155, 3) := by decide +kernel
theorem dX4_bound_56 : decode cX4_bound 56 = .ok (.lreturn, 1) := by decide +kernel
set_option maxRecDepth 20000 in
theorem ggX4_kept_Jx4a65c_size_8abf5 : GoodIn wsX4_kept wsJx4a65c_size_8abf5 := goodIn_r _ [10, 11, 53, 54, 55] (by decide +kernel) (by decide +kernel)
set_option maxRecDepth 20000 in
theorem gX4_kept_Jx4a65c_size_8abf5 : GoodIn wsX4_kept (wsV RX4 109 RJx4a65c yJx4a65c_size_8abf5 wsJx4a65c_size_8abf5) := goodIn_app (goodIn_of _ (by decide +kernel)) ggX4_kept_Jx4a65c_size_8abf5
set_option maxRecDepth 20000 in
theorem ggX4_kept_Jx4a65c_get_915e3 : GoodIn wsX4_kept wsJx4a65c_get_915e3 := goodIn_r _ [15, 11, 16, 17, 18, 19, 20, 21, 22, 23, 24, 25, 26, 9, 27, 28, 53, 54, 55] (by decide +kernel) (by decide +kernel)
set_option maxRecDepth 20000 in
theorem gX4_kept_Jx4a65c_get_915e3 : GoodIn wsX4_kept (wsV RX4 115 RJx4a65c yJx4a65c_get_915e3 wsJx4a65c_get_915e3) := goodIn_app (goodIn_of _ (by decide +kernel)) ggX4_kept_Jx4a65c_get_915e3
set_option maxRecDepth 20000 in
theorem ggX4_kept_X0_countFree : GoodIn wsX4_kept wsX0_countFree := goodIn_r _ [33, 34, 35, 36, 37, 38, 39, 40, 41, 49, 50, 51, 52, 56, 57, 58, 59, 60, 61, 62] (by decide +kernel) (by decide +kernel)
set_option maxRecDepth 20000 in
theorem gX4_kept_X0_countFree : GoodIn wsX4_kept (wsV RX4 166 RX0 yX0_countFree wsX0_countFree) := goodIn_app (goodIn_of _ (by decide +kernel)) ggX4_kept_X0_countFree
theorem dX4_kept_0 : decode cX4_kept 0 = .ok (.iload_n 1, 1) := by decide +kernel
theorem dX4_kept_1 : decode cX4_kept 1 = .ok (.ifCond .lt 14, 3) := by decide +kernel
theorem dX4_kept_4 : decode cX4_kept 4 = .ok (.iload_n 1, 1) := by decide +kernel
theorem dX4_kept_5 : decode cX4_kept 5 = .ok (.aload_n 0, 1) := by decide +kernel
theorem dX4_kept_6 : decode cX4_kept 6 = .ok (.getfield 26, 3) := by decide +kernel
theorem dX4_kept_9 : decode cX4_kept 9 = .ok (.invokevirtual 109, 3) := by decide +kernel
theorem dX4_kept_12 : decode cX4_kept 12 = .ok (.if_icmp .lt 5, 3) := by decide +kernel
theorem dX4_kept_15 : decode cX4_kept 15 = .ok (.iconst (-1), 1) := by decide +kernel
theorem dX4_kept_16 : decode cX4_kept 16 = .ok (.ireturn, 1) := by decide +kernel
theorem dX4_kept_17 : decode cX4_kept 17 = .ok (.aload_n 0, 1) := by decide +kernel
theorem dX4_kept_18 : decode cX4_kept 18 = .ok (.getfield 26, 3) := by decide +kernel
theorem dX4_kept_21 : decode cX4_kept 21 = .ok (.iload_n 1, 1) := by decide +kernel
theorem dX4_kept_22 : decode cX4_kept 22 = .ok (.invokevirtual 115, 3) := by decide +kernel
theorem dX4_kept_25 : decode cX4_kept 25 = .ok (.checkcast 158, 3) := by decide +kernel
theorem dX4_kept_28 : decode cX4_kept 28 = .ok (.astore_n 3, 1) := by decide +kernel
theorem dX4_kept_29 : decode cX4_kept 29 = .ok (.iload_n 2, 1) := by decide +kernel
theorem dX4_kept_30 : decode cX4_kept 30 = .ok (.tableswitch 46 0 2 #[26, 31, 37], 26) := by decide +kernel
theorem dX4_kept_56 : decode cX4_kept 56 = .ok (.aload_n 3, 1) := by decide +kernel
theorem dX4_kept_57 : decode cX4_kept 57 = .ok (.getfield 160, 3) := by decide +kernel
theorem dX4_kept_60 : decode cX4_kept 60 = .ok (.ireturn, 1) := by decide +kernel
theorem dX4_kept_61 : decode cX4_kept 61 = .ok (.aload_n 3, 1) := by decide +kernel
theorem dX4_kept_62 : decode cX4_kept 62 = .ok (.getfield 163, 3) := by decide +kernel
theorem dX4_kept_65 : decode cX4_kept 65 = .ok (.arraylength, 1) := by decide +kernel
theorem dX4_kept_66 : decode cX4_kept 66 = .ok (.ireturn, 1) := by decide +kernel
theorem dX4_kept_67 : decode cX4_kept 67 = .ok (.aload_n 3, 1) := by decide +kernel
theorem dX4_kept_68 : decode cX4_kept 68 = .ok (.aload_n 0, 1) := by decide +kernel
theorem dX4_kept_69 : decode cX4_kept 69 = .ok (.getfield 10, 3) := by decide +kernel
theorem dX4_kept_72 : decode cX4_kept 72 = .ok (.invokevirtual 166, 3) := by decide +kernel
theorem dX4_kept_75 : decode cX4_kept 75 = .ok (.ireturn, 1) := by decide +kernel
theorem dX4_kept_76 : decode cX4_kept 76 = .ok (.iconst (-1), 1) := by decide +kernel
theorem dX4_kept_77 : decode cX4_kept 77 = .ok (.ireturn, 1) := by decide +kernel
set_option maxRecDepth 20000 in
theorem ggX4_count_Jx4a65c_size_8abf5 : GoodIn wsX4_count wsJx4a65c_size_8abf5 := goodIn_r _ [15, 16, 40, 41, 42] (by decide +kernel) (by decide +kernel)
set_option maxRecDepth 20000 in
theorem gX4_count_Jx4a65c_size_8abf5 : GoodIn wsX4_count (wsV RX4 109 RJx4a65c yJx4a65c_size_8abf5 wsJx4a65c_size_8abf5) := goodIn_app (goodIn_of _ (by decide +kernel)) ggX4_count_Jx4a65c_size_8abf5
theorem dX4_count_0 : decode cX4_count 0 = .ok (.iload_n 1, 1) := by decide +kernel
theorem dX4_count_1 : decode cX4_count 1 = .ok (.tableswitch 96 0 6 #[43, 51, 59, 64, 72, 80, 88], 43) := by decide +kernel
theorem dX4_count_44 : decode cX4_count 44 = .ok (.aload_n 0, 1) := by decide +kernel
theorem dX4_count_45 : decode cX4_count 45 = .ok (.getfield 10, 3) := by decide +kernel
theorem dX4_count_48 : decode cX4_count 48 = .ok (.getfield 48, 3) := by decide +kernel
theorem dX4_count_51 : decode cX4_count 51 = .ok (.ireturn, 1) := by decide +kernel
theorem dX4_count_52 : decode cX4_count 52 = .ok (.aload_n 0, 1) := by decide +kernel
theorem dX4_count_53 : decode cX4_count 53 = .ok (.getfield 26, 3) := by decide +kernel
theorem dX4_count_56 : decode cX4_count 56 = .ok (.invokevirtual 109, 3) := by decide +kernel
theorem dX4_count_59 : decode cX4_count 59 = .ok (.ireturn, 1) := by decide +kernel
theorem dX4_count_60 : decode cX4_count 60 = .ok (.aload_n 0, 1) := by decide +kernel
