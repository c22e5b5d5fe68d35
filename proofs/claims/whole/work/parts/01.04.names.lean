theorem dX4_count_61 : decode cX4_count 61 = .ok (.getfield 44, 3) := by decide +kernel
theorem dX4_count_64 : decode cX4_count 64 = .ok (.ireturn, 1) := by decide +kernel
theorem dX4_count_65 : decode cX4_count 65 = .ok (.aload_n 0, 1) := by decide +kernel
theorem dX4_count_66 : decode cX4_count 66 = .ok (.getfield 19, 3) := by decide +kernel
theorem dX4_count_69 : decode cX4_count 69 = .ok (.getfield 78, 3) := by decide +kernel
theorem dX4_count_72 : decode cX4_count 72 = .ok (.ireturn, 1) := by decide +kernel
theorem dX4_count_73 : decode cX4_count 73 = .ok (.aload_n 0, 1) := by decide +kernel
theorem dX4_count_74 : decode cX4_count 74 = .ok (.getfield 33, 3) := by decide +kernel
theorem dX4_count_77 : decode cX4_count 77 = .ok (.getfield 170, 3) := by decide +kernel
theorem dX4_count_80 : decode cX4_count 80 = .ok (.ireturn, 1) := by decide +kernel
theorem dX4_count_81 : decode cX4_count 81 = .ok (.aload_n 0, 1) := by decide +kernel
theorem dX4_count_82 : decode cX4_count 82 = .ok (.getfield 33, 3) := by decide +kernel
theorem dX4_count_85 : decode cX4_count 85 = .ok (.getfield 96, 3) := by decide +kernel
theorem dX4_count_88 : decode cX4_count 88 = .ok (.ireturn, 1) := by decide +kernel
theorem dX4_count_89 : decode cX4_count 89 = .ok (.aload_n 0, 1) := by decide +kernel
theorem dX4_count_90 : decode cX4_count 90 = .ok (.getfield 33, 3) := by decide +kernel
theorem dX4_count_93 : decode cX4_count 93 = .ok (.getfield 173, 3) := by decide +kernel
theorem dX4_count_96 : decode cX4_count 96 = .ok (.ireturn, 1) := by decide +kernel
theorem dX4_count_97 : decode cX4_count 97 = .ok (.iconst (-1), 1) := by decide +kernel
theorem dX4_count_98 : decode cX4_count 98 = .ok (.ireturn, 1) := by decide +kernel
set_option maxRecDepth 20000 in
theorem ggX4_settle_X1_isKnown : GoodIn wsX4_settle wsX1_isKnown := goodIn_r _ [6, 7, 8, 96, 97, 98, 99, 100, 101, 102] (by decide +kernel) (by decide +kernel)
set_option maxRecDepth 20000 in
theorem gX4_settle_X1_isKnown : GoodIn wsX4_settle (wsV RX4 145 RX1 yX1_isKnown wsX1_isKnown) := goodIn_app (goodIn_of _ (by decide +kernel)) ggX4_settle_X1_isKnown
set_option maxRecDepth 20000 in
theorem ggX4_settle_X1_numberOf : GoodIn wsX4_settle wsX1_numberOf := goodIn_r _ [12, 13, 8, 96, 97, 98, 99, 100, 101, 102] (by decide +kernel) (by decide +kernel)
set_option maxRecDepth 20000 in
theorem gX4_settle_X1_numberOf : GoodIn wsX4_settle (wsV RX4 148 RX1 yX1_numberOf wsX1_numberOf) := goodIn_app (goodIn_of _ (by decide +kernel)) ggX4_settle_X1_numberOf
set_option maxRecDepth 20000 in
theorem ggX4_settle_X1_liesInSpan : GoodIn wsX4_settle wsX1_liesInSpan := goodIn_r _ [17, 18, 19, 20, 5, 21, 22, 8, 23, 24, 25, 26, 27, 96, 97, 98, 99, 100, 101, 102] (by decide +kernel) (by decide +kernel)
set_option maxRecDepth 20000 in
theorem gX4_settle_X1_liesInSpan : GoodIn wsX4_settle (wsV RX4 176 RX1 yX1_liesInSpan wsX1_liesInSpan) := goodIn_app (goodIn_of _ (by decide +kernel)) ggX4_settle_X1_liesInSpan
set_option maxRecDepth 20000 in
theorem ggX4_settle_X1_setNumber : GoodIn wsX4_settle wsX1_setNumber := goodIn_r _ [31, 7, 8, 13, 96, 97, 98, 99, 100, 101, 102] (by decide +kernel) (by decide +kernel)
set_option maxRecDepth 20000 in
theorem gX4_settle_X1_setNumber : GoodIn wsX4_settle (wsV RX4 106 RX1 yX1_setNumber wsX1_setNumber) := goodIn_app (goodIn_of _ (by decide +kernel)) ggX4_settle_X1_setNumber
set_option maxRecDepth 20000 in
theorem ggX4_settle_X4_allCompleteAreSo : GoodIn wsX4_settle wsX4_allCompleteAreSo := goodIn_r _ [36, 37, 38, 1, 39, 40, 41, 42, 43, 44, 45, 46, 47, 48, 49, 50, 51, 52, 53, 54, 55, 56, 57, 58, 59, 60, 61, 62, 63, 64, 65, 66, 67, 68, 3, 4, 5, 6, 7, 8, 69, 70, 71, 72, 73, 74, 75, 76, 77, 78, 79, 80, 10, 11, 12, 13, 81, 82, 83, 84, 89, 90, 91, 92, 93, 94, 95, 103, 104, 105, 106, 107, 108, 109, 96, 97, 98, 99, 100, 101, 102] (by decide +kernel) (by decide +kernel)
set_option maxRecDepth 20000 in
theorem gX4_settle_X4_allCompleteAreSo : GoodIn wsX4_settle (wsV RX4 179 RX4 yX4_allCompleteAreSo wsX4_allCompleteAreSo) := goodIn_app (goodIn_of _ (by decide +kernel)) ggX4_settle_X4_allCompleteAreSo
set_option maxRecDepth 20000 in
theorem ggX4_settle_X1_unsetNumber : GoodIn wsX4_settle wsX1_unsetNumber := goodIn_r _ [88, 7, 8, 96, 97, 98, 99, 100, 101, 102] (by decide +kernel) (by decide +kernel)
set_option maxRecDepth 20000 in
theorem gX4_settle_X1_unsetNumber : GoodIn wsX4_settle (wsV RX4 183 RX1 yX1_unsetNumber wsX1_unsetNumber) := goodIn_app (goodIn_of _ (by decide +kernel)) ggX4_settle_X1_unsetNumber
theorem dX4_settle_0 : decode cX4_settle 0 = .ok (.aload_n 0, 1) := by decide +kernel
theorem dX4_settle_1 : decode cX4_settle 1 = .ok (.getfield 10, 3) := by decide +kernel
theorem dX4_settle_4 : decode cX4_settle 4 = .ok (.iload_n 1, 1) := by decide +kernel
theorem dX4_settle_5 : decode cX4_settle 5 = .ok (.invokevirtual 145, 3) := by decide +kernel
theorem dX4_settle_8 : decode cX4_settle 8 = .ok (.ifCond .eq 22, 3) := by decide +kernel
theorem dX4_settle_11 : decode cX4_settle 11 = .ok (.aload_n 0, 1) := by decide +kernel
theorem dX4_settle_12 : decode cX4_settle 12 = .ok (.getfield 10, 3) := by decide +kernel
theorem dX4_settle_15 : decode cX4_settle 15 = .ok (.iload_n 1, 1) := by decide +kernel
theorem dX4_settle_16 : decode cX4_settle 16 = .ok (.invokevirtual 148, 3) := by decide +kernel
theorem dX4_settle_19 : decode cX4_settle 19 = .ok (.lload_n 2, 1) := by decide +kernel
theorem dX4_settle_20 : decode cX4_settle 20 = .ok (.lcmp, 1) := by decide +kernel
theorem dX4_settle_21 : decode cX4_settle 21 = .ok (.ifCond .ne 7, 3) := by decide +kernel
theorem dX4_settle_24 : decode cX4_settle 24 = .ok (.iconst 1, 1) := by decide +kernel
theorem dX4_settle_25 : decode cX4_settle 25 = .ok (.goto 4, 3) := by decide +kernel
theorem dX4_settle_28 : decode cX4_settle 28 = .ok (.iconst 0, 1) := by decide +kernel
theorem dX4_settle_29 : decode cX4_settle 29 = .ok (.ireturn, 1) := by decide +kernel
theorem dX4_settle_30 : decode cX4_settle 30 = .ok (.aload_n 0, 1) := by decide +kernel
theorem dX4_settle_31 : decode cX4_settle 31 = .ok (.getfield 10, 3) := by decide +kernel
theorem dX4_settle_34 : decode cX4_settle 34 = .ok (.iload_n 1, 1) := by decide +kernel
theorem dX4_settle_35 : decode cX4_settle 35 = .ok (.lload_n 2, 1) := by decide +kernel
theorem dX4_settle_36 : decode cX4_settle 36 = .ok (.invokevirtual 176, 3) := by decide +kernel
theorem dX4_settle_39 : decode cX4_settle 39 = .ok (.ifCond .ne 5, 3) := by decide +kernel
theorem dX4_settle_42 : decode cX4_settle 42 = .ok (.iconst 0, 1) := by decide +kernel
theorem dX4_settle_43 : decode cX4_settle 43 = .ok (.ireturn, 1) := by decide +kernel
theorem dX4_settle_44 : decode cX4_settle 44 = .ok (.aload_n 0, 1) := by decide +kernel
theorem dX4_settle_45 : decode cX4_settle 45 = .ok (.getfield 10, 3) := by decide +kernel
theorem dX4_settle_48 : decode cX4_settle 48 = .ok (.iload_n 1, 1) := by decide +kernel
theorem dX4_settle_49 : decode cX4_settle 49 = .ok (.lload_n 2, 1) := by decide +kernel
theorem dX4_settle_50 : decode cX4_settle 50 = .ok (.invokevirtual 106, 3) := by decide +kernel
theorem dX4_settle_53 : decode cX4_settle 53 = .ok (.aload_n 0, 1) := by decide +kernel
theorem dX4_settle_54 : decode cX4_settle 54 = .ok (.invokevirtual 179, 3) := by decide +kernel
theorem dX4_settle_57 : decode cX4_settle 57 = .ok (.ifCond .eq 5, 3) := by decide +kernel
theorem dX4_settle_60 : decode cX4_settle 60 = .ok (.iconst 1, 1) := by decide +kernel
theorem dX4_settle_61 : decode cX4_settle 61 = .ok (.ireturn, 1) := by decide +kernel
theorem dX4_settle_62 : decode cX4_settle 62 = .ok (.aload_n 0, 1) := by decide +kernel
theorem dX4_settle_63 : decode cX4_settle 63 = .ok (.getfield 10, 3) := by decide +kernel
theorem dX4_settle_66 : decode cX4_settle 66 = .ok (.iload_n 1, 1) := by decide +kernel
theorem dX4_settle_67 : decode cX4_settle 67 = .ok (.invokevirtual 183, 3) := by decide +kernel
theorem dX4_settle_70 : decode cX4_settle 70 = .ok (.iconst 0, 1) := by decide +kernel
theorem dX4_settle_71 : decode cX4_settle 71 = .ok (.ireturn, 1) := by decide +kernel
set_option maxRecDepth 20000 in
theorem ggX4_agree_X1_isKnown : GoodIn wsX4_agree wsX1_isKnown := goodIn_r _ [6, 7, 8, 122, 123, 124, 125, 126, 127, 128] (by decide +kernel) (by decide +kernel)
set_option maxRecDepth 20000 in
theorem gX4_agree_X1_isKnown : GoodIn wsX4_agree (wsV RX4 145 RX1 yX1_isKnown wsX1_isKnown) := goodIn_app (goodIn_of _ (by decide +kernel)) ggX4_agree_X1_isKnown
set_option maxRecDepth 20000 in
theorem ggX4_agree_X1_numberOf : GoodIn wsX4_agree wsX1_numberOf := goodIn_r _ [12, 13, 8, 122, 123, 124, 125, 126, 127, 128] (by decide +kernel) (by decide +kernel)
set_option maxRecDepth 20000 in
theorem gX4_agree_X1_numberOf : GoodIn wsX4_agree (wsV RX4 148 RX1 yX1_numberOf wsX1_numberOf) := goodIn_app (goodIn_of _ (by decide +kernel)) ggX4_agree_X1_numberOf
set_option maxRecDepth 20000 in
theorem ggX4_agree_X4_settle : GoodIn wsX4_agree wsX4_settle := goodIn_r _ [18, 1, 2, 3, 4, 5, 6, 7, 8, 9, 10, 11, 12, 13, 19, 20, 21, 22, 23, 24, 25, 26, 27, 28, 29, 30, 31, 32, 33, 34, 35, 36, 37, 38, 39, 17, 40, 41, 42, 43, 44, 45, 46, 47, 48, 49, 50, 51, 52, 53, 54, 55, 56, 57, 58, 59, 60, 61, 62, 63, 64, 65, 66, 67, 68, 69, 70, 71, 72, 73, 74, 75, 76, 77, 78, 79, 80, 81, 82, 83, 84, 85, 86, 87, 88, 89, 90, 91, 92, 115, 116, 117, 118, 119, 120, 121, 122, 123, 124, 125, 126, 127, 128, 129, 130, 131, 132, 133, 134, 135] (by decide +kernel) (by decide +kernel)
set_option maxRecDepth 20000 in
theorem gX4_agree_X4_settle : GoodIn wsX4_agree (wsV RX4 66 RX4 yX4_settle wsX4_settle) := goodIn_app (goodIn_of _ (by decide +kernel)) ggX4_agree_X4_settle
set_option maxRecDepth 20000 in
theorem ggX4_agree_X1_shareSpans : GoodIn wsX4_agree wsX1_shareSpans := goodIn_r _ [96, 97, 98, 99, 5, 100, 101, 8, 23, 24, 25, 26, 27, 28, 29, 30, 31, 32, 102, 103, 104, 105, 106, 107, 108, 109, 110, 111, 112, 113, 3, 4, 6, 7, 114, 10, 11, 12, 13, 122, 123, 124, 125, 126, 127, 128] (by decide +kernel) (by decide +kernel)
set_option maxRecDepth 20000 in
theorem gX4_agree_X1_shareSpans : GoodIn wsX4_agree (wsV RX4 187 RX1 yX1_shareSpans wsX1_shareSpans) := goodIn_app (goodIn_of _ (by decide +kernel)) ggX4_agree_X1_shareSpans
theorem dX4_agree_0 : decode cX4_agree 0 = .ok (.aload_n 0, 1) := by decide +kernel
theorem dX4_agree_1 : decode cX4_agree 1 = .ok (.getfield 10, 3) := by decide +kernel
theorem dX4_agree_4 : decode cX4_agree 4 = .ok (.iload_n 1, 1) := by decide +kernel
theorem dX4_agree_5 : decode cX4_agree 5 = .ok (.invokevirtual 145, 3) := by decide +kernel
theorem dX4_agree_8 : decode cX4_agree 8 = .ok (.ifCond .eq 17, 3) := by decide +kernel
theorem dX4_agree_11 : decode cX4_agree 11 = .ok (.aload_n 0, 1) := by decide +kernel
theorem dX4_agree_12 : decode cX4_agree 12 = .ok (.iload_n 2, 1) := by decide +kernel
theorem dX4_agree_13 : decode cX4_agree 13 = .ok (.aload_n 0, 1) := by decide +kernel
theorem dX4_agree_14 : decode cX4_agree 14 = .ok (.getfield 10, 3) := by decide +kernel
theorem dX4_agree_17 : decode cX4_agree 17 = .ok (.iload_n 1, 1) := by decide +kernel
theorem dX4_agree_18 : decode cX4_agree 18 = .ok (.invokevirtual 148, 3) := by decide +kernel
theorem dX4_agree_21 : decode cX4_agree 21 = .ok (.invokevirtual 66, 3) := by decide +kernel
theorem dX4_agree_24 : decode cX4_agree 24 = .ok (.ireturn, 1) := by decide +kernel
theorem dX4_agree_25 : decode cX4_agree 25 = .ok (.aload_n 0, 1) := by decide +kernel
theorem dX4_agree_26 : decode cX4_agree 26 = .ok (.getfield 10, 3) := by decide +kernel
theorem dX4_agree_29 : decode cX4_agree 29 = .ok (.iload_n 2, 1) := by decide +kernel
theorem dX4_agree_30 : decode cX4_agree 30 = .ok (.invokevirtual 145, 3) := by decide +kernel
theorem dX4_agree_33 : decode cX4_agree 33 = .ok (.ifCond .eq 17, 3) := by decide +kernel
theorem dX4_agree_36 : decode cX4_agree 36 = .ok (.aload_n 0, 1) := by decide +kernel
theorem dX4_agree_37 : decode cX4_agree 37 = .ok (.iload_n 1, 1) := by decide +kernel
theorem dX4_agree_38 : decode cX4_agree 38 = .ok (.aload_n 0, 1) := by decide +kernel
theorem dX4_agree_39 : decode cX4_agree 39 = .ok (.getfield 10, 3) := by decide +kernel
theorem dX4_agree_42 : decode cX4_agree 42 = .ok (.iload_n 2, 1) := by decide +kernel
theorem dX4_agree_43 : decode cX4_agree 43 = .ok (.invokevirtual 148, 3) := by decide +kernel
theorem dX4_agree_46 : decode cX4_agree 46 = .ok (.invokevirtual 66, 3) := by decide +kernel
theorem dX4_agree_49 : decode cX4_agree 49 = .ok (.ireturn, 1) := by decide +kernel
theorem dX4_agree_50 : decode cX4_agree 50 = .ok (.aload_n 0, 1) := by decide +kernel
theorem dX4_agree_51 : decode cX4_agree 51 = .ok (.getfield 10, 3) := by decide +kernel
theorem dX4_agree_54 : decode cX4_agree 54 = .ok (.iload_n 1, 1) := by decide +kernel
theorem dX4_agree_55 : decode cX4_agree 55 = .ok (.iload_n 2, 1) := by decide +kernel
theorem dX4_agree_56 : decode cX4_agree 56 = .ok (.invokevirtual 187, 3) := by decide +kernel
theorem dX4_agree_59 : decode cX4_agree 59 = .ok (.ireturn, 1) := by decide +kernel
set_option maxRecDepth 20000 in
theorem ggX4_allCompleteAreSo_Jx4a65c_size_8abf5 : GoodIn wsX4_allCompleteAreSo wsJx4a65c_size_8abf5 := goodIn_r _ [8, 9, 67, 68, 69] (by decide +kernel) (by decide +kernel)
set_option maxRecDepth 20000 in
theorem gX4_allCompleteAreSo_Jx4a65c_size_8abf5 : GoodIn wsX4_allCompleteAreSo (wsV RX4 109 RJx4a65c yJx4a65c_size_8abf5 wsJx4a65c_size_8abf5) := goodIn_app (goodIn_of _ (by decide +kernel)) ggX4_allCompleteAreSo_Jx4a65c_size_8abf5
set_option maxRecDepth 20000 in
theorem ggX4_allCompleteAreSo_Jx4a65c_get_915e3 : GoodIn wsX4_allCompleteAreSo wsJx4a65c_get_915e3 := goodIn_r _ [13, 9, 14, 15, 16, 17, 18, 19, 20, 21, 22, 23, 24, 7, 25, 26, 67, 68, 69] (by decide +kernel) (by decide +kernel)
set_option maxRecDepth 20000 in
theorem gX4_allCompleteAreSo_Jx4a65c_get_915e3 : GoodIn wsX4_allCompleteAreSo (wsV RX4 115 RJx4a65c yJx4a65c_get_915e3 wsJx4a65c_get_915e3) := goodIn_app (goodIn_of _ (by decide +kernel)) ggX4_allCompleteAreSo_Jx4a65c_get_915e3
set_option maxRecDepth 20000 in
theorem ggX4_allCompleteAreSo_X0_countFree : GoodIn wsX4_allCompleteAreSo wsX0_countFree := goodIn_r _ [31, 32, 33, 34, 35, 36, 37, 38, 39, 70, 71, 72, 73, 74, 75, 76, 77, 78, 79, 80] (by decide +kernel) (by decide +kernel)
set_option maxRecDepth 20000 in
theorem gX4_allCompleteAreSo_X0_countFree : GoodIn wsX4_allCompleteAreSo (wsV RX4 166 RX0 yX0_countFree wsX0_countFree) := goodIn_app (goodIn_of _ (by decide +kernel)) ggX4_allCompleteAreSo_X0_countFree
set_option maxRecDepth 20000 in
theorem ggX4_allCompleteAreSo_X0_isSo : GoodIn wsX4_allCompleteAreSo wsX0_isSo := goodIn_r _ [43, 44, 45, 46, 47, 48, 30, 49, 32, 50, 51, 52, 53, 36, 54, 55, 39, 56, 57, 58, 59, 70, 71, 72, 73, 74, 75, 76, 77, 78, 79, 80] (by decide +kernel) (by decide +kernel)
set_option maxRecDepth 20000 in
theorem gX4_allCompleteAreSo_X0_isSo : GoodIn wsX4_allCompleteAreSo (wsV RX4 190 RX0 yX0_isSo wsX0_isSo) := goodIn_app (goodIn_of _ (by decide +kernel)) ggX4_allCompleteAreSo_X0_isSo
theorem dX4_allCompleteAreSo_0 : decode cX4_allCompleteAreSo 0 = .ok (.iconst 0, 1) := by decide +kernel
theorem dX4_allCompleteAreSo_1 : decode cX4_allCompleteAreSo 1 = .ok (.istore_n 1, 1) := by decide +kernel
theorem dX4_allCompleteAreSo_2 : decode cX4_allCompleteAreSo 2 = .ok (.iload_n 1, 1) := by decide +kernel
theorem dX4_allCompleteAreSo_3 : decode cX4_allCompleteAreSo 3 = .ok (.aload_n 0, 1) := by decide +kernel
theorem dX4_allCompleteAreSo_4 : decode cX4_allCompleteAreSo 4 = .ok (.getfield 26, 3) := by decide +kernel
theorem dX4_allCompleteAreSo_7 : decode cX4_allCompleteAreSo 7 = .ok (.invokevirtual 109, 3) := by decide +kernel
theorem dX4_allCompleteAreSo_10 : decode cX4_allCompleteAreSo 10 = .ok (.if_icmp .ge 45, 3) := by decide +kernel
theorem dX4_allCompleteAreSo_13 : decode cX4_allCompleteAreSo 13 = .ok (.aload_n 0, 1) := by decide +kernel
theorem dX4_allCompleteAreSo_14 : decode cX4_allCompleteAreSo 14 = .ok (.getfield 26, 3) := by decide +kernel
theorem dX4_allCompleteAreSo_17 : decode cX4_allCompleteAreSo 17 = .ok (.iload_n 1, 1) := by decide +kernel
theorem dX4_allCompleteAreSo_18 : decode cX4_allCompleteAreSo 18 = .ok (.invokevirtual 115, 3) := by decide +kernel
theorem dX4_allCompleteAreSo_21 : decode cX4_allCompleteAreSo 21 = .ok (.checkcast 158, 3) := by decide +kernel
theorem dX4_allCompleteAreSo_24 : decode cX4_allCompleteAreSo 24 = .ok (.astore_n 2, 1) := by decide +kernel
theorem dX4_allCompleteAreSo_25 : decode cX4_allCompleteAreSo 25 = .ok (.aload_n 2, 1) := by decide +kernel
theorem dX4_allCompleteAreSo_26 : decode cX4_allCompleteAreSo 26 = .ok (.aload_n 0, 1) := by decide +kernel
theorem dX4_allCompleteAreSo_27 : decode cX4_allCompleteAreSo 27 = .ok (.getfield 10, 3) := by decide +kernel
theorem dX4_allCompleteAreSo_30 : decode cX4_allCompleteAreSo 30 = .ok (.invokevirtual 166, 3) := by decide +kernel
theorem dX4_allCompleteAreSo_33 : decode cX4_allCompleteAreSo 33 = .ok (.ifCond .ne 16, 3) := by decide +kernel
theorem dX4_allCompleteAreSo_36 : decode cX4_allCompleteAreSo 36 = .ok (.aload_n 2, 1) := by decide +kernel
theorem dX4_allCompleteAreSo_37 : decode cX4_allCompleteAreSo 37 = .ok (.aload_n 0, 1) := by decide +kernel
theorem dX4_allCompleteAreSo_38 : decode cX4_allCompleteAreSo 38 = .ok (.getfield 10, 3) := by decide +kernel
theorem dX4_allCompleteAreSo_41 : decode cX4_allCompleteAreSo 41 = .ok (.invokevirtual 190, 3) := by decide +kernel
theorem dX4_allCompleteAreSo_44 : decode cX4_allCompleteAreSo 44 = .ok (.ifCond .ne 5, 3) := by decide +kernel
theorem dX4_allCompleteAreSo_47 : decode cX4_allCompleteAreSo 47 = .ok (.iconst 0, 1) := by decide +kernel
theorem dX4_allCompleteAreSo_48 : decode cX4_allCompleteAreSo 48 = .ok (.ireturn, 1) := by decide +kernel
theorem dX4_allCompleteAreSo_49 : decode cX4_allCompleteAreSo 49 = .ok (.iinc 1 1, 3) := by decide +kernel
theorem dX4_allCompleteAreSo_52 : decode cX4_allCompleteAreSo 52 = .ok (.goto (-50), 3) := by decide +kernel
theorem dX4_allCompleteAreSo_55 : decode cX4_allCompleteAreSo 55 = .ok (.iconst 1, 1) := by decide +kernel
theorem dX4_allCompleteAreSo_56 : decode cX4_allCompleteAreSo 56 = .ok (.ireturn, 1) := by decide +kernel
set_option maxRecDepth 20000 in
theorem ggX4_keepRow_Jx4a65c_size_8abf5 : GoodIn wsX4_keepRow wsJx4a65c_size_8abf5 := goodIn_r _ [11, 12, 135, 136, 137] (by decide +kernel) (by decide +kernel)
set_option maxRecDepth 20000 in
theorem gX4_keepRow_Jx4a65c_size_8abf5 : GoodIn wsX4_keepRow (wsV RX4 109 RJx4a65c yJx4a65c_size_8abf5 wsJx4a65c_size_8abf5) := goodIn_app (goodIn_of _ (by decide +kernel)) ggX4_keepRow_Jx4a65c_size_8abf5
set_option maxRecDepth 20000 in
theorem ggX4_keepRow_X0_init : GoodIn wsX4_keepRow wsX0_init := goodIn_r _ [15, 16, 17, 18, 19, 20, 21, 22, 23, 24, 25, 26, 27, 28, 29, 30, 31, 32, 33, 34, 35, 36, 37, 38, 39, 40, 41, 42, 43, 44, 45, 46, 47, 48, 49, 50, 131, 132, 133, 134, 138, 139, 140] (by decide +kernel) (by decide +kernel)
set_option maxRecDepth 20000 in
theorem gX4_keepRow_X0_init : GoodIn wsX4_keepRow (wsX0_init) := ggX4_keepRow_X0_init
set_option maxRecDepth 20000 in
theorem ggX4_keepRow_X0_countFree : GoodIn wsX4_keepRow wsX0_countFree := goodIn_r _ [54, 22, 55, 56, 57, 58, 59, 60, 61, 131, 132, 133, 134, 141, 142, 143, 144, 145, 146, 147] (by decide +kernel) (by decide +kernel)
set_option maxRecDepth 20000 in
theorem gX4_keepRow_X0_countFree : GoodIn wsX4_keepRow (wsV RX4 166 RX0 yX0_countFree wsX0_countFree) := goodIn_app (goodIn_of _ (by decide +kernel)) ggX4_keepRow_X0_countFree
set_option maxRecDepth 20000 in
theorem ggX4_keepRow_X0_isSo : GoodIn wsX4_keepRow wsX0_isSo := goodIn_r _ [65, 19, 20, 66, 67, 68, 4, 69, 22, 23, 70, 71, 72, 58, 73, 74, 61, 75, 76, 77, 78, 131, 132, 133, 134, 141, 142, 143, 144, 145, 146, 147] (by decide +kernel) (by decide +kernel)
set_option maxRecDepth 20000 in
theorem gX4_keepRow_X0_isSo : GoodIn wsX4_keepRow (wsV RX4 190 RX0 yX0_isSo wsX0_isSo) := goodIn_app (goodIn_of _ (by decide +kernel)) ggX4_keepRow_X0_isSo
set_option maxRecDepth 20000 in
theorem ggX4_keepRow_Jx4a65c_add_9ea2d : GoodIn wsX4_keepRow wsJx4a65c_add_9ea2d := goodIn_r _ [82, 83, 84, 85, 12, 86, 87, 88, 10, 89, 90, 91, 92, 93, 94, 95, 96, 97, 98, 99, 100, 37, 101, 102, 103, 104, 105, 106, 107, 108, 109, 110, 111, 112, 113, 26, 114, 115, 116, 117, 118, 119, 120, 121, 122, 123, 35, 36, 38, 39, 40, 41, 42, 135, 136, 137] (by decide +kernel) (by decide +kernel)
set_option maxRecDepth 20000 in
theorem gX4_keepRow_Jx4a65c_add_9ea2d : GoodIn wsX4_keepRow (wsV RX4 111 RJx4a65c yJx4a65c_add_9ea2d wsJx4a65c_add_9ea2d) := goodIn_app (goodIn_of _ (by decide +kernel)) ggX4_keepRow_Jx4a65c_add_9ea2d
theorem dX4_keepRow_0 : decode cX4_keepRow 0 = .ok (.iload_n 1, 1) := by decide +kernel
theorem dX4_keepRow_1 : decode cX4_keepRow 1 = .ok (.ifCond .lt 20, 3) := by decide +kernel
theorem dX4_keepRow_4 : decode cX4_keepRow 4 = .ok (.iload_n 1, 1) := by decide +kernel
theorem dX4_keepRow_5 : decode cX4_keepRow 5 = .ok (.iconst 2, 1) := by decide +kernel
theorem dX4_keepRow_6 : decode cX4_keepRow 6 = .ok (.if_icmp .gt 15, 3) := by decide +kernel
theorem dX4_keepRow_9 : decode cX4_keepRow 9 = .ok (.aload_n 0, 1) := by decide +kernel
theorem dX4_keepRow_10 : decode cX4_keepRow 10 = .ok (.getfield 26, 3) := by decide +kernel
theorem dX4_keepRow_13 : decode cX4_keepRow 13 = .ok (.invokevirtual 109, 3) := by decide +kernel
theorem dX4_keepRow_16 : decode cX4_keepRow 16 = .ok (.bipush 60, 2) := by decide +kernel
theorem dX4_keepRow_18 : decode cX4_keepRow 18 = .ok (.if_icmp .lt 5, 3) := by decide +kernel
theorem dX4_keepRow_21 : decode cX4_keepRow 21 = .ok (.iconst (-1), 1) := by decide +kernel
theorem dX4_keepRow_22 : decode cX4_keepRow 22 = .ok (.ireturn, 1) := by decide +kernel
theorem dX4_keepRow_23 : decode cX4_keepRow 23 = .ok (.new 158, 3) := by decide +kernel
theorem dX4_keepRow_26 : decode cX4_keepRow 26 = .ok (.dup, 1) := by decide +kernel
theorem dX4_keepRow_27 : decode cX4_keepRow 27 = .ok (.iload_n 1, 1) := by decide +kernel
theorem dX4_keepRow_28 : decode cX4_keepRow 28 = .ok (.lload_n 2, 1) := by decide +kernel
theorem dX4_keepRow_29 : decode cX4_keepRow 29 = .ok (.aload_n 0, 1) := by decide +kernel
theorem dX4_keepRow_30 : decode cX4_keepRow 30 = .ok (.getfield 19, 3) := by decide +kernel
theorem dX4_keepRow_33 : decode cX4_keepRow 33 = .ok (.invokespecial 194, 3) := by decide +kernel
theorem dX4_keepRow_36 : decode cX4_keepRow 36 = .ok (.astore 4, 2) := by decide +kernel
theorem dX4_keepRow_38 : decode cX4_keepRow 38 = .ok (.aload 4, 2) := by decide +kernel
theorem dX4_keepRow_40 : decode cX4_keepRow 40 = .ok (.aload_n 0, 1) := by decide +kernel
theorem dX4_keepRow_41 : decode cX4_keepRow 41 = .ok (.getfield 10, 3) := by decide +kernel
theorem dX4_keepRow_44 : decode cX4_keepRow 44 = .ok (.invokevirtual 166, 3) := by decide +kernel
theorem dX4_keepRow_47 : decode cX4_keepRow 47 = .ok (.ifCond .ne 17, 3) := by decide +kernel
theorem dX4_keepRow_50 : decode cX4_keepRow 50 = .ok (.aload 4, 2) := by decide +kernel
theorem dX4_keepRow_52 : decode cX4_keepRow 52 = .ok (.aload_n 0, 1) := by decide +kernel
theorem dX4_keepRow_53 : decode cX4_keepRow 53 = .ok (.getfield 10, 3) := by decide +kernel
theorem dX4_keepRow_56 : decode cX4_keepRow 56 = .ok (.invokevirtual 190, 3) := by decide +kernel
theorem dX4_keepRow_59 : decode cX4_keepRow 59 = .ok (.ifCond .ne 5, 3) := by decide +kernel
theorem dX4_keepRow_62 : decode cX4_keepRow 62 = .ok (.iconst 0, 1) := by decide +kernel
theorem dX4_keepRow_63 : decode cX4_keepRow 63 = .ok (.ireturn, 1) := by decide +kernel
theorem dX4_keepRow_64 : decode cX4_keepRow 64 = .ok (.aload_n 0, 1) := by decide +kernel
theorem dX4_keepRow_65 : decode cX4_keepRow 65 = .ok (.getfield 26, 3) := by decide +kernel
theorem dX4_keepRow_68 : decode cX4_keepRow 68 = .ok (.aload 4, 2) := by decide +kernel
theorem dX4_keepRow_70 : decode cX4_keepRow 70 = .ok (.invokevirtual 111, 3) := by decide +kernel
theorem dX4_keepRow_73 : decode cX4_keepRow 73 = .ok (.pop, 1) := by decide +kernel
theorem dX4_keepRow_74 : decode cX4_keepRow 74 = .ok (.iconst 1, 1) := by decide +kernel
theorem dX4_keepRow_75 : decode cX4_keepRow 75 = .ok (.ireturn, 1) := by decide +kernel
set_option maxRecDepth 20000 in
theorem ggX4_countRowsWith_Jx4a65c_size_8abf5 : GoodIn wsX4_countRowsWith wsJx4a65c_size_8abf5 := goodIn_r _ [8, 9, 46, 47, 48] (by decide +kernel) (by decide +kernel)
set_option maxRecDepth 20000 in
theorem gX4_countRowsWith_Jx4a65c_size_8abf5 : GoodIn wsX4_countRowsWith (wsV RX4 109 RJx4a65c yJx4a65c_size_8abf5 wsJx4a65c_size_8abf5) := goodIn_app (goodIn_of _ (by decide +kernel)) ggX4_countRowsWith_Jx4a65c_size_8abf5
set_option maxRecDepth 20000 in
theorem ggX4_countRowsWith_Jx4a65c_get_915e3 : GoodIn wsX4_countRowsWith wsJx4a65c_get_915e3 := goodIn_r _ [13, 9, 14, 15, 16, 17, 18, 19, 20, 21, 22, 23, 24, 7, 25, 26, 46, 47, 48] (by decide +kernel) (by decide +kernel)
set_option maxRecDepth 20000 in
theorem gX4_countRowsWith_Jx4a65c_get_915e3 : GoodIn wsX4_countRowsWith (wsV RX4 115 RJx4a65c yJx4a65c_get_915e3 wsJx4a65c_get_915e3) := goodIn_app (goodIn_of _ (by decide +kernel)) ggX4_countRowsWith_Jx4a65c_get_915e3
set_option maxRecDepth 20000 in
theorem ggX4_countRowsWith_X0_holds : GoodIn wsX4_countRowsWith wsX0_holds := goodIn_r _ [31, 32, 33, 34, 35, 36, 37, 38, 49, 50, 51, 52, 53, 54, 55, 56, 57, 58, 59] (by decide +kernel) (by decide +kernel)
set_option maxRecDepth 20000 in
theorem gX4_countRowsWith_X0_holds : GoodIn wsX4_countRowsWith (wsV RX4 197 RX0 yX0_holds wsX0_holds) := goodIn_app (goodIn_of _ (by decide +kernel)) ggX4_countRowsWith_X0_holds
theorem dX4_countRowsWith_0 : decode cX4_countRowsWith 0 = .ok (.iconst 0, 1) := by decide +kernel
theorem dX4_countRowsWith_1 : decode cX4_countRowsWith 1 = .ok (.istore_n 2, 1) := by decide +kernel
theorem dX4_countRowsWith_2 : decode cX4_countRowsWith 2 = .ok (.iconst 0, 1) := by decide +kernel
theorem dX4_countRowsWith_3 : decode cX4_countRowsWith 3 = .ok (.istore_n 3, 1) := by decide +kernel
theorem dX4_countRowsWith_4 : decode cX4_countRowsWith 4 = .ok (.iload_n 3, 1) := by decide +kernel
theorem dX4_countRowsWith_5 : decode cX4_countRowsWith 5 = .ok (.aload_n 0, 1) := by decide +kernel
theorem dX4_countRowsWith_6 : decode cX4_countRowsWith 6 = .ok (.getfield 26, 3) := by decide +kernel
theorem dX4_countRowsWith_9 : decode cX4_countRowsWith 9 = .ok (.invokevirtual 109, 3) := by decide +kernel
theorem dX4_countRowsWith_12 : decode cX4_countRowsWith 12 = .ok (.if_icmp .ge 34, 3) := by decide +kernel
theorem dX4_countRowsWith_15 : decode cX4_countRowsWith 15 = .ok (.aload_n 0, 1) := by decide +kernel
theorem dX4_countRowsWith_16 : decode cX4_countRowsWith 16 = .ok (.getfield 26, 3) := by decide +kernel
theorem dX4_countRowsWith_19 : decode cX4_countRowsWith 19 = .ok (.iload_n 3, 1) := by decide +kernel
theorem dX4_countRowsWith_20 : decode cX4_countRowsWith 20 = .ok (.invokevirtual 115, 3) := by decide +kernel
theorem dX4_countRowsWith_23 : decode cX4_countRowsWith 23 = .ok (.checkcast 158, 3) := by decide +kernel
theorem dX4_countRowsWith_26 : decode cX4_countRowsWith 26 = .ok (.iload_n 1, 1) := by decide +kernel
theorem dX4_countRowsWith_27 : decode cX4_countRowsWith 27 = .ok (.aload_n 0, 1) := by decide +kernel
theorem dX4_countRowsWith_28 : decode cX4_countRowsWith 28 = .ok (.getfield 10, 3) := by decide +kernel
theorem dX4_countRowsWith_31 : decode cX4_countRowsWith 31 = .ok (.invokevirtual 197, 3) := by decide +kernel
theorem dX4_countRowsWith_34 : decode cX4_countRowsWith 34 = .ok (.ifCond .eq 6, 3) := by decide +kernel
theorem dX4_countRowsWith_37 : decode cX4_countRowsWith 37 = .ok (.iinc 2 1, 3) := by decide +kernel
theorem dX4_countRowsWith_40 : decode cX4_countRowsWith 40 = .ok (.iinc 3 1, 3) := by decide +kernel
theorem dX4_countRowsWith_43 : decode cX4_countRowsWith 43 = .ok (.goto (-39), 3) := by decide +kernel
theorem dX4_countRowsWith_46 : decode cX4_countRowsWith 46 = .ok (.iload_n 2, 1) := by decide +kernel
theorem dX4_countRowsWith_47 : decode cX4_countRowsWith 47 = .ok (.ireturn, 1) := by decide +kernel
theorem dX5_init_0 : decode cX5_init 0 = .ok (.aload_n 0, 1) := by decide +kernel
theorem dX5_init_1 : decode cX5_init 1 = .ok (.invokespecial 1, 3) := by decide +kernel
theorem dX5_init_4 : decode cX5_init 4 = .ok (.aload_n 0, 1) := by decide +kernel
theorem dX5_init_5 : decode cX5_init 5 = .ok (.sipush 6400, 3) := by decide +kernel
theorem dX5_init_8 : decode cX5_init 8 = .ok (.newarray .int, 2) := by decide +kernel
theorem dX5_init_10 : decode cX5_init 10 = .ok (.putfield 9, 3) := by decide +kernel
theorem dX5_init_13 : decode cX5_init 13 = .ok (.aload_n 0, 1) := by decide +kernel
theorem dX5_init_14 : decode cX5_init 14 = .ok (.sipush 6400, 3) := by decide +kernel
theorem dX5_init_17 : decode cX5_init 17 = .ok (.newarray .int, 2) := by decide +kernel
theorem dX5_init_19 : decode cX5_init 19 = .ok (.putfield 13, 3) := by decide +kernel
theorem dX5_init_22 : decode cX5_init 22 = .ok (.aload_n 0, 1) := by decide +kernel
theorem dX5_init_23 : decode cX5_init 23 = .ok (.sipush 6400, 3) := by decide +kernel
theorem dX5_init_26 : decode cX5_init 26 = .ok (.newarray .int, 2) := by decide +kernel
theorem dX5_init_28 : decode cX5_init 28 = .ok (.putfield 16, 3) := by decide +kernel
theorem dX5_init_31 : decode cX5_init 31 = .ok (.aload_n 0, 1) := by decide +kernel
theorem dX5_init_32 : decode cX5_init 32 = .ok (.sipush 6400, 3) := by decide +kernel
theorem dX5_init_35 : decode cX5_init 35 = .ok (.newarray .long, 2) := by decide +kernel
theorem dX5_init_37 : decode cX5_init 37 = .ok (.putfield 19, 3) := by decide +kernel
theorem dX5_init_40 : decode cX5_init 40 = .ok (.aload_n 0, 1) := by decide +kernel
theorem dX5_init_41 : decode cX5_init 41 = .ok (.sipush 6400, 3) := by decide +kernel
theorem dX5_init_44 : decode cX5_init 44 = .ok (.newarray .long, 2) := by decide +kernel
theorem dX5_init_46 : decode cX5_init 46 = .ok (.putfield 23, 3) := by decide +kernel
theorem dX5_init_49 : decode cX5_init 49 = .ok (.aload_n 0, 1) := by decide +kernel
theorem dX5_init_50 : decode cX5_init 50 = .ok (.bipush 32, 2) := by decide +kernel
theorem dX5_init_52 : decode cX5_init 52 = .ok (.newarray .int, 2) := by decide +kernel
theorem dX5_init_54 : decode cX5_init 54 = .ok (.putfield 26, 3) := by decide +kernel
theorem dX5_init_57 : decode cX5_init 57 = .ok (.aload_n 0, 1) := by decide +kernel
theorem dX5_init_58 : decode cX5_init 58 = .ok (.bipush 32, 2) := by decide +kernel
theorem dX5_init_60 : decode cX5_init 60 = .ok (.newarray .long, 2) := by decide +kernel
theorem dX5_init_62 : decode cX5_init 62 = .ok (.putfield 29, 3) := by decide +kernel
theorem dX5_init_65 : decode cX5_init 65 = .ok (.aload_n 0, 1) := by decide +kernel
theorem dX5_init_66 : decode cX5_init 66 = .ok (.bipush 60, 2) := by decide +kernel
theorem dX5_init_68 : decode cX5_init 68 = .ok (.newarray .int, 2) := by decide +kernel
theorem dX5_init_70 : decode cX5_init 70 = .ok (.putfield 32, 3) := by decide +kernel
theorem dX5_init_73 : decode cX5_init 73 = .ok (.aload_n 0, 1) := by decide +kernel
theorem dX5_init_74 : decode cX5_init 74 = .ok (.bipush 60, 2) := by decide +kernel
theorem dX5_init_76 : decode cX5_init 76 = .ok (.newarray .int, 2) := by decide +kernel
theorem dX5_init_78 : decode cX5_init 78 = .ok (.putfield 35, 3) := by decide +kernel
theorem dX5_init_81 : decode cX5_init 81 = .ok (.aload_n 0, 1) := by decide +kernel
theorem dX5_init_82 : decode cX5_init 82 = .ok (.sipush 1920, 3) := by decide +kernel
theorem dX5_init_85 : decode cX5_init 85 = .ok (.newarray .int, 2) := by decide +kernel
theorem dX5_init_87 : decode cX5_init 87 = .ok (.putfield 38, 3) := by decide +kernel
theorem dX5_init_90 : decode cX5_init 90 = .ok (.aload_n 0, 1) := by decide +kernel
theorem dX5_init_91 : decode cX5_init 91 = .ok (.sipush 1920, 3) := by decide +kernel
theorem dX5_init_94 : decode cX5_init 94 = .ok (.newarray .long, 2) := by decide +kernel
theorem dX5_init_96 : decode cX5_init 96 = .ok (.putfield 41, 3) := by decide +kernel
theorem dX5_init_99 : decode cX5_init 99 = .ok (.aload_n 0, 1) := by decide +kernel
theorem dX5_init_100 : decode cX5_init 100 = .ok (.bipush 60, 2) := by decide +kernel
theorem dX5_init_102 : decode cX5_init 102 = .ok (.newarray .long, 2) := by decide +kernel
theorem dX5_init_104 : decode cX5_init 104 = .ok (.putfield 44, 3) := by decide +kernel
theorem dX5_init_107 : decode cX5_init 107 = .ok (.aload_n 0, 1) := by decide +kernel
theorem dX5_init_108 : decode cX5_init 108 = .ok (.bipush 40, 2) := by decide +kernel
theorem dX5_init_110 : decode cX5_init 110 = .ok (.newarray .int, 2) := by decide +kernel
theorem dX5_init_112 : decode cX5_init 112 = .ok (.putfield 47, 3) := by decide +kernel
theorem dX5_init_115 : decode cX5_init 115 = .ok (.aload_n 0, 1) := by decide +kernel
theorem dX5_init_116 : decode cX5_init 116 = .ok (.bipush 40, 2) := by decide +kernel
theorem dX5_init_118 : decode cX5_init 118 = .ok (.newarray .int, 2) := by decide +kernel
theorem dX5_init_120 : decode cX5_init 120 = .ok (.putfield 50, 3) := by decide +kernel
theorem dX5_init_123 : decode cX5_init 123 = .ok (.aload_n 0, 1) := by decide +kernel
theorem dX5_init_124 : decode cX5_init 124 = .ok (.bipush 40, 2) := by decide +kernel
theorem dX5_init_126 : decode cX5_init 126 = .ok (.newarray .int, 2) := by decide +kernel
theorem dX5_init_128 : decode cX5_init 128 = .ok (.putfield 53, 3) := by decide +kernel
theorem dX5_init_131 : decode cX5_init 131 = .ok (.aload_n 0, 1) := by decide +kernel
theorem dX5_init_132 : decode cX5_init 132 = .ok (.bipush 64, 2) := by decide +kernel
theorem dX5_init_134 : decode cX5_init 134 = .ok (.newarray .int, 2) := by decide +kernel
theorem dX5_init_136 : decode cX5_init 136 = .ok (.putfield 56, 3) := by decide +kernel
theorem dX5_init_139 : decode cX5_init 139 = .ok (.aload_n 0, 1) := by decide +kernel
theorem dX5_init_140 : decode cX5_init 140 = .ok (.bipush 64, 2) := by decide +kernel
theorem dX5_init_142 : decode cX5_init 142 = .ok (.newarray .boolean, 2) := by decide +kernel
theorem dX5_init_144 : decode cX5_init 144 = .ok (.putfield 59, 3) := by decide +kernel
theorem dX5_init_147 : decode cX5_init 147 = .ok (.aload_n 0, 1) := by decide +kernel
theorem dX5_init_148 : decode cX5_init 148 = .ok (.bipush 64, 2) := by decide +kernel
theorem dX5_init_150 : decode cX5_init 150 = .ok (.newarray .boolean, 2) := by decide +kernel
theorem dX5_init_152 : decode cX5_init 152 = .ok (.putfield 63, 3) := by decide +kernel
theorem dX5_init_155 : decode cX5_init 155 = .ok (.aload_n 0, 1) := by decide +kernel
theorem dX5_init_156 : decode cX5_init 156 = .ok (.bipush 64, 2) := by decide +kernel
theorem dX5_init_158 : decode cX5_init 158 = .ok (.newarray .long, 2) := by decide +kernel
theorem dX5_init_160 : decode cX5_init 160 = .ok (.putfield 66, 3) := by decide +kernel
theorem dX5_init_163 : decode cX5_init 163 = .ok (.aload_n 0, 1) := by decide +kernel
theorem dX5_init_164 : decode cX5_init 164 = .ok (.bipush 64, 2) := by decide +kernel
theorem dX5_init_166 : decode cX5_init 166 = .ok (.newarray .long, 2) := by decide +kernel
theorem dX5_init_168 : decode cX5_init 168 = .ok (.putfield 69, 3) := by decide +kernel
theorem dX5_init_171 : decode cX5_init 171 = .ok (.aload_n 0, 1) := by decide +kernel
theorem dX5_init_172 : decode cX5_init 172 = .ok (.bipush 64, 2) := by decide +kernel
theorem dX5_init_174 : decode cX5_init 174 = .ok (.newarray .long, 2) := by decide +kernel
theorem dX5_init_176 : decode cX5_init 176 = .ok (.putfield 72, 3) := by decide +kernel
theorem dX5_init_179 : decode cX5_init 179 = .ok (.aload_n 0, 1) := by decide +kernel
theorem dX5_init_180 : decode cX5_init 180 = .ok (.bipush 64, 2) := by decide +kernel
theorem dX5_init_182 : decode cX5_init 182 = .ok (.newarray .boolean, 2) := by decide +kernel
theorem dX5_init_184 : decode cX5_init 184 = .ok (.putfield 75, 3) := by decide +kernel
theorem dX5_init_187 : decode cX5_init 187 = .ok (.aload_n 0, 1) := by decide +kernel
theorem dX5_init_188 : decode cX5_init 188 = .ok (.bipush 64, 2) := by decide +kernel
theorem dX5_init_190 : decode cX5_init 190 = .ok (.newarray .long, 2) := by decide +kernel
theorem dX5_init_192 : decode cX5_init 192 = .ok (.putfield 78, 3) := by decide +kernel
theorem dX5_init_195 : decode cX5_init 195 = .ok (.aload_n 0, 1) := by decide +kernel
theorem dX5_init_196 : decode cX5_init 196 = .ok (.bipush 32, 2) := by decide +kernel
theorem dX5_init_198 : decode cX5_init 198 = .ok (.newarray .int, 2) := by decide +kernel
theorem dX5_init_200 : decode cX5_init 200 = .ok (.putfield 81, 3) := by decide +kernel
theorem dX5_init_203 : decode cX5_init 203 = .ok (.aload_n 0, 1) := by decide +kernel
theorem dX5_init_204 : decode cX5_init 204 = .ok (.sipush 1600, 3) := by decide +kernel
theorem dX5_init_207 : decode cX5_init 207 = .ok (.newarray .long, 2) := by decide +kernel
theorem dX5_init_209 : decode cX5_init 209 = .ok (.putfield 84, 3) := by decide +kernel
theorem dX5_init_212 : decode cX5_init 212 = .ok (.return_, 1) := by decide +kernel
theorem dX5_isName_0 : decode cX5_isName 0 = .ok (.iload_n 1, 1) := by decide +kernel
theorem dX5_isName_1 : decode cX5_isName 1 = .ok (.ifCond .lt 15, 3) := by decide +kernel
theorem dX5_isName_4 : decode cX5_isName 4 = .ok (.iload_n 1, 1) := by decide +kernel
theorem dX5_isName_5 : decode cX5_isName 5 = .ok (.aload_n 0, 1) := by decide +kernel
theorem dX5_isName_6 : decode cX5_isName 6 = .ok (.getfield 87, 3) := by decide +kernel
theorem dX5_isName_9 : decode cX5_isName 9 = .ok (.if_icmp .ge 7, 3) := by decide +kernel
theorem dX5_isName_12 : decode cX5_isName 12 = .ok (.iconst 1, 1) := by decide +kernel
theorem dX5_isName_13 : decode cX5_isName 13 = .ok (.goto 4, 3) := by decide +kernel
theorem dX5_isName_16 : decode cX5_isName 16 = .ok (.iconst 0, 1) := by decide +kernel
theorem dX5_isName_17 : decode cX5_isName 17 = .ok (.ireturn, 1) := by decide +kernel
set_option maxRecDepth 20000 in
theorem ggX5_works_X5_holds : GoodIn wsX5_works wsX5_holds := goodIn_r _ [32, 33, 34, 35, 36, 37, 38, 39, 40, 31, 41, 3, 2, 42, 43, 44, 45, 46, 16, 47, 48, 49, 50, 51, 52, 53, 54, 55, 56, 57, 58, 59, 60, 61, 62, 63, 64, 65, 66, 67, 68, 69, 70, 71, 72, 73, 74, 75, 76, 77, 78, 79, 80, 81] (by decide +kernel) (by decide +kernel)
set_option maxRecDepth 20000 in
theorem gX5_works_X5_holds : GoodIn wsX5_works (wsV RX5 111 RX5 yX5_holds wsX5_holds) := goodIn_app (goodIn_of _ (by decide +kernel)) ggX5_works_X5_holds
theorem dX5_works_0 : decode cX5_works 0 = .ok (.iconst 0, 1) := by decide +kernel
theorem dX5_works_1 : decode cX5_works 1 = .ok (.istore_n 1, 1) := by decide +kernel
theorem dX5_works_2 : decode cX5_works 2 = .ok (.iload_n 1, 1) := by decide +kernel
theorem dX5_works_3 : decode cX5_works 3 = .ok (.aload_n 0, 1) := by decide +kernel
theorem dX5_works_4 : decode cX5_works 4 = .ok (.getfield 87, 3) := by decide +kernel
theorem dX5_works_7 : decode cX5_works 7 = .ok (.if_icmp .ge 30, 3) := by decide +kernel
theorem dX5_works_10 : decode cX5_works 10 = .ok (.aload_n 0, 1) := by decide +kernel
theorem dX5_works_11 : decode cX5_works 11 = .ok (.getfield 56, 3) := by decide +kernel
theorem dX5_works_14 : decode cX5_works 14 = .ok (.iload_n 1, 1) := by decide +kernel
theorem dX5_works_15 : decode cX5_works 15 = .ok (.iload_n 1, 1) := by decide +kernel
theorem dX5_works_16 : decode cX5_works 16 = .ok (.iastore, 1) := by decide +kernel
theorem dX5_works_17 : decode cX5_works 17 = .ok (.aload_n 0, 1) := by decide +kernel
theorem dX5_works_18 : decode cX5_works 18 = .ok (.getfield 59, 3) := by decide +kernel
theorem dX5_works_21 : decode cX5_works 21 = .ok (.iload_n 1, 1) := by decide +kernel
theorem dX5_works_22 : decode cX5_works 22 = .ok (.iconst 0, 1) := by decide +kernel
theorem dX5_works_23 : decode cX5_works 23 = .ok (.bastore, 1) := by decide +kernel
theorem dX5_works_24 : decode cX5_works 24 = .ok (.aload_n 0, 1) := by decide +kernel
theorem dX5_works_25 : decode cX5_works 25 = .ok (.getfield 63, 3) := by decide +kernel
theorem dX5_works_28 : decode cX5_works 28 = .ok (.iload_n 1, 1) := by decide +kernel
theorem dX5_works_29 : decode cX5_works 29 = .ok (.iconst 0, 1) := by decide +kernel
theorem dX5_works_30 : decode cX5_works 30 = .ok (.bastore, 1) := by decide +kernel
theorem dX5_works_31 : decode cX5_works 31 = .ok (.iinc 1 1, 3) := by decide +kernel
theorem dX5_works_34 : decode cX5_works 34 = .ok (.goto (-32), 3) := by decide +kernel
theorem dX5_works_37 : decode cX5_works 37 = .ok (.iconst 0, 1) := by decide +kernel
theorem dX5_works_38 : decode cX5_works 38 = .ok (.istore_n 1, 1) := by decide +kernel
theorem dX5_works_39 : decode cX5_works 39 = .ok (.iload_n 1, 1) := by decide +kernel
theorem dX5_works_40 : decode cX5_works 40 = .ok (.aload_n 0, 1) := by decide +kernel
theorem dX5_works_41 : decode cX5_works 41 = .ok (.getfield 91, 3) := by decide +kernel
theorem dX5_works_44 : decode cX5_works 44 = .ok (.if_icmp .ge 111, 3) := by decide +kernel
theorem dX5_works_47 : decode cX5_works 47 = .ok (.aload_n 0, 1) := by decide +kernel
theorem dX5_works_48 : decode cX5_works 48 = .ok (.getfield 9, 3) := by decide +kernel
theorem dX5_works_51 : decode cX5_works 51 = .ok (.iload_n 1, 1) := by decide +kernel
theorem dX5_works_52 : decode cX5_works 52 = .ok (.iaload, 1) := by decide +kernel
theorem dX5_works_53 : decode cX5_works 53 = .ok (.iconst 2, 1) := by decide +kernel
theorem dX5_works_54 : decode cX5_works 54 = .ok (.if_icmp .eq 6, 3) := by decide +kernel
theorem dX5_works_57 : decode cX5_works 57 = .ok (.goto 92, 3) := by decide +kernel
theorem dX5_works_60 : decode cX5_works 60 = .ok (.aload_n 0, 1) := by decide +kernel
theorem dX5_works_61 : decode cX5_works 61 = .ok (.getfield 56, 3) := by decide +kernel
theorem dX5_works_64 : decode cX5_works 64 = .ok (.aload_n 0, 1) := by decide +kernel
theorem dX5_works_65 : decode cX5_works 65 = .ok (.getfield 13, 3) := by decide +kernel
theorem dX5_works_68 : decode cX5_works 68 = .ok (.iload_n 1, 1) := by decide +kernel
theorem dX5_works_69 : decode cX5_works 69 = .ok (.iaload, 1) := by decide +kernel
theorem dX5_works_70 : decode cX5_works 70 = .ok (.iaload, 1) := by decide +kernel
theorem dX5_works_71 : decode cX5_works 71 = .ok (.aload_n 0, 1) := by decide +kernel
theorem dX5_works_72 : decode cX5_works 72 = .ok (.getfield 56, 3) := by decide +kernel
theorem dX5_works_75 : decode cX5_works 75 = .ok (.aload_n 0, 1) := by decide +kernel
theorem dX5_works_76 : decode cX5_works 76 = .ok (.getfield 16, 3) := by decide +kernel
theorem dX5_works_79 : decode cX5_works 79 = .ok (.iload_n 1, 1) := by decide +kernel
theorem dX5_works_80 : decode cX5_works 80 = .ok (.iaload, 1) := by decide +kernel
theorem dX5_works_81 : decode cX5_works 81 = .ok (.iaload, 1) := by decide +kernel
theorem dX5_works_82 : decode cX5_works 82 = .ok (.invokestatic 94, 3) := by decide +kernel
theorem dX5_works_85 : decode cX5_works 85 = .ok (.istore_n 2, 1) := by decide +kernel
theorem dX5_works_86 : decode cX5_works 86 = .ok (.aload_n 0, 1) := by decide +kernel
theorem dX5_works_87 : decode cX5_works 87 = .ok (.getfield 56, 3) := by decide +kernel
theorem dX5_works_90 : decode cX5_works 90 = .ok (.aload_n 0, 1) := by decide +kernel
theorem dX5_works_91 : decode cX5_works 91 = .ok (.getfield 13, 3) := by decide +kernel
theorem dX5_works_94 : decode cX5_works 94 = .ok (.iload_n 1, 1) := by decide +kernel
theorem dX5_works_95 : decode cX5_works 95 = .ok (.iaload, 1) := by decide +kernel
theorem dX5_works_96 : decode cX5_works 96 = .ok (.iaload, 1) := by decide +kernel
theorem dX5_works_97 : decode cX5_works 97 = .ok (.aload_n 0, 1) := by decide +kernel
theorem dX5_works_98 : decode cX5_works 98 = .ok (.getfield 56, 3) := by decide +kernel
theorem dX5_works_101 : decode cX5_works 101 = .ok (.aload_n 0, 1) := by decide +kernel
theorem dX5_works_102 : decode cX5_works 102 = .ok (.getfield 16, 3) := by decide +kernel
theorem dX5_works_105 : decode cX5_works 105 = .ok (.iload_n 1, 1) := by decide +kernel
theorem dX5_works_106 : decode cX5_works 106 = .ok (.iaload, 1) := by decide +kernel
theorem dX5_works_107 : decode cX5_works 107 = .ok (.iaload, 1) := by decide +kernel
theorem dX5_works_108 : decode cX5_works 108 = .ok (.invokestatic 100, 3) := by decide +kernel
theorem dX5_works_111 : decode cX5_works 111 = .ok (.istore_n 3, 1) := by decide +kernel
theorem dX5_works_112 : decode cX5_works 112 = .ok (.iconst 0, 1) := by decide +kernel
theorem dX5_works_113 : decode cX5_works 113 = .ok (.istore 4, 2) := by decide +kernel
theorem dX5_works_115 : decode cX5_works 115 = .ok (.iload 4, 2) := by decide +kernel
theorem dX5_works_117 : decode cX5_works 117 = .ok (.aload_n 0, 1) := by decide +kernel
theorem dX5_works_118 : decode cX5_works 118 = .ok (.getfield 87, 3) := by decide +kernel
theorem dX5_works_121 : decode cX5_works 121 = .ok (.if_icmp .ge 28, 3) := by decide +kernel
theorem dX5_works_124 : decode cX5_works 124 = .ok (.aload_n 0, 1) := by decide +kernel
theorem dX5_works_125 : decode cX5_works 125 = .ok (.getfield 56, 3) := by decide +kernel
theorem dX5_works_128 : decode cX5_works 128 = .ok (.iload 4, 2) := by decide +kernel
theorem dX5_works_130 : decode cX5_works 130 = .ok (.iaload, 1) := by decide +kernel
theorem dX5_works_131 : decode cX5_works 131 = .ok (.iload_n 3, 1) := by decide +kernel
theorem dX5_works_132 : decode cX5_works 132 = .ok (.if_icmp .ne 11, 3) := by decide +kernel
theorem dX5_works_135 : decode cX5_works 135 = .ok (.aload_n 0, 1) := by decide +kernel
theorem dX5_works_136 : decode cX5_works 136 = .ok (.getfield 56, 3) := by decide +kernel
theorem dX5_works_139 : decode cX5_works 139 = .ok (.iload 4, 2) := by decide +kernel
theorem dX5_works_141 : decode cX5_works 141 = .ok (.iload_n 2, 1) := by decide +kernel
theorem dX5_works_142 : decode cX5_works 142 = .ok (.iastore, 1) := by decide +kernel
theorem dX5_works_143 : decode cX5_works 143 = .ok (.iinc 4 1, 3) := by decide +kernel
theorem dX5_works_146 : decode cX5_works 146 = .ok (.goto (-31), 3) := by decide +kernel
theorem dX5_works_149 : decode cX5_works 149 = .ok (.iinc 1 1, 3) := by decide +kernel
theorem dX5_works_152 : decode cX5_works 152 = .ok (.goto (-113), 3) := by decide +kernel
theorem dX5_works_155 : decode cX5_works 155 = .ok (.iconst 1, 1) := by decide +kernel
theorem dX5_works_156 : decode cX5_works 156 = .ok (.istore_n 1, 1) := by decide +kernel
theorem dX5_works_157 : decode cX5_works 157 = .ok (.iconst 0, 1) := by decide +kernel
theorem dX5_works_158 : decode cX5_works 158 = .ok (.istore_n 2, 1) := by decide +kernel
theorem dX5_works_159 : decode cX5_works 159 = .ok (.iload_n 2, 1) := by decide +kernel
theorem dX5_works_160 : decode cX5_works 160 = .ok (.aload_n 0, 1) := by decide +kernel
theorem dX5_works_161 : decode cX5_works 161 = .ok (.getfield 91, 3) := by decide +kernel
theorem dX5_works_164 : decode cX5_works 164 = .ok (.if_icmp .ge 179, 3) := by decide +kernel
theorem dX5_works_167 : decode cX5_works 167 = .ok (.aload_n 0, 1) := by decide +kernel
theorem dX5_works_168 : decode cX5_works 168 = .ok (.getfield 56, 3) := by decide +kernel
theorem dX5_works_171 : decode cX5_works 171 = .ok (.aload_n 0, 1) := by decide +kernel
theorem dX5_works_172 : decode cX5_works 172 = .ok (.getfield 13, 3) := by decide +kernel
theorem dX5_works_175 : decode cX5_works 175 = .ok (.iload_n 2, 1) := by decide +kernel
theorem dX5_works_176 : decode cX5_works 176 = .ok (.iaload, 1) := by decide +kernel
theorem dX5_works_177 : decode cX5_works 177 = .ok (.iaload, 1) := by decide +kernel
theorem dX5_works_178 : decode cX5_works 178 = .ok (.istore_n 3, 1) := by decide +kernel
theorem dX5_works_179 : decode cX5_works 179 = .ok (.aload_n 0, 1) := by decide +kernel
theorem dX5_works_180 : decode cX5_works 180 = .ok (.getfield 9, 3) := by decide +kernel
theorem dX5_works_183 : decode cX5_works 183 = .ok (.iload_n 2, 1) := by decide +kernel
theorem dX5_works_184 : decode cX5_works 184 = .ok (.iaload, 1) := by decide +kernel
theorem dX5_works_185 : decode cX5_works 185 = .ok (.iconst 1, 1) := by decide +kernel
theorem dX5_works_186 : decode cX5_works 186 = .ok (.if_icmp .ne 57, 3) := by decide +kernel
theorem dX5_works_189 : decode cX5_works 189 = .ok (.iload_n 1, 1) := by decide +kernel
theorem dX5_works_190 : decode cX5_works 190 = .ok (.ifCond .eq 32, 3) := by decide +kernel
theorem dX5_works_193 : decode cX5_works 193 = .ok (.aload_n 0, 1) := by decide +kernel
theorem dX5_works_194 : decode cX5_works 194 = .ok (.getfield 59, 3) := by decide +kernel
theorem dX5_works_197 : decode cX5_works 197 = .ok (.iload_n 3, 1) := by decide +kernel
theorem dX5_works_198 : decode cX5_works 198 = .ok (.baload, 1) := by decide +kernel
theorem dX5_works_199 : decode cX5_works 199 = .ok (.ifCond .eq 19, 3) := by decide +kernel
theorem dX5_works_202 : decode cX5_works 202 = .ok (.aload_n 0, 1) := by decide +kernel
theorem dX5_works_203 : decode cX5_works 203 = .ok (.getfield 66, 3) := by decide +kernel
theorem dX5_works_206 : decode cX5_works 206 = .ok (.iload_n 3, 1) := by decide +kernel
theorem dX5_works_207 : decode cX5_works 207 = .ok (.laload, 1) := by decide +kernel
theorem dX5_works_208 : decode cX5_works 208 = .ok (.aload_n 0, 1) := by decide +kernel
theorem dX5_works_209 : decode cX5_works 209 = .ok (.getfield 19, 3) := by decide +kernel
theorem dX5_works_212 : decode cX5_works 212 = .ok (.iload_n 2, 1) := by decide +kernel
theorem dX5_works_213 : decode cX5_works 213 = .ok (.laload, 1) := by decide +kernel
theorem dX5_works_214 : decode cX5_works 214 = .ok (.lcmp, 1) := by decide +kernel
theorem dX5_works_215 : decode cX5_works 215 = .ok (.ifCond .ne 7, 3) := by decide +kernel
theorem dX5_works_218 : decode cX5_works 218 = .ok (.iconst 1, 1) := by decide +kernel
theorem dX5_works_219 : decode cX5_works 219 = .ok (.goto 4, 3) := by decide +kernel
theorem dX5_works_222 : decode cX5_works 222 = .ok (.iconst 0, 1) := by decide +kernel
theorem dX5_works_223 : decode cX5_works 223 = .ok (.istore_n 1, 1) := by decide +kernel
theorem dX5_works_224 : decode cX5_works 224 = .ok (.aload_n 0, 1) := by decide +kernel
theorem dX5_works_225 : decode cX5_works 225 = .ok (.getfield 59, 3) := by decide +kernel
theorem dX5_works_228 : decode cX5_works 228 = .ok (.iload_n 3, 1) := by decide +kernel
theorem dX5_works_229 : decode cX5_works 229 = .ok (.iconst 1, 1) := by decide +kernel
theorem dX5_works_230 : decode cX5_works 230 = .ok (.bastore, 1) := by decide +kernel
theorem dX5_works_231 : decode cX5_works 231 = .ok (.aload_n 0, 1) := by decide +kernel
theorem dX5_works_232 : decode cX5_works 232 = .ok (.getfield 66, 3) := by decide +kernel
theorem dX5_works_235 : decode cX5_works 235 = .ok (.iload_n 3, 1) := by decide +kernel
theorem dX5_works_236 : decode cX5_works 236 = .ok (.aload_n 0, 1) := by decide +kernel
theorem dX5_works_237 : decode cX5_works 237 = .ok (.getfield 19, 3) := by decide +kernel
theorem dX5_works_240 : decode cX5_works 240 = .ok (.iload_n 2, 1) := by decide +kernel
theorem dX5_works_241 : decode cX5_works 241 = .ok (.laload, 1) := by decide +kernel
theorem dX5_works_242 : decode cX5_works 242 = .ok (.lastore, 1) := by decide +kernel
theorem dX5_works_243 : decode cX5_works 243 = .ok (.aload_n 0, 1) := by decide +kernel
theorem dX5_works_244 : decode cX5_works 244 = .ok (.getfield 9, 3) := by decide +kernel
theorem dX5_works_247 : decode cX5_works 247 = .ok (.iload_n 2, 1) := by decide +kernel
theorem dX5_works_248 : decode cX5_works 248 = .ok (.iaload, 1) := by decide +kernel
theorem dX5_works_249 : decode cX5_works 249 = .ok (.ifCond .ne 88, 3) := by decide +kernel
theorem dX5_works_252 : decode cX5_works 252 = .ok (.aload_n 0, 1) := by decide +kernel
theorem dX5_works_253 : decode cX5_works 253 = .ok (.getfield 69, 3) := by decide +kernel
theorem dX5_works_256 : decode cX5_works 256 = .ok (.iload_n 3, 1) := by decide +kernel
theorem dX5_works_257 : decode cX5_works 257 = .ok (.aload_n 0, 1) := by decide +kernel
theorem dX5_works_258 : decode cX5_works 258 = .ok (.getfield 63, 3) := by decide +kernel
theorem dX5_works_261 : decode cX5_works 261 = .ok (.iload_n 3, 1) := by decide +kernel
theorem dX5_works_262 : decode cX5_works 262 = .ok (.baload, 1) := by decide +kernel
theorem dX5_works_263 : decode cX5_works 263 = .ok (.ifCond .eq 21, 3) := by decide +kernel
theorem dX5_works_266 : decode cX5_works 266 = .ok (.aload_n 0, 1) := by decide +kernel
theorem dX5_works_267 : decode cX5_works 267 = .ok (.getfield 69, 3) := by decide +kernel
theorem dX5_works_270 : decode cX5_works 270 = .ok (.iload_n 3, 1) := by decide +kernel
theorem dX5_works_271 : decode cX5_works 271 = .ok (.laload, 1) := by decide +kernel
theorem dX5_works_272 : decode cX5_works 272 = .ok (.aload_n 0, 1) := by decide +kernel
theorem dX5_works_273 : decode cX5_works 273 = .ok (.getfield 19, 3) := by decide +kernel
theorem dX5_works_276 : decode cX5_works 276 = .ok (.iload_n 2, 1) := by decide +kernel
theorem dX5_works_277 : decode cX5_works 277 = .ok (.laload, 1) := by decide +kernel
theorem dX5_works_278 : decode cX5_works 278 = .ok (.invokestatic 103, 3) := by decide +kernel
theorem dX5_works_281 : decode cX5_works 281 = .ok (.goto 9, 3) := by decide +kernel
theorem dX5_works_284 : decode cX5_works 284 = .ok (.aload_n 0, 1) := by decide +kernel
theorem dX5_works_285 : decode cX5_works 285 = .ok (.getfield 19, 3) := by decide +kernel
theorem dX5_works_288 : decode cX5_works 288 = .ok (.iload_n 2, 1) := by decide +kernel
theorem dX5_works_289 : decode cX5_works 289 = .ok (.laload, 1) := by decide +kernel
theorem dX5_works_290 : decode cX5_works 290 = .ok (.lastore, 1) := by decide +kernel
theorem dX5_works_291 : decode cX5_works 291 = .ok (.aload_n 0, 1) := by decide +kernel
theorem dX5_works_292 : decode cX5_works 292 = .ok (.getfield 72, 3) := by decide +kernel
theorem dX5_works_295 : decode cX5_works 295 = .ok (.iload_n 3, 1) := by decide +kernel
theorem dX5_works_296 : decode cX5_works 296 = .ok (.aload_n 0, 1) := by decide +kernel
theorem dX5_works_297 : decode cX5_works 297 = .ok (.getfield 63, 3) := by decide +kernel
theorem dX5_works_300 : decode cX5_works 300 = .ok (.iload_n 3, 1) := by decide +kernel
theorem dX5_works_301 : decode cX5_works 301 = .ok (.baload, 1) := by decide +kernel
theorem dX5_works_302 : decode cX5_works 302 = .ok (.ifCond .eq 21, 3) := by decide +kernel
theorem dX5_works_305 : decode cX5_works 305 = .ok (.aload_n 0, 1) := by decide +kernel
theorem dX5_works_306 : decode cX5_works 306 = .ok (.getfield 72, 3) := by decide +kernel
theorem dX5_works_309 : decode cX5_works 309 = .ok (.iload_n 3, 1) := by decide +kernel
theorem dX5_works_310 : decode cX5_works 310 = .ok (.laload, 1) := by decide +kernel
theorem dX5_works_311 : decode cX5_works 311 = .ok (.aload_n 0, 1) := by decide +kernel
theorem dX5_works_312 : decode cX5_works 312 = .ok (.getfield 23, 3) := by decide +kernel
theorem dX5_works_315 : decode cX5_works 315 = .ok (.iload_n 2, 1) := by decide +kernel
theorem dX5_works_316 : decode cX5_works 316 = .ok (.laload, 1) := by decide +kernel
theorem dX5_works_317 : decode cX5_works 317 = .ok (.invokestatic 106, 3) := by decide +kernel
theorem dX5_works_320 : decode cX5_works 320 = .ok (.goto 9, 3) := by decide +kernel
theorem dX5_works_323 : decode cX5_works 323 = .ok (.aload_n 0, 1) := by decide +kernel
theorem dX5_works_324 : decode cX5_works 324 = .ok (.getfield 23, 3) := by decide +kernel
theorem dX5_works_327 : decode cX5_works 327 = .ok (.iload_n 2, 1) := by decide +kernel
theorem dX5_works_328 : decode cX5_works 328 = .ok (.laload, 1) := by decide +kernel
theorem dX5_works_329 : decode cX5_works 329 = .ok (.lastore, 1) := by decide +kernel
theorem dX5_works_330 : decode cX5_works 330 = .ok (.aload_n 0, 1) := by decide +kernel
theorem dX5_works_331 : decode cX5_works 331 = .ok (.getfield 63, 3) := by decide +kernel
theorem dX5_works_334 : decode cX5_works 334 = .ok (.iload_n 3, 1) := by decide +kernel
theorem dX5_works_335 : decode cX5_works 335 = .ok (.iconst 1, 1) := by decide +kernel
theorem dX5_works_336 : decode cX5_works 336 = .ok (.bastore, 1) := by decide +kernel
theorem dX5_works_337 : decode cX5_works 337 = .ok (.iinc 2 1, 3) := by decide +kernel
theorem dX5_works_340 : decode cX5_works 340 = .ok (.goto (-181), 3) := by decide +kernel
theorem dX5_works_343 : decode cX5_works 343 = .ok (.iconst 0, 1) := by decide +kernel
theorem dX5_works_344 : decode cX5_works 344 = .ok (.istore_n 2, 1) := by decide +kernel
theorem dX5_works_345 : decode cX5_works 345 = .ok (.iload_n 2, 1) := by decide +kernel
theorem dX5_works_346 : decode cX5_works 346 = .ok (.aload_n 0, 1) := by decide +kernel
theorem dX5_works_347 : decode cX5_works 347 = .ok (.getfield 87, 3) := by decide +kernel
theorem dX5_works_350 : decode cX5_works 350 = .ok (.if_icmp .ge 77, 3) := by decide +kernel
theorem dX5_works_353 : decode cX5_works 353 = .ok (.aload_n 0, 1) := by decide +kernel
theorem dX5_works_354 : decode cX5_works 354 = .ok (.getfield 63, 3) := by decide +kernel
theorem dX5_works_357 : decode cX5_works 357 = .ok (.iload_n 2, 1) := by decide +kernel
theorem dX5_works_358 : decode cX5_works 358 = .ok (.baload, 1) := by decide +kernel
theorem dX5_works_359 : decode cX5_works 359 = .ok (.ifCond .eq 62, 3) := by decide +kernel
theorem dX5_works_362 : decode cX5_works 362 = .ok (.aload_n 0, 1) := by decide +kernel
theorem dX5_works_363 : decode cX5_works 363 = .ok (.getfield 69, 3) := by decide +kernel
theorem dX5_works_366 : decode cX5_works 366 = .ok (.iload_n 2, 1) := by decide +kernel
theorem dX5_works_367 : decode cX5_works 367 = .ok (.laload, 1) := by decide +kernel
theorem dX5_works_368 : decode cX5_works 368 = .ok (.aload_n 0, 1) := by decide +kernel
theorem dX5_works_369 : decode cX5_works 369 = .ok (.getfield 72, 3) := by decide +kernel
theorem dX5_works_372 : decode cX5_works 372 = .ok (.iload_n 2, 1) := by decide +kernel
theorem dX5_works_373 : decode cX5_works 373 = .ok (.laload, 1) := by decide +kernel
theorem dX5_works_374 : decode cX5_works 374 = .ok (.lcmp, 1) := by decide +kernel
theorem dX5_works_375 : decode cX5_works 375 = .ok (.ifCond .gt 44, 3) := by decide +kernel
theorem dX5_works_378 : decode cX5_works 378 = .ok (.aload_n 0, 1) := by decide +kernel
theorem dX5_works_379 : decode cX5_works 379 = .ok (.getfield 59, 3) := by decide +kernel
theorem dX5_works_382 : decode cX5_works 382 = .ok (.iload_n 2, 1) := by decide +kernel
theorem dX5_works_383 : decode cX5_works 383 = .ok (.baload, 1) := by decide +kernel
theorem dX5_works_384 : decode cX5_works 384 = .ok (.ifCond .eq 37, 3) := by decide +kernel
theorem dX5_works_387 : decode cX5_works 387 = .ok (.aload_n 0, 1) := by decide +kernel
theorem dX5_works_388 : decode cX5_works 388 = .ok (.getfield 66, 3) := by decide +kernel
