theorem inlX0 : ∀ w ∈ wsX00, w ∈ wsL_law := fun _ h => List.mem_append_left _ (List.mem_append_right _ h)
theorem inlX1 : ∀ w ∈ wsX10, w ∈ wsL_law := fun _ h => List.mem_append_left _ (List.mem_append_left _ (List.mem_append_left _ (List.mem_append_left _ (List.mem_append_left _ (List.mem_append_right _ h)))))
theorem inlX2 : ∀ w ∈ wsX20, w ∈ wsL_law := fun _ h => List.mem_append_left _ (List.mem_append_left _ (List.mem_append_left _ (List.mem_append_left _ (List.mem_append_right _ h))))
theorem inlX3 : ∀ w ∈ wsX30, w ∈ wsL_law := fun _ h => List.mem_append_left _ (List.mem_append_left _ (List.mem_append_right _ h))
theorem inlX4 : ∀ w ∈ wsX40, w ∈ wsL_law := fun _ h => List.mem_append_left _ (List.mem_append_left _ (List.mem_append_left _ (List.mem_append_left _ (List.mem_append_left _ (List.mem_append_left _ (List.mem_append_left _ (List.mem_append_right _ h)))))))
theorem inlX5 : ∀ w ∈ wsX50, w ∈ wsL_law := fun _ h => List.mem_append_left _ (List.mem_append_left _ (List.mem_append_left _ (List.mem_append_left _ (List.mem_append_left _ (List.mem_append_left _ (List.mem_append_right _ h))))))
theorem inJx145de : ∀ w ∈ wsJx145de0, w ∈ lw_tbl := by decide +kernel
theorem inJx8e188 : ∀ w ∈ wsJx8e1880, w ∈ lw_tbl := by decide +kernel
theorem inJxab1ab : ∀ w ∈ wsJxab1ab0, w ∈ lw_tbl := by decide +kernel
theorem inJ9 : ∀ w ∈ wsJ90, w ∈ lw_tbl := by decide +kernel
theorem inJ10 : ∀ w ∈ wsJ100, w ∈ lw_tbl := by decide +kernel
theorem inJxa1e45 : ∀ w ∈ wsJxa1e450, w ∈ lw_tbl := by decide +kernel
theorem inJxc12de : ∀ w ∈ wsJxc12de0, w ∈ lw_tbl := by decide +kernel
theorem inlJx4a65c : ∀ w ∈ wsJx4a65c0, w ∈ wsL_law := fun _ h => List.mem_append_left _ (List.mem_append_left _ (List.mem_append_left _ (List.mem_append_right _ h)))
theorem inJ7 : ∀ w ∈ wsJ70, w ∈ lw_tbl := by decide +kernel
theorem inJx5ef63 : ∀ w ∈ wsJx5ef630, w ∈ lw_tbl := by decide +kernel
theorem inJxbd725 : ∀ w ∈ wsJxbd7250, w ∈ lw_tbl := by decide +kernel
theorem inJ15 : ∀ w ∈ wsJ150, w ∈ lw_tbl := by decide +kernel
theorem inJxf0a74 : ∀ w ∈ wsJxf0a740, w ∈ lw_tbl := by decide +kernel
theorem inJxa66e6 : ∀ w ∈ wsJxa66e60, w ∈ lw_tbl := by decide +kernel
theorem inJ8 : ∀ w ∈ wsJ80, w ∈ lw_tbl := by decide +kernel
theorem inJ3 : ∀ w ∈ wsJ30, w ∈ lw_tbl := by decide +kernel
set_option maxRecDepth 20000 in
theorem ggX0_init_J7_copyOf_59c91 : GoodIn wsX0_init wsJ7_copyOf_59c91 := goodIn_r _ [12, 13, 14, 15, 16, 17, 18, 19, 20, 21, 22, 23, 24, 25, 26, 27] (by decide +kernel) (by decide +kernel)
set_option maxRecDepth 20000 in
theorem gX0_init_J7_copyOf_59c91 : GoodIn wsX0_init (va_wsS RX0 28 yJ7_copyOf_59c91 wsJ7_copyOf_59c91) := goodIn_app (goodIn_of _ (by decide +kernel)) ggX0_init_J7_copyOf_59c91
set_option maxRecDepth 20000 in
theorem ggX0_init_J7_copyOf_c38d5 : GoodIn wsX0_init wsJ7_copyOf_c38d5 := goodIn_r _ [30, 31, 32, 15, 16, 33, 34, 35, 20, 21, 22, 23, 24, 25, 26, 27] (by decide +kernel) (by decide +kernel)
set_option maxRecDepth 20000 in
theorem gX0_init_J7_copyOf_c38d5 : GoodIn wsX0_init (va_wsS RX0 39 yJ7_copyOf_c38d5 wsJ7_copyOf_c38d5) := goodIn_app (goodIn_of _ (by decide +kernel)) ggX0_init_J7_copyOf_c38d5
theorem dX0_init_0 : decode cX0_init 0 = .ok (.aload_n 0, 1) := by decide +kernel
theorem dX0_init_1 : decode cX0_init 1 = .ok (.invokespecial 3, 3) := by decide +kernel
theorem dX0_init_4 : decode cX0_init 4 = .ok (.aload_n 0, 1) := by decide +kernel
theorem dX0_init_5 : decode cX0_init 5 = .ok (.iload_n 1, 1) := by decide +kernel
theorem dX0_init_6 : decode cX0_init 6 = .ok (.putfield 9, 3) := by decide +kernel
theorem dX0_init_9 : decode cX0_init 9 = .ok (.aload_n 0, 1) := by decide +kernel
theorem dX0_init_10 : decode cX0_init 10 = .ok (.lload_n 2, 1) := by decide +kernel
theorem dX0_init_11 : decode cX0_init 11 = .ok (.putfield 15, 3) := by decide +kernel
theorem dX0_init_14 : decode cX0_init 14 = .ok (.aload_n 0, 1) := by decide +kernel
theorem dX0_init_15 : decode cX0_init 15 = .ok (.aload 4, 2) := by decide +kernel
theorem dX0_init_17 : decode cX0_init 17 = .ok (.getfield 19, 3) := by decide +kernel
theorem dX0_init_20 : decode cX0_init 20 = .ok (.aload 4, 2) := by decide +kernel
theorem dX0_init_22 : decode cX0_init 22 = .ok (.getfield 25, 3) := by decide +kernel
theorem dX0_init_25 : decode cX0_init 25 = .ok (.invokestatic 28, 3) := by decide +kernel
theorem dX0_init_28 : decode cX0_init 28 = .ok (.putfield 34, 3) := by decide +kernel
theorem dX0_init_31 : decode cX0_init 31 = .ok (.aload_n 0, 1) := by decide +kernel
theorem dX0_init_32 : decode cX0_init 32 = .ok (.aload 4, 2) := by decide +kernel
theorem dX0_init_34 : decode cX0_init 34 = .ok (.getfield 35, 3) := by decide +kernel
theorem dX0_init_37 : decode cX0_init 37 = .ok (.aload 4, 2) := by decide +kernel
theorem dX0_init_39 : decode cX0_init 39 = .ok (.getfield 25, 3) := by decide +kernel
theorem dX0_init_42 : decode cX0_init 42 = .ok (.invokestatic 39, 3) := by decide +kernel
theorem dX0_init_45 : decode cX0_init 45 = .ok (.putfield 42, 3) := by decide +kernel
theorem dX0_init_48 : decode cX0_init 48 = .ok (.return_, 1) := by decide +kernel
set_option maxRecDepth 20000 in
theorem ggX0_countFree_X1_isKnown : GoodIn wsX0_countFree wsX1_isKnown := goodIn_r _ [6, 7, 8, 13, 14, 15, 16, 17, 18, 19] (by decide +kernel) (by decide +kernel)
set_option maxRecDepth 20000 in
theorem gX0_countFree_X1_isKnown : GoodIn wsX0_countFree (wsV RX0 43 RX1 yX1_isKnown wsX1_isKnown) := goodIn_app (goodIn_of _ (by decide +kernel)) ggX0_countFree_X1_isKnown
theorem dX0_countFree_0 : decode cX0_countFree 0 = .ok (.iconst 0, 1) := by decide +kernel
theorem dX0_countFree_1 : decode cX0_countFree 1 = .ok (.istore_n 2, 1) := by decide +kernel
theorem dX0_countFree_2 : decode cX0_countFree 2 = .ok (.iconst 0, 1) := by decide +kernel
theorem dX0_countFree_3 : decode cX0_countFree 3 = .ok (.istore_n 3, 1) := by decide +kernel
theorem dX0_countFree_4 : decode cX0_countFree 4 = .ok (.iload_n 3, 1) := by decide +kernel
theorem dX0_countFree_5 : decode cX0_countFree 5 = .ok (.aload_n 0, 1) := by decide +kernel
theorem dX0_countFree_6 : decode cX0_countFree 6 = .ok (.getfield 34, 3) := by decide +kernel
theorem dX0_countFree_9 : decode cX0_countFree 9 = .ok (.arraylength, 1) := by decide +kernel
theorem dX0_countFree_10 : decode cX0_countFree 10 = .ok (.if_icmp .ge 25, 3) := by decide +kernel
theorem dX0_countFree_13 : decode cX0_countFree 13 = .ok (.aload_n 1, 1) := by decide +kernel
theorem dX0_countFree_14 : decode cX0_countFree 14 = .ok (.aload_n 0, 1) := by decide +kernel
theorem dX0_countFree_15 : decode cX0_countFree 15 = .ok (.getfield 34, 3) := by decide +kernel
theorem dX0_countFree_18 : decode cX0_countFree 18 = .ok (.iload_n 3, 1) := by decide +kernel
theorem dX0_countFree_19 : decode cX0_countFree 19 = .ok (.iaload, 1) := by decide +kernel
theorem dX0_countFree_20 : decode cX0_countFree 20 = .ok (.invokevirtual 43, 3) := by decide +kernel
theorem dX0_countFree_23 : decode cX0_countFree 23 = .ok (.ifCond .ne 6, 3) := by decide +kernel
theorem dX0_countFree_26 : decode cX0_countFree 26 = .ok (.iinc 2 1, 3) := by decide +kernel
theorem dX0_countFree_29 : decode cX0_countFree 29 = .ok (.iinc 3 1, 3) := by decide +kernel
theorem dX0_countFree_32 : decode cX0_countFree 32 = .ok (.goto (-28), 3) := by decide +kernel
theorem dX0_countFree_35 : decode cX0_countFree 35 = .ok (.iload_n 2, 1) := by decide +kernel
theorem dX0_countFree_36 : decode cX0_countFree 36 = .ok (.ireturn, 1) := by decide +kernel
set_option maxRecDepth 20000 in
theorem ggX0_holds_X1_leastOf : GoodIn wsX0_holds wsX1_leastOf := goodIn_r _ [6, 7, 12, 13, 14, 15, 16, 17, 18] (by decide +kernel) (by decide +kernel)
set_option maxRecDepth 20000 in
theorem gX0_holds_X1_leastOf : GoodIn wsX0_holds (wsV RX0 49 RX1 yX1_leastOf wsX1_leastOf) := goodIn_app (goodIn_of _ (by decide +kernel)) ggX0_holds_X1_leastOf
theorem dX0_holds_0 : decode cX0_holds 0 = .ok (.iconst 0, 1) := by decide +kernel
theorem dX0_holds_1 : decode cX0_holds 1 = .ok (.istore_n 3, 1) := by decide +kernel
theorem dX0_holds_2 : decode cX0_holds 2 = .ok (.iload_n 3, 1) := by decide +kernel
theorem dX0_holds_3 : decode cX0_holds 3 = .ok (.aload_n 0, 1) := by decide +kernel
theorem dX0_holds_4 : decode cX0_holds 4 = .ok (.getfield 34, 3) := by decide +kernel
theorem dX0_holds_7 : decode cX0_holds 7 = .ok (.arraylength, 1) := by decide +kernel
theorem dX0_holds_8 : decode cX0_holds 8 = .ok (.if_icmp .ge 29, 3) := by decide +kernel
theorem dX0_holds_11 : decode cX0_holds 11 = .ok (.aload_n 2, 1) := by decide +kernel
theorem dX0_holds_12 : decode cX0_holds 12 = .ok (.aload_n 0, 1) := by decide +kernel
theorem dX0_holds_13 : decode cX0_holds 13 = .ok (.getfield 34, 3) := by decide +kernel
theorem dX0_holds_16 : decode cX0_holds 16 = .ok (.iload_n 3, 1) := by decide +kernel
theorem dX0_holds_17 : decode cX0_holds 17 = .ok (.iaload, 1) := by decide +kernel
theorem dX0_holds_18 : decode cX0_holds 18 = .ok (.invokevirtual 49, 3) := by decide +kernel
theorem dX0_holds_21 : decode cX0_holds 21 = .ok (.aload_n 2, 1) := by decide +kernel
theorem dX0_holds_22 : decode cX0_holds 22 = .ok (.iload_n 1, 1) := by decide +kernel
theorem dX0_holds_23 : decode cX0_holds 23 = .ok (.invokevirtual 49, 3) := by decide +kernel
theorem dX0_holds_26 : decode cX0_holds 26 = .ok (.if_icmp .ne 5, 3) := by decide +kernel
theorem dX0_holds_29 : decode cX0_holds 29 = .ok (.iconst 1, 1) := by decide +kernel
theorem dX0_holds_30 : decode cX0_holds 30 = .ok (.ireturn, 1) := by decide +kernel
theorem dX0_holds_31 : decode cX0_holds 31 = .ok (.iinc 3 1, 3) := by decide +kernel
theorem dX0_holds_34 : decode cX0_holds 34 = .ok (.goto (-32), 3) := by decide +kernel
theorem dX0_holds_37 : decode cX0_holds 37 = .ok (.iconst 0, 1) := by decide +kernel
theorem dX0_holds_38 : decode cX0_holds 38 = .ok (.ireturn, 1) := by decide +kernel
set_option maxRecDepth 20000 in
theorem ggX0_isSo_X0_sum : GoodIn wsX0_isSo wsX0_sum := goodIn_r _ [7, 8, 9, 10, 11, 12, 13, 14, 15, 16, 21, 22, 23, 24, 25, 26, 27, 28, 29, 30, 31] (by decide +kernel) (by decide +kernel)
set_option maxRecDepth 20000 in
theorem gX0_isSo_X0_sum : GoodIn wsX0_isSo (wsV RX0 53 RX0 yX0_sum wsX0_sum) := goodIn_app (goodIn_of _ (by decide +kernel)) ggX0_isSo_X0_sum
set_option maxRecDepth 20000 in
theorem ggX0_isSo_X0_allUnlike : GoodIn wsX0_isSo wsX0_allUnlike := goodIn_r _ [20, 8, 10, 11, 12, 13, 14, 15, 16, 21, 22, 23, 24, 25, 26, 27, 28, 29, 30, 31] (by decide +kernel) (by decide +kernel)
set_option maxRecDepth 20000 in
theorem gX0_isSo_X0_allUnlike : GoodIn wsX0_isSo (wsV RX0 57 RX0 yX0_allUnlike wsX0_allUnlike) := goodIn_app (goodIn_of _ (by decide +kernel)) ggX0_isSo_X0_allUnlike
theorem dX0_isSo_0 : decode cX0_isSo 0 = .ok (.aload_n 0, 1) := by decide +kernel
theorem dX0_isSo_1 : decode cX0_isSo 1 = .ok (.getfield 9, 3) := by decide +kernel
theorem dX0_isSo_4 : decode cX0_isSo 4 = .ok (.lookupswitch 66 #[(0, 28), (1, 47)], 28) := by decide +kernel
theorem dX0_isSo_32 : decode cX0_isSo 32 = .ok (.aload_n 0, 1) := by decide +kernel
theorem dX0_isSo_33 : decode cX0_isSo 33 = .ok (.aload_n 1, 1) := by decide +kernel
theorem dX0_isSo_34 : decode cX0_isSo 34 = .ok (.invokevirtual 53, 3) := by decide +kernel
theorem dX0_isSo_37 : decode cX0_isSo 37 = .ok (.aload_n 0, 1) := by decide +kernel
theorem dX0_isSo_38 : decode cX0_isSo 38 = .ok (.getfield 15, 3) := by decide +kernel
theorem dX0_isSo_41 : decode cX0_isSo 41 = .ok (.lcmp, 1) := by decide +kernel
theorem dX0_isSo_42 : decode cX0_isSo 42 = .ok (.ifCond .gt 7, 3) := by decide +kernel
theorem dX0_isSo_45 : decode cX0_isSo 45 = .ok (.iconst 1, 1) := by decide +kernel
theorem dX0_isSo_46 : decode cX0_isSo 46 = .ok (.goto 4, 3) := by decide +kernel
theorem dX0_isSo_49 : decode cX0_isSo 49 = .ok (.iconst 0, 1) := by decide +kernel
theorem dX0_isSo_50 : decode cX0_isSo 50 = .ok (.ireturn, 1) := by decide +kernel
theorem dX0_isSo_51 : decode cX0_isSo 51 = .ok (.aload_n 0, 1) := by decide +kernel
theorem dX0_isSo_52 : decode cX0_isSo 52 = .ok (.aload_n 1, 1) := by decide +kernel
theorem dX0_isSo_53 : decode cX0_isSo 53 = .ok (.invokevirtual 53, 3) := by decide +kernel
theorem dX0_isSo_56 : decode cX0_isSo 56 = .ok (.aload_n 0, 1) := by decide +kernel
theorem dX0_isSo_57 : decode cX0_isSo 57 = .ok (.getfield 15, 3) := by decide +kernel
theorem dX0_isSo_60 : decode cX0_isSo 60 = .ok (.lcmp, 1) := by decide +kernel
theorem dX0_isSo_61 : decode cX0_isSo 61 = .ok (.ifCond .ne 7, 3) := by decide +kernel
theorem dX0_isSo_64 : decode cX0_isSo 64 = .ok (.iconst 1, 1) := by decide +kernel
theorem dX0_isSo_65 : decode cX0_isSo 65 = .ok (.goto 4, 3) := by decide +kernel
theorem dX0_isSo_68 : decode cX0_isSo 68 = .ok (.iconst 0, 1) := by decide +kernel
theorem dX0_isSo_69 : decode cX0_isSo 69 = .ok (.ireturn, 1) := by decide +kernel
theorem dX0_isSo_70 : decode cX0_isSo 70 = .ok (.aload_n 0, 1) := by decide +kernel
theorem dX0_isSo_71 : decode cX0_isSo 71 = .ok (.aload_n 1, 1) := by decide +kernel
theorem dX0_isSo_72 : decode cX0_isSo 72 = .ok (.invokevirtual 57, 3) := by decide +kernel
theorem dX0_isSo_75 : decode cX0_isSo 75 = .ok (.ireturn, 1) := by decide +kernel
set_option maxRecDepth 20000 in
theorem ggX0_sum_X1_numberOf : GoodIn wsX0_sum wsX1_numberOf := goodIn_r _ [7, 8, 9, 14, 15, 16, 17, 18, 19, 20] (by decide +kernel) (by decide +kernel)
set_option maxRecDepth 20000 in
theorem gX0_sum_X1_numberOf : GoodIn wsX0_sum (wsV RX0 61 RX1 yX1_numberOf wsX1_numberOf) := goodIn_app (goodIn_of _ (by decide +kernel)) ggX0_sum_X1_numberOf
theorem dX0_sum_0 : decode cX0_sum 0 = .ok (.lconst 0, 1) := by decide +kernel
theorem dX0_sum_1 : decode cX0_sum 1 = .ok (.lstore_n 2, 1) := by decide +kernel
theorem dX0_sum_2 : decode cX0_sum 2 = .ok (.iconst 0, 1) := by decide +kernel
theorem dX0_sum_3 : decode cX0_sum 3 = .ok (.istore 4, 2) := by decide +kernel
theorem dX0_sum_5 : decode cX0_sum 5 = .ok (.iload 4, 2) := by decide +kernel
theorem dX0_sum_7 : decode cX0_sum 7 = .ok (.aload_n 0, 1) := by decide +kernel
theorem dX0_sum_8 : decode cX0_sum 8 = .ok (.getfield 34, 3) := by decide +kernel
theorem dX0_sum_11 : decode cX0_sum 11 = .ok (.arraylength, 1) := by decide +kernel
theorem dX0_sum_12 : decode cX0_sum 12 = .ok (.if_icmp .ge 31, 3) := by decide +kernel
theorem dX0_sum_15 : decode cX0_sum 15 = .ok (.lload_n 2, 1) := by decide +kernel
theorem dX0_sum_16 : decode cX0_sum 16 = .ok (.aload_n 0, 1) := by decide +kernel
theorem dX0_sum_17 : decode cX0_sum 17 = .ok (.getfield 42, 3) := by decide +kernel
theorem dX0_sum_20 : decode cX0_sum 20 = .ok (.iload 4, 2) := by decide +kernel
theorem dX0_sum_22 : decode cX0_sum 22 = .ok (.laload, 1) := by decide +kernel
theorem dX0_sum_23 : decode cX0_sum 23 = .ok (.aload_n 1, 1) := by decide +kernel
theorem dX0_sum_24 : decode cX0_sum 24 = .ok (.aload_n 0, 1) := by decide +kernel
theorem dX0_sum_25 : decode cX0_sum 25 = .ok (.getfield 34, 3) := by decide +kernel
theorem dX0_sum_28 : decode cX0_sum 28 = .ok (.iload 4, 2) := by decide +kernel
theorem dX0_sum_30 : decode cX0_sum 30 = .ok (.iaload, 1) := by decide +kernel
theorem dX0_sum_31 : decode cX0_sum 31 = .ok (.invokevirtual 61, 3) := by decide +kernel
theorem dX0_sum_34 : decode cX0_sum 34 = .ok (.lmul, 1) := by decide +kernel
theorem dX0_sum_35 : decode cX0_sum 35 = .ok (.ladd, 1) := by decide +kernel
theorem dX0_sum_36 : decode cX0_sum 36 = .ok (.lstore_n 2, 1) := by decide +kernel
theorem dX0_sum_37 : decode cX0_sum 37 = .ok (.iinc 4 1, 3) := by decide +kernel
theorem dX0_sum_40 : decode cX0_sum 40 = .ok (.goto (-35), 3) := by decide +kernel
theorem dX0_sum_43 : decode cX0_sum 43 = .ok (.lload_n 2, 1) := by decide +kernel
theorem dX0_sum_44 : decode cX0_sum 44 = .ok (.lreturn, 1) := by decide +kernel
set_option maxRecDepth 20000 in
theorem ggX0_allUnlike_X1_numberOf : GoodIn wsX0_allUnlike wsX1_numberOf := goodIn_r _ [6, 7, 8, 13, 14, 15, 16, 17, 18, 19] (by decide +kernel) (by decide +kernel)
set_option maxRecDepth 20000 in
theorem gX0_allUnlike_X1_numberOf : GoodIn wsX0_allUnlike (wsV RX0 61 RX1 yX1_numberOf wsX1_numberOf) := goodIn_app (goodIn_of _ (by decide +kernel)) ggX0_allUnlike_X1_numberOf
theorem dX0_allUnlike_0 : decode cX0_allUnlike 0 = .ok (.iconst 1, 1) := by decide +kernel
theorem dX0_allUnlike_1 : decode cX0_allUnlike 1 = .ok (.istore_n 2, 1) := by decide +kernel
theorem dX0_allUnlike_2 : decode cX0_allUnlike 2 = .ok (.iload_n 2, 1) := by decide +kernel
theorem dX0_allUnlike_3 : decode cX0_allUnlike 3 = .ok (.aload_n 0, 1) := by decide +kernel
theorem dX0_allUnlike_4 : decode cX0_allUnlike 4 = .ok (.getfield 34, 3) := by decide +kernel
theorem dX0_allUnlike_7 : decode cX0_allUnlike 7 = .ok (.arraylength, 1) := by decide +kernel
theorem dX0_allUnlike_8 : decode cX0_allUnlike 8 = .ok (.if_icmp .ge 53, 3) := by decide +kernel
theorem dX0_allUnlike_11 : decode cX0_allUnlike 11 = .ok (.aload_n 1, 1) := by decide +kernel
theorem dX0_allUnlike_12 : decode cX0_allUnlike 12 = .ok (.aload_n 0, 1) := by decide +kernel
theorem dX0_allUnlike_13 : decode cX0_allUnlike 13 = .ok (.getfield 34, 3) := by decide +kernel
theorem dX0_allUnlike_16 : decode cX0_allUnlike 16 = .ok (.iload_n 2, 1) := by decide +kernel
theorem dX0_allUnlike_17 : decode cX0_allUnlike 17 = .ok (.iaload, 1) := by decide +kernel
theorem dX0_allUnlike_18 : decode cX0_allUnlike 18 = .ok (.invokevirtual 61, 3) := by decide +kernel
theorem dX0_allUnlike_21 : decode cX0_allUnlike 21 = .ok (.lstore_n 3, 1) := by decide +kernel
theorem dX0_allUnlike_22 : decode cX0_allUnlike 22 = .ok (.iconst 0, 1) := by decide +kernel
theorem dX0_allUnlike_23 : decode cX0_allUnlike 23 = .ok (.istore 5, 2) := by decide +kernel
theorem dX0_allUnlike_25 : decode cX0_allUnlike 25 = .ok (.iload 5, 2) := by decide +kernel
theorem dX0_allUnlike_27 : decode cX0_allUnlike 27 = .ok (.iload_n 2, 1) := by decide +kernel
theorem dX0_allUnlike_28 : decode cX0_allUnlike 28 = .ok (.if_icmp .ge 27, 3) := by decide +kernel
theorem dX0_allUnlike_31 : decode cX0_allUnlike 31 = .ok (.aload_n 1, 1) := by decide +kernel
theorem dX0_allUnlike_32 : decode cX0_allUnlike 32 = .ok (.aload_n 0, 1) := by decide +kernel
theorem dX0_allUnlike_33 : decode cX0_allUnlike 33 = .ok (.getfield 34, 3) := by decide +kernel
theorem dX0_allUnlike_36 : decode cX0_allUnlike 36 = .ok (.iload 5, 2) := by decide +kernel
theorem dX0_allUnlike_38 : decode cX0_allUnlike 38 = .ok (.iaload, 1) := by decide +kernel
theorem dX0_allUnlike_39 : decode cX0_allUnlike 39 = .ok (.invokevirtual 61, 3) := by decide +kernel
theorem dX0_allUnlike_42 : decode cX0_allUnlike 42 = .ok (.lload_n 3, 1) := by decide +kernel
theorem dX0_allUnlike_43 : decode cX0_allUnlike 43 = .ok (.lcmp, 1) := by decide +kernel
theorem dX0_allUnlike_44 : decode cX0_allUnlike 44 = .ok (.ifCond .ne 5, 3) := by decide +kernel
theorem dX0_allUnlike_47 : decode cX0_allUnlike 47 = .ok (.iconst 0, 1) := by decide +kernel
theorem dX0_allUnlike_48 : decode cX0_allUnlike 48 = .ok (.ireturn, 1) := by decide +kernel
theorem dX0_allUnlike_49 : decode cX0_allUnlike 49 = .ok (.iinc 5 1, 3) := by decide +kernel
theorem dX0_allUnlike_52 : decode cX0_allUnlike 52 = .ok (.goto (-27), 3) := by decide +kernel
theorem dX0_allUnlike_55 : decode cX0_allUnlike 55 = .ok (.iinc 2 1, 3) := by decide +kernel
theorem dX0_allUnlike_58 : decode cX0_allUnlike 58 = .ok (.goto (-56), 3) := by decide +kernel
theorem dX0_allUnlike_61 : decode cX0_allUnlike 61 = .ok (.iconst 1, 1) := by decide +kernel
theorem dX0_allUnlike_62 : decode cX0_allUnlike 62 = .ok (.ireturn, 1) := by decide +kernel
set_option maxRecDepth 20000 in
theorem ggX0_levelOfLast_X1_isKnown : GoodIn wsX0_levelOfLast wsX1_isKnown := goodIn_r _ [10, 11, 12, 28, 29, 30, 31, 32, 33, 34] (by decide +kernel) (by decide +kernel)
set_option maxRecDepth 20000 in
theorem gX0_levelOfLast_X1_isKnown : GoodIn wsX0_levelOfLast (wsV RX0 43 RX1 yX1_isKnown wsX1_isKnown) := goodIn_app (goodIn_of _ (by decide +kernel)) ggX0_levelOfLast_X1_isKnown
set_option maxRecDepth 20000 in
theorem ggX0_levelOfLast_X1_leastOf : GoodIn wsX0_levelOfLast wsX1_leastOf := goodIn_r _ [16, 12, 28, 29, 30, 31, 32, 33, 34] (by decide +kernel) (by decide +kernel)
set_option maxRecDepth 20000 in
theorem gX0_levelOfLast_X1_leastOf : GoodIn wsX0_levelOfLast (wsV RX0 49 RX1 yX1_leastOf wsX1_leastOf) := goodIn_app (goodIn_of _ (by decide +kernel)) ggX0_levelOfLast_X1_leastOf
set_option maxRecDepth 20000 in
theorem ggX0_levelOfLast_X3_levelOf : GoodIn wsX0_levelOfLast wsX3_levelOf := goodIn_r _ [21, 22, 23, 35, 36, 37, 38, 39, 40] (by decide +kernel) (by decide +kernel)
set_option maxRecDepth 20000 in
theorem gX0_levelOfLast_X3_levelOf : GoodIn wsX0_levelOfLast (wsV RX0 65 RX3 yX3_levelOf wsX3_levelOf) := goodIn_app (goodIn_of _ (by decide +kernel)) ggX0_levelOfLast_X3_levelOf
theorem dX0_levelOfLast_0 : decode cX0_levelOfLast 0 = .ok (.iconst (-1), 1) := by decide +kernel
theorem dX0_levelOfLast_1 : decode cX0_levelOfLast 1 = .ok (.istore_n 3, 1) := by decide +kernel
theorem dX0_levelOfLast_2 : decode cX0_levelOfLast 2 = .ok (.iconst 0, 1) := by decide +kernel
theorem dX0_levelOfLast_3 : decode cX0_levelOfLast 3 = .ok (.istore 4, 2) := by decide +kernel
theorem dX0_levelOfLast_5 : decode cX0_levelOfLast 5 = .ok (.iload 4, 2) := by decide +kernel
theorem dX0_levelOfLast_7 : decode cX0_levelOfLast 7 = .ok (.aload_n 0, 1) := by decide +kernel
theorem dX0_levelOfLast_8 : decode cX0_levelOfLast 8 = .ok (.getfield 34, 3) := by decide +kernel
theorem dX0_levelOfLast_11 : decode cX0_levelOfLast 11 = .ok (.arraylength, 1) := by decide +kernel
theorem dX0_levelOfLast_12 : decode cX0_levelOfLast 12 = .ok (.if_icmp .ge 58, 3) := by decide +kernel
theorem dX0_levelOfLast_15 : decode cX0_levelOfLast 15 = .ok (.aload_n 1, 1) := by decide +kernel
theorem dX0_levelOfLast_16 : decode cX0_levelOfLast 16 = .ok (.aload_n 0, 1) := by decide +kernel
theorem dX0_levelOfLast_17 : decode cX0_levelOfLast 17 = .ok (.getfield 34, 3) := by decide +kernel
theorem dX0_levelOfLast_20 : decode cX0_levelOfLast 20 = .ok (.iload 4, 2) := by decide +kernel
theorem dX0_levelOfLast_22 : decode cX0_levelOfLast 22 = .ok (.iaload, 1) := by decide +kernel
theorem dX0_levelOfLast_23 : decode cX0_levelOfLast 23 = .ok (.invokevirtual 43, 3) := by decide +kernel
theorem dX0_levelOfLast_26 : decode cX0_levelOfLast 26 = .ok (.ifCond .ne 38, 3) := by decide +kernel
theorem dX0_levelOfLast_29 : decode cX0_levelOfLast 29 = .ok (.aload_n 2, 1) := by decide +kernel
theorem dX0_levelOfLast_30 : decode cX0_levelOfLast 30 = .ok (.aload_n 1, 1) := by decide +kernel
theorem dX0_levelOfLast_31 : decode cX0_levelOfLast 31 = .ok (.aload_n 0, 1) := by decide +kernel
theorem dX0_levelOfLast_32 : decode cX0_levelOfLast 32 = .ok (.getfield 34, 3) := by decide +kernel
theorem dX0_levelOfLast_35 : decode cX0_levelOfLast 35 = .ok (.iload 4, 2) := by decide +kernel
theorem dX0_levelOfLast_37 : decode cX0_levelOfLast 37 = .ok (.iaload, 1) := by decide +kernel
theorem dX0_levelOfLast_38 : decode cX0_levelOfLast 38 = .ok (.invokevirtual 49, 3) := by decide +kernel
theorem dX0_levelOfLast_41 : decode cX0_levelOfLast 41 = .ok (.invokevirtual 65, 3) := by decide +kernel
theorem dX0_levelOfLast_44 : decode cX0_levelOfLast 44 = .ok (.istore 5, 2) := by decide +kernel
theorem dX0_levelOfLast_46 : decode cX0_levelOfLast 46 = .ok (.iload_n 3, 1) := by decide +kernel
theorem dX0_levelOfLast_47 : decode cX0_levelOfLast 47 = .ok (.iload 5, 2) := by decide +kernel
theorem dX0_levelOfLast_49 : decode cX0_levelOfLast 49 = .ok (.iconst (-1), 1) := by decide +kernel
theorem dX0_levelOfLast_50 : decode cX0_levelOfLast 50 = .ok (.if_icmp .ne 8, 3) := by decide +kernel
theorem dX0_levelOfLast_53 : decode cX0_levelOfLast 53 = .ok (.bipush 8, 2) := by decide +kernel
theorem dX0_levelOfLast_55 : decode cX0_levelOfLast 55 = .ok (.goto 5, 3) := by decide +kernel
theorem dX0_levelOfLast_58 : decode cX0_levelOfLast 58 = .ok (.iload 5, 2) := by decide +kernel
theorem dX0_levelOfLast_60 : decode cX0_levelOfLast 60 = .ok (.invokestatic 70, 3) := by decide +kernel
theorem dX0_levelOfLast_63 : decode cX0_levelOfLast 63 = .ok (.istore_n 3, 1) := by decide +kernel
theorem dX0_levelOfLast_64 : decode cX0_levelOfLast 64 = .ok (.iinc 4 1, 3) := by decide +kernel
theorem dX0_levelOfLast_67 : decode cX0_levelOfLast 67 = .ok (.goto (-62), 3) := by decide +kernel
theorem dX0_levelOfLast_70 : decode cX0_levelOfLast 70 = .ok (.iload_n 3, 1) := by decide +kernel
theorem dX0_levelOfLast_71 : decode cX0_levelOfLast 71 = .ok (.ireturn, 1) := by decide +kernel
theorem dX1_init_0 : decode cX1_init 0 = .ok (.aload_n 0, 1) := by decide +kernel
theorem dX1_init_1 : decode cX1_init 1 = .ok (.invokespecial 3, 3) := by decide +kernel
theorem dX1_init_4 : decode cX1_init 4 = .ok (.aload_n 0, 1) := by decide +kernel
theorem dX1_init_5 : decode cX1_init 5 = .ok (.bipush 64, 2) := by decide +kernel
theorem dX1_init_7 : decode cX1_init 7 = .ok (.newarray .int, 2) := by decide +kernel
theorem dX1_init_9 : decode cX1_init 9 = .ok (.putfield 9, 3) := by decide +kernel
theorem dX1_init_12 : decode cX1_init 12 = .ok (.aload_n 0, 1) := by decide +kernel
theorem dX1_init_13 : decode cX1_init 13 = .ok (.bipush 64, 2) := by decide +kernel
theorem dX1_init_15 : decode cX1_init 15 = .ok (.newarray .boolean, 2) := by decide +kernel
theorem dX1_init_17 : decode cX1_init 17 = .ok (.putfield 15, 3) := by decide +kernel
theorem dX1_init_20 : decode cX1_init 20 = .ok (.aload_n 0, 1) := by decide +kernel
theorem dX1_init_21 : decode cX1_init 21 = .ok (.bipush 64, 2) := by decide +kernel
theorem dX1_init_23 : decode cX1_init 23 = .ok (.newarray .long, 2) := by decide +kernel
theorem dX1_init_25 : decode cX1_init 25 = .ok (.putfield 19, 3) := by decide +kernel
theorem dX1_init_28 : decode cX1_init 28 = .ok (.aload_n 0, 1) := by decide +kernel
theorem dX1_init_29 : decode cX1_init 29 = .ok (.bipush 64, 2) := by decide +kernel
theorem dX1_init_31 : decode cX1_init 31 = .ok (.newarray .boolean, 2) := by decide +kernel
theorem dX1_init_33 : decode cX1_init 33 = .ok (.putfield 23, 3) := by decide +kernel
theorem dX1_init_36 : decode cX1_init 36 = .ok (.aload_n 0, 1) := by decide +kernel
theorem dX1_init_37 : decode cX1_init 37 = .ok (.bipush 64, 2) := by decide +kernel
theorem dX1_init_39 : decode cX1_init 39 = .ok (.newarray .long, 2) := by decide +kernel
theorem dX1_init_41 : decode cX1_init 41 = .ok (.putfield 26, 3) := by decide +kernel
theorem dX1_init_44 : decode cX1_init 44 = .ok (.aload_n 0, 1) := by decide +kernel
theorem dX1_init_45 : decode cX1_init 45 = .ok (.bipush 64, 2) := by decide +kernel
theorem dX1_init_47 : decode cX1_init 47 = .ok (.newarray .long, 2) := by decide +kernel
theorem dX1_init_49 : decode cX1_init 49 = .ok (.putfield 29, 3) := by decide +kernel
theorem dX1_init_52 : decode cX1_init 52 = .ok (.return_, 1) := by decide +kernel
theorem dX1_has_0 : decode cX1_has 0 = .ok (.iload_n 1, 1) := by decide +kernel
theorem dX1_has_1 : decode cX1_has 1 = .ok (.ifCond .lt 15, 3) := by decide +kernel
theorem dX1_has_4 : decode cX1_has 4 = .ok (.iload_n 1, 1) := by decide +kernel
theorem dX1_has_5 : decode cX1_has 5 = .ok (.aload_n 0, 1) := by decide +kernel
theorem dX1_has_6 : decode cX1_has 6 = .ok (.getfield 32, 3) := by decide +kernel
theorem dX1_has_9 : decode cX1_has 9 = .ok (.if_icmp .ge 7, 3) := by decide +kernel
theorem dX1_has_12 : decode cX1_has 12 = .ok (.iconst 1, 1) := by decide +kernel
theorem dX1_has_13 : decode cX1_has 13 = .ok (.goto 4, 3) := by decide +kernel
theorem dX1_has_16 : decode cX1_has 16 = .ok (.iconst 0, 1) := by decide +kernel
theorem dX1_has_17 : decode cX1_has 17 = .ok (.ireturn, 1) := by decide +kernel
theorem dX1_addFree_0 : decode cX1_addFree 0 = .ok (.aload_n 0, 1) := by decide +kernel
theorem dX1_addFree_1 : decode cX1_addFree 1 = .ok (.getfield 32, 3) := by decide +kernel
theorem dX1_addFree_4 : decode cX1_addFree 4 = .ok (.bipush 64, 2) := by decide +kernel
theorem dX1_addFree_6 : decode cX1_addFree 6 = .ok (.if_icmp .lt 5, 3) := by decide +kernel
theorem dX1_addFree_9 : decode cX1_addFree 9 = .ok (.iconst (-1), 1) := by decide +kernel
theorem dX1_addFree_10 : decode cX1_addFree 10 = .ok (.ireturn, 1) := by decide +kernel
theorem dX1_addFree_11 : decode cX1_addFree 11 = .ok (.aload_n 0, 1) := by decide +kernel
theorem dX1_addFree_12 : decode cX1_addFree 12 = .ok (.getfield 32, 3) := by decide +kernel
theorem dX1_addFree_15 : decode cX1_addFree 15 = .ok (.istore_n 1, 1) := by decide +kernel
theorem dX1_addFree_16 : decode cX1_addFree 16 = .ok (.aload_n 0, 1) := by decide +kernel
theorem dX1_addFree_17 : decode cX1_addFree 17 = .ok (.getfield 9, 3) := by decide +kernel
theorem dX1_addFree_20 : decode cX1_addFree 20 = .ok (.iload_n 1, 1) := by decide +kernel
theorem dX1_addFree_21 : decode cX1_addFree 21 = .ok (.iload_n 1, 1) := by decide +kernel
theorem dX1_addFree_22 : decode cX1_addFree 22 = .ok (.iastore, 1) := by decide +kernel
theorem dX1_addFree_23 : decode cX1_addFree 23 = .ok (.aload_n 0, 1) := by decide +kernel
theorem dX1_addFree_24 : decode cX1_addFree 24 = .ok (.getfield 15, 3) := by decide +kernel
theorem dX1_addFree_27 : decode cX1_addFree 27 = .ok (.iload_n 1, 1) := by decide +kernel
theorem dX1_addFree_28 : decode cX1_addFree 28 = .ok (.iconst 0, 1) := by decide +kernel
theorem dX1_addFree_29 : decode cX1_addFree 29 = .ok (.bastore, 1) := by decide +kernel
theorem dX1_addFree_30 : decode cX1_addFree 30 = .ok (.aload_n 0, 1) := by decide +kernel
theorem dX1_addFree_31 : decode cX1_addFree 31 = .ok (.getfield 19, 3) := by decide +kernel
theorem dX1_addFree_34 : decode cX1_addFree 34 = .ok (.iload_n 1, 1) := by decide +kernel
theorem dX1_addFree_35 : decode cX1_addFree 35 = .ok (.lconst 0, 1) := by decide +kernel
theorem dX1_addFree_36 : decode cX1_addFree 36 = .ok (.lastore, 1) := by decide +kernel
theorem dX1_addFree_37 : decode cX1_addFree 37 = .ok (.aload_n 0, 1) := by decide +kernel
theorem dX1_addFree_38 : decode cX1_addFree 38 = .ok (.getfield 23, 3) := by decide +kernel
theorem dX1_addFree_41 : decode cX1_addFree 41 = .ok (.iload_n 1, 1) := by decide +kernel
theorem dX1_addFree_42 : decode cX1_addFree 42 = .ok (.iconst 0, 1) := by decide +kernel
theorem dX1_addFree_43 : decode cX1_addFree 43 = .ok (.bastore, 1) := by decide +kernel
theorem dX1_addFree_44 : decode cX1_addFree 44 = .ok (.aload_n 0, 1) := by decide +kernel
theorem dX1_addFree_45 : decode cX1_addFree 45 = .ok (.getfield 26, 3) := by decide +kernel
theorem dX1_addFree_48 : decode cX1_addFree 48 = .ok (.iload_n 1, 1) := by decide +kernel
theorem dX1_addFree_49 : decode cX1_addFree 49 = .ok (.ldc2_w 38, 3) := by decide +kernel
theorem dX1_addFree_52 : decode cX1_addFree 52 = .ok (.lastore, 1) := by decide +kernel
theorem dX1_addFree_53 : decode cX1_addFree 53 = .ok (.aload_n 0, 1) := by decide +kernel
theorem dX1_addFree_54 : decode cX1_addFree 54 = .ok (.getfield 29, 3) := by decide +kernel
theorem dX1_addFree_57 : decode cX1_addFree 57 = .ok (.iload_n 1, 1) := by decide +kernel
theorem dX1_addFree_58 : decode cX1_addFree 58 = .ok (.ldc2_w 40, 3) := by decide +kernel
theorem dX1_addFree_61 : decode cX1_addFree 61 = .ok (.lastore, 1) := by decide +kernel
theorem dX1_addFree_62 : decode cX1_addFree 62 = .ok (.aload_n 0, 1) := by decide +kernel
theorem dX1_addFree_63 : decode cX1_addFree 63 = .ok (.dup, 1) := by decide +kernel
theorem dX1_addFree_64 : decode cX1_addFree 64 = .ok (.getfield 32, 3) := by decide +kernel
theorem dX1_addFree_67 : decode cX1_addFree 67 = .ok (.iconst 1, 1) := by decide +kernel
theorem dX1_addFree_68 : decode cX1_addFree 68 = .ok (.iadd, 1) := by decide +kernel
theorem dX1_addFree_69 : decode cX1_addFree 69 = .ok (.putfield 32, 3) := by decide +kernel
theorem dX1_addFree_72 : decode cX1_addFree 72 = .ok (.iload_n 1, 1) := by decide +kernel
theorem dX1_addFree_73 : decode cX1_addFree 73 = .ok (.ireturn, 1) := by decide +kernel
theorem dX1_leastOf_0 : decode cX1_leastOf 0 = .ok (.aload_n 0, 1) := by decide +kernel
theorem dX1_leastOf_1 : decode cX1_leastOf 1 = .ok (.getfield 9, 3) := by decide +kernel
theorem dX1_leastOf_4 : decode cX1_leastOf 4 = .ok (.iload_n 1, 1) := by decide +kernel
theorem dX1_leastOf_5 : decode cX1_leastOf 5 = .ok (.iaload, 1) := by decide +kernel
theorem dX1_leastOf_6 : decode cX1_leastOf 6 = .ok (.ireturn, 1) := by decide +kernel
theorem dX1_isKnown_0 : decode cX1_isKnown 0 = .ok (.aload_n 0, 1) := by decide +kernel
theorem dX1_isKnown_1 : decode cX1_isKnown 1 = .ok (.getfield 15, 3) := by decide +kernel
theorem dX1_isKnown_4 : decode cX1_isKnown 4 = .ok (.aload_n 0, 1) := by decide +kernel
theorem dX1_isKnown_5 : decode cX1_isKnown 5 = .ok (.getfield 9, 3) := by decide +kernel
theorem dX1_isKnown_8 : decode cX1_isKnown 8 = .ok (.iload_n 1, 1) := by decide +kernel
theorem dX1_isKnown_9 : decode cX1_isKnown 9 = .ok (.iaload, 1) := by decide +kernel
theorem dX1_isKnown_10 : decode cX1_isKnown 10 = .ok (.baload, 1) := by decide +kernel
theorem dX1_isKnown_11 : decode cX1_isKnown 11 = .ok (.ireturn, 1) := by decide +kernel
theorem dX1_numberOf_0 : decode cX1_numberOf 0 = .ok (.aload_n 0, 1) := by decide +kernel
theorem dX1_numberOf_1 : decode cX1_numberOf 1 = .ok (.getfield 19, 3) := by decide +kernel
theorem dX1_numberOf_4 : decode cX1_numberOf 4 = .ok (.aload_n 0, 1) := by decide +kernel
theorem dX1_numberOf_5 : decode cX1_numberOf 5 = .ok (.getfield 9, 3) := by decide +kernel
theorem dX1_numberOf_8 : decode cX1_numberOf 8 = .ok (.iload_n 1, 1) := by decide +kernel
theorem dX1_numberOf_9 : decode cX1_numberOf 9 = .ok (.iaload, 1) := by decide +kernel
theorem dX1_numberOf_10 : decode cX1_numberOf 10 = .ok (.laload, 1) := by decide +kernel
theorem dX1_numberOf_11 : decode cX1_numberOf 11 = .ok (.lreturn, 1) := by decide +kernel
theorem dX1_lowOf_0 : decode cX1_lowOf 0 = .ok (.aload_n 0, 1) := by decide +kernel
theorem dX1_lowOf_1 : decode cX1_lowOf 1 = .ok (.getfield 26, 3) := by decide +kernel
theorem dX1_lowOf_4 : decode cX1_lowOf 4 = .ok (.aload_n 0, 1) := by decide +kernel
theorem dX1_lowOf_5 : decode cX1_lowOf 5 = .ok (.getfield 9, 3) := by decide +kernel
theorem dX1_lowOf_8 : decode cX1_lowOf 8 = .ok (.iload_n 1, 1) := by decide +kernel
theorem dX1_lowOf_9 : decode cX1_lowOf 9 = .ok (.iaload, 1) := by decide +kernel
theorem dX1_lowOf_10 : decode cX1_lowOf 10 = .ok (.laload, 1) := by decide +kernel
theorem dX1_lowOf_11 : decode cX1_lowOf 11 = .ok (.lreturn, 1) := by decide +kernel
theorem dX1_highOf_0 : decode cX1_highOf 0 = .ok (.aload_n 0, 1) := by decide +kernel
theorem dX1_highOf_1 : decode cX1_highOf 1 = .ok (.getfield 29, 3) := by decide +kernel
theorem dX1_highOf_4 : decode cX1_highOf 4 = .ok (.aload_n 0, 1) := by decide +kernel
theorem dX1_highOf_5 : decode cX1_highOf 5 = .ok (.getfield 9, 3) := by decide +kernel
theorem dX1_highOf_8 : decode cX1_highOf 8 = .ok (.iload_n 1, 1) := by decide +kernel
theorem dX1_highOf_9 : decode cX1_highOf 9 = .ok (.iaload, 1) := by decide +kernel
theorem dX1_highOf_10 : decode cX1_highOf 10 = .ok (.laload, 1) := by decide +kernel
theorem dX1_highOf_11 : decode cX1_highOf 11 = .ok (.lreturn, 1) := by decide +kernel
theorem dX1_hasSpan_0 : decode cX1_hasSpan 0 = .ok (.aload_n 0, 1) := by decide +kernel
theorem dX1_hasSpan_1 : decode cX1_hasSpan 1 = .ok (.getfield 23, 3) := by decide +kernel
theorem dX1_hasSpan_4 : decode cX1_hasSpan 4 = .ok (.aload_n 0, 1) := by decide +kernel
theorem dX1_hasSpan_5 : decode cX1_hasSpan 5 = .ok (.getfield 9, 3) := by decide +kernel
theorem dX1_hasSpan_8 : decode cX1_hasSpan 8 = .ok (.iload_n 1, 1) := by decide +kernel
theorem dX1_hasSpan_9 : decode cX1_hasSpan 9 = .ok (.iaload, 1) := by decide +kernel
theorem dX1_hasSpan_10 : decode cX1_hasSpan 10 = .ok (.baload, 1) := by decide +kernel
theorem dX1_hasSpan_11 : decode cX1_hasSpan 11 = .ok (.ireturn, 1) := by decide +kernel
set_option maxRecDepth 20000 in
theorem ggX1_liesInSpan_X1_lowOf : GoodIn wsX1_liesInSpan wsX1_lowOf := goodIn_r _ [5, 6, 7, 13, 14, 15, 16, 17, 18, 19] (by decide +kernel) (by decide +kernel)
set_option maxRecDepth 20000 in
theorem gX1_liesInSpan_X1_lowOf : GoodIn wsX1_liesInSpan (wsV RX1 42 RX1 yX1_lowOf wsX1_lowOf) := goodIn_app (goodIn_of _ (by decide +kernel)) ggX1_liesInSpan_X1_lowOf
set_option maxRecDepth 20000 in
theorem ggX1_liesInSpan_X1_highOf : GoodIn wsX1_liesInSpan wsX1_highOf := goodIn_r _ [11, 12, 7, 13, 14, 15, 16, 17, 18, 19] (by decide +kernel) (by decide +kernel)
set_option maxRecDepth 20000 in
theorem gX1_liesInSpan_X1_highOf : GoodIn wsX1_liesInSpan (wsV RX1 46 RX1 yX1_highOf wsX1_highOf) := goodIn_app (goodIn_of _ (by decide +kernel)) ggX1_liesInSpan_X1_highOf
theorem dX1_liesInSpan_0 : decode cX1_liesInSpan 0 = .ok (.aload_n 0, 1) := by decide +kernel
theorem dX1_liesInSpan_1 : decode cX1_liesInSpan 1 = .ok (.iload_n 1, 1) := by decide +kernel
theorem dX1_liesInSpan_2 : decode cX1_liesInSpan 2 = .ok (.invokevirtual 42, 3) := by decide +kernel
theorem dX1_liesInSpan_5 : decode cX1_liesInSpan 5 = .ok (.lload_n 2, 1) := by decide +kernel
theorem dX1_liesInSpan_6 : decode cX1_liesInSpan 6 = .ok (.lcmp, 1) := by decide +kernel
theorem dX1_liesInSpan_7 : decode cX1_liesInSpan 7 = .ok (.ifCond .gt 17, 3) := by decide +kernel
theorem dX1_liesInSpan_10 : decode cX1_liesInSpan 10 = .ok (.lload_n 2, 1) := by decide +kernel
theorem dX1_liesInSpan_11 : decode cX1_liesInSpan 11 = .ok (.aload_n 0, 1) := by decide +kernel
theorem dX1_liesInSpan_12 : decode cX1_liesInSpan 12 = .ok (.iload_n 1, 1) := by decide +kernel
theorem dX1_liesInSpan_13 : decode cX1_liesInSpan 13 = .ok (.invokevirtual 46, 3) := by decide +kernel
theorem dX1_liesInSpan_16 : decode cX1_liesInSpan 16 = .ok (.lcmp, 1) := by decide +kernel
theorem dX1_liesInSpan_17 : decode cX1_liesInSpan 17 = .ok (.ifCond .gt 7, 3) := by decide +kernel
theorem dX1_liesInSpan_20 : decode cX1_liesInSpan 20 = .ok (.iconst 1, 1) := by decide +kernel
theorem dX1_liesInSpan_21 : decode cX1_liesInSpan 21 = .ok (.goto 4, 3) := by decide +kernel
theorem dX1_liesInSpan_24 : decode cX1_liesInSpan 24 = .ok (.iconst 0, 1) := by decide +kernel
theorem dX1_liesInSpan_25 : decode cX1_liesInSpan 25 = .ok (.ireturn, 1) := by decide +kernel
set_option maxRecDepth 20000 in
theorem ggX1_freedom_X1_isKnown : GoodIn wsX1_freedom wsX1_isKnown := goodIn_r _ [5, 6, 7, 13, 14, 15, 16, 17, 18, 19] (by decide +kernel) (by decide +kernel)
set_option maxRecDepth 20000 in
theorem gX1_freedom_X1_isKnown : GoodIn wsX1_freedom (wsV RX1 49 RX1 yX1_isKnown wsX1_isKnown) := goodIn_app (goodIn_of _ (by decide +kernel)) ggX1_freedom_X1_isKnown
set_option maxRecDepth 20000 in
theorem ggX1_freedom_X1_hasSpan : GoodIn wsX1_freedom wsX1_hasSpan := goodIn_r _ [11, 12, 7, 13, 14, 15, 16, 17, 18, 19] (by decide +kernel) (by decide +kernel)
set_option maxRecDepth 20000 in
theorem gX1_freedom_X1_hasSpan : GoodIn wsX1_freedom (wsV RX1 53 RX1 yX1_hasSpan wsX1_hasSpan) := goodIn_app (goodIn_of _ (by decide +kernel)) ggX1_freedom_X1_hasSpan
theorem dX1_freedom_0 : decode cX1_freedom 0 = .ok (.aload_n 0, 1) := by decide +kernel
theorem dX1_freedom_1 : decode cX1_freedom 1 = .ok (.iload_n 1, 1) := by decide +kernel
theorem dX1_freedom_2 : decode cX1_freedom 2 = .ok (.invokevirtual 49, 3) := by decide +kernel
theorem dX1_freedom_5 : decode cX1_freedom 5 = .ok (.ifCond .eq 5, 3) := by decide +kernel
theorem dX1_freedom_8 : decode cX1_freedom 8 = .ok (.iconst 2, 1) := by decide +kernel
theorem dX1_freedom_9 : decode cX1_freedom 9 = .ok (.ireturn, 1) := by decide +kernel
theorem dX1_freedom_10 : decode cX1_freedom 10 = .ok (.aload_n 0, 1) := by decide +kernel
theorem dX1_freedom_11 : decode cX1_freedom 11 = .ok (.iload_n 1, 1) := by decide +kernel
theorem dX1_freedom_12 : decode cX1_freedom 12 = .ok (.invokevirtual 53, 3) := by decide +kernel
theorem dX1_freedom_15 : decode cX1_freedom 15 = .ok (.ifCond .eq 7, 3) := by decide +kernel
theorem dX1_freedom_18 : decode cX1_freedom 18 = .ok (.iconst 1, 1) := by decide +kernel
theorem dX1_freedom_19 : decode cX1_freedom 19 = .ok (.goto 4, 3) := by decide +kernel
theorem dX1_freedom_22 : decode cX1_freedom 22 = .ok (.iconst 0, 1) := by decide +kernel
theorem dX1_freedom_23 : decode cX1_freedom 23 = .ok (.ireturn, 1) := by decide +kernel
theorem dX1_setNumber_0 : decode cX1_setNumber 0 = .ok (.aload_n 0, 1) := by decide +kernel
theorem dX1_setNumber_1 : decode cX1_setNumber 1 = .ok (.getfield 15, 3) := by decide +kernel
theorem dX1_setNumber_4 : decode cX1_setNumber 4 = .ok (.aload_n 0, 1) := by decide +kernel
theorem dX1_setNumber_5 : decode cX1_setNumber 5 = .ok (.getfield 9, 3) := by decide +kernel
theorem dX1_setNumber_8 : decode cX1_setNumber 8 = .ok (.iload_n 1, 1) := by decide +kernel
theorem dX1_setNumber_9 : decode cX1_setNumber 9 = .ok (.iaload, 1) := by decide +kernel
theorem dX1_setNumber_10 : decode cX1_setNumber 10 = .ok (.iconst 1, 1) := by decide +kernel
theorem dX1_setNumber_11 : decode cX1_setNumber 11 = .ok (.bastore, 1) := by decide +kernel
theorem dX1_setNumber_12 : decode cX1_setNumber 12 = .ok (.aload_n 0, 1) := by decide +kernel
theorem dX1_setNumber_13 : decode cX1_setNumber 13 = .ok (.getfield 19, 3) := by decide +kernel
theorem dX1_setNumber_16 : decode cX1_setNumber 16 = .ok (.aload_n 0, 1) := by decide +kernel
theorem dX1_setNumber_17 : decode cX1_setNumber 17 = .ok (.getfield 9, 3) := by decide +kernel
theorem dX1_setNumber_20 : decode cX1_setNumber 20 = .ok (.iload_n 1, 1) := by decide +kernel
theorem dX1_setNumber_21 : decode cX1_setNumber 21 = .ok (.iaload, 1) := by decide +kernel
theorem dX1_setNumber_22 : decode cX1_setNumber 22 = .ok (.lload_n 2, 1) := by decide +kernel
theorem dX1_setNumber_23 : decode cX1_setNumber 23 = .ok (.lastore, 1) := by decide +kernel
theorem dX1_setNumber_24 : decode cX1_setNumber 24 = .ok (.return_, 1) := by decide +kernel
theorem dX1_unsetNumber_0 : decode cX1_unsetNumber 0 = .ok (.aload_n 0, 1) := by decide +kernel
theorem dX1_unsetNumber_1 : decode cX1_unsetNumber 1 = .ok (.getfield 15, 3) := by decide +kernel
theorem dX1_unsetNumber_4 : decode cX1_unsetNumber 4 = .ok (.aload_n 0, 1) := by decide +kernel
theorem dX1_unsetNumber_5 : decode cX1_unsetNumber 5 = .ok (.getfield 9, 3) := by decide +kernel
theorem dX1_unsetNumber_8 : decode cX1_unsetNumber 8 = .ok (.iload_n 1, 1) := by decide +kernel
theorem dX1_unsetNumber_9 : decode cX1_unsetNumber 9 = .ok (.iaload, 1) := by decide +kernel
theorem dX1_unsetNumber_10 : decode cX1_unsetNumber 10 = .ok (.iconst 0, 1) := by decide +kernel
theorem dX1_unsetNumber_11 : decode cX1_unsetNumber 11 = .ok (.bastore, 1) := by decide +kernel
theorem dX1_unsetNumber_12 : decode cX1_unsetNumber 12 = .ok (.return_, 1) := by decide +kernel
set_option maxRecDepth 20000 in
theorem ggX1_narrow_X1_isKnown : GoodIn wsX1_narrow wsX1_isKnown := goodIn_r _ [16, 17, 8, 31, 32, 33, 34, 35, 36, 37] (by decide +kernel) (by decide +kernel)
set_option maxRecDepth 20000 in
theorem gX1_narrow_X1_isKnown : GoodIn wsX1_narrow (wsV RX1 49 RX1 yX1_isKnown wsX1_isKnown) := goodIn_app (goodIn_of _ (by decide +kernel)) ggX1_narrow_X1_isKnown
set_option maxRecDepth 20000 in
theorem ggX1_narrow_X1_numberOf : GoodIn wsX1_narrow wsX1_numberOf := goodIn_r _ [21, 22, 8, 31, 32, 33, 34, 35, 36, 37] (by decide +kernel) (by decide +kernel)
set_option maxRecDepth 20000 in
theorem gX1_narrow_X1_numberOf : GoodIn wsX1_narrow (wsV RX1 56 RX1 yX1_numberOf wsX1_numberOf) := goodIn_app (goodIn_of _ (by decide +kernel)) ggX1_narrow_X1_numberOf
set_option maxRecDepth 20000 in
theorem ggX1_narrow_X1_lowOf : GoodIn wsX1_narrow wsX1_lowOf := goodIn_r _ [26, 10, 8, 31, 32, 33, 34, 35, 36, 37] (by decide +kernel) (by decide +kernel)
set_option maxRecDepth 20000 in
theorem gX1_narrow_X1_lowOf : GoodIn wsX1_narrow (wsV RX1 42 RX1 yX1_lowOf wsX1_lowOf) := goodIn_app (goodIn_of _ (by decide +kernel)) ggX1_narrow_X1_lowOf
set_option maxRecDepth 20000 in
theorem ggX1_narrow_X1_highOf : GoodIn wsX1_narrow wsX1_highOf := goodIn_r _ [30, 11, 8, 31, 32, 33, 34, 35, 36, 37] (by decide +kernel) (by decide +kernel)
set_option maxRecDepth 20000 in
theorem gX1_narrow_X1_highOf : GoodIn wsX1_narrow (wsV RX1 46 RX1 yX1_highOf wsX1_highOf) := goodIn_app (goodIn_of _ (by decide +kernel)) ggX1_narrow_X1_highOf
theorem dX1_narrow_0 : decode cX1_narrow 0 = .ok (.lload 4, 2) := by decide +kernel
theorem dX1_narrow_2 : decode cX1_narrow 2 = .ok (.lload_n 2, 1) := by decide +kernel
theorem dX1_narrow_3 : decode cX1_narrow 3 = .ok (.lcmp, 1) := by decide +kernel
theorem dX1_narrow_4 : decode cX1_narrow 4 = .ok (.ifCond .ge 5, 3) := by decide +kernel
theorem dX1_narrow_7 : decode cX1_narrow 7 = .ok (.iconst 0, 1) := by decide +kernel
theorem dX1_narrow_8 : decode cX1_narrow 8 = .ok (.ireturn, 1) := by decide +kernel
theorem dX1_narrow_9 : decode cX1_narrow 9 = .ok (.aload_n 0, 1) := by decide +kernel
theorem dX1_narrow_10 : decode cX1_narrow 10 = .ok (.iload_n 1, 1) := by decide +kernel
theorem dX1_narrow_11 : decode cX1_narrow 11 = .ok (.invokevirtual 49, 3) := by decide +kernel
theorem dX1_narrow_14 : decode cX1_narrow 14 = .ok (.ifCond .eq 30, 3) := by decide +kernel
theorem dX1_narrow_17 : decode cX1_narrow 17 = .ok (.lload_n 2, 1) := by decide +kernel
theorem dX1_narrow_18 : decode cX1_narrow 18 = .ok (.aload_n 0, 1) := by decide +kernel
theorem dX1_narrow_19 : decode cX1_narrow 19 = .ok (.iload_n 1, 1) := by decide +kernel
theorem dX1_narrow_20 : decode cX1_narrow 20 = .ok (.invokevirtual 56, 3) := by decide +kernel
theorem dX1_narrow_23 : decode cX1_narrow 23 = .ok (.lcmp, 1) := by decide +kernel
theorem dX1_narrow_24 : decode cX1_narrow 24 = .ok (.ifCond .gt 18, 3) := by decide +kernel
theorem dX1_narrow_27 : decode cX1_narrow 27 = .ok (.aload_n 0, 1) := by decide +kernel
theorem dX1_narrow_28 : decode cX1_narrow 28 = .ok (.iload_n 1, 1) := by decide +kernel
theorem dX1_narrow_29 : decode cX1_narrow 29 = .ok (.invokevirtual 56, 3) := by decide +kernel
theorem dX1_narrow_32 : decode cX1_narrow 32 = .ok (.lload 4, 2) := by decide +kernel
theorem dX1_narrow_34 : decode cX1_narrow 34 = .ok (.lcmp, 1) := by decide +kernel
theorem dX1_narrow_35 : decode cX1_narrow 35 = .ok (.ifCond .gt 7, 3) := by decide +kernel
theorem dX1_narrow_38 : decode cX1_narrow 38 = .ok (.iconst 1, 1) := by decide +kernel
theorem dX1_narrow_39 : decode cX1_narrow 39 = .ok (.goto 4, 3) := by decide +kernel
theorem dX1_narrow_42 : decode cX1_narrow 42 = .ok (.iconst 0, 1) := by decide +kernel
theorem dX1_narrow_43 : decode cX1_narrow 43 = .ok (.ireturn, 1) := by decide +kernel
theorem dX1_narrow_44 : decode cX1_narrow 44 = .ok (.lload_n 2, 1) := by decide +kernel
theorem dX1_narrow_45 : decode cX1_narrow 45 = .ok (.aload_n 0, 1) := by decide +kernel
theorem dX1_narrow_46 : decode cX1_narrow 46 = .ok (.iload_n 1, 1) := by decide +kernel
theorem dX1_narrow_47 : decode cX1_narrow 47 = .ok (.invokevirtual 42, 3) := by decide +kernel
theorem dX1_narrow_50 : decode cX1_narrow 50 = .ok (.invokestatic 59, 3) := by decide +kernel
theorem dX1_narrow_53 : decode cX1_narrow 53 = .ok (.lstore 6, 2) := by decide +kernel
theorem dX1_narrow_55 : decode cX1_narrow 55 = .ok (.lload 4, 2) := by decide +kernel
theorem dX1_narrow_57 : decode cX1_narrow 57 = .ok (.aload_n 0, 1) := by decide +kernel
theorem dX1_narrow_58 : decode cX1_narrow 58 = .ok (.iload_n 1, 1) := by decide +kernel
theorem dX1_narrow_59 : decode cX1_narrow 59 = .ok (.invokevirtual 46, 3) := by decide +kernel
theorem dX1_narrow_62 : decode cX1_narrow 62 = .ok (.invokestatic 65, 3) := by decide +kernel
theorem dX1_narrow_65 : decode cX1_narrow 65 = .ok (.lstore 8, 2) := by decide +kernel
theorem dX1_narrow_67 : decode cX1_narrow 67 = .ok (.lload 8, 2) := by decide +kernel
theorem dX1_narrow_69 : decode cX1_narrow 69 = .ok (.lload 6, 2) := by decide +kernel
theorem dX1_narrow_71 : decode cX1_narrow 71 = .ok (.lcmp, 1) := by decide +kernel
theorem dX1_narrow_72 : decode cX1_narrow 72 = .ok (.ifCond .ge 5, 3) := by decide +kernel
theorem dX1_narrow_75 : decode cX1_narrow 75 = .ok (.iconst 0, 1) := by decide +kernel
theorem dX1_narrow_76 : decode cX1_narrow 76 = .ok (.ireturn, 1) := by decide +kernel
theorem dX1_narrow_77 : decode cX1_narrow 77 = .ok (.aload_n 0, 1) := by decide +kernel
theorem dX1_narrow_78 : decode cX1_narrow 78 = .ok (.getfield 9, 3) := by decide +kernel
theorem dX1_narrow_81 : decode cX1_narrow 81 = .ok (.iload_n 1, 1) := by decide +kernel
theorem dX1_narrow_82 : decode cX1_narrow 82 = .ok (.iaload, 1) := by decide +kernel
theorem dX1_narrow_83 : decode cX1_narrow 83 = .ok (.istore 10, 2) := by decide +kernel
theorem dX1_narrow_85 : decode cX1_narrow 85 = .ok (.aload_n 0, 1) := by decide +kernel
theorem dX1_narrow_86 : decode cX1_narrow 86 = .ok (.getfield 23, 3) := by decide +kernel
theorem dX1_narrow_89 : decode cX1_narrow 89 = .ok (.iload 10, 2) := by decide +kernel
theorem dX1_narrow_91 : decode cX1_narrow 91 = .ok (.iconst 1, 1) := by decide +kernel
theorem dX1_narrow_92 : decode cX1_narrow 92 = .ok (.bastore, 1) := by decide +kernel
theorem dX1_narrow_93 : decode cX1_narrow 93 = .ok (.aload_n 0, 1) := by decide +kernel
theorem dX1_narrow_94 : decode cX1_narrow 94 = .ok (.getfield 26, 3) := by decide +kernel
theorem dX1_narrow_97 : decode cX1_narrow 97 = .ok (.iload 10, 2) := by decide +kernel
theorem dX1_narrow_99 : decode cX1_narrow 99 = .ok (.lload 6, 2) := by decide +kernel
theorem dX1_narrow_101 : decode cX1_narrow 101 = .ok (.lastore, 1) := by decide +kernel
theorem dX1_narrow_102 : decode cX1_narrow 102 = .ok (.aload_n 0, 1) := by decide +kernel
theorem dX1_narrow_103 : decode cX1_narrow 103 = .ok (.getfield 29, 3) := by decide +kernel
theorem dX1_narrow_106 : decode cX1_narrow 106 = .ok (.iload 10, 2) := by decide +kernel
theorem dX1_narrow_108 : decode cX1_narrow 108 = .ok (.lload 8, 2) := by decide +kernel
theorem dX1_narrow_110 : decode cX1_narrow 110 = .ok (.lastore, 1) := by decide +kernel
theorem dX1_narrow_111 : decode cX1_narrow 111 = .ok (.iconst 1, 1) := by decide +kernel
theorem dX1_narrow_112 : decode cX1_narrow 112 = .ok (.ireturn, 1) := by decide +kernel
set_option maxRecDepth 20000 in
theorem ggX1_shareSpans_X1_hasSpan : GoodIn wsX1_shareSpans wsX1_hasSpan := goodIn_r _ [5, 6, 7, 39, 40, 41, 42, 43, 44, 45] (by decide +kernel) (by decide +kernel)
set_option maxRecDepth 20000 in
theorem gX1_shareSpans_X1_hasSpan : GoodIn wsX1_shareSpans (wsV RX1 53 RX1 yX1_hasSpan wsX1_hasSpan) := goodIn_app (goodIn_of _ (by decide +kernel)) ggX1_shareSpans_X1_hasSpan
set_option maxRecDepth 20000 in
theorem ggX1_shareSpans_X1_lowOf : GoodIn wsX1_shareSpans wsX1_lowOf := goodIn_r _ [11, 12, 7, 39, 40, 41, 42, 43, 44, 45] (by decide +kernel) (by decide +kernel)
set_option maxRecDepth 20000 in
theorem gX1_shareSpans_X1_lowOf : GoodIn wsX1_shareSpans (wsV RX1 42 RX1 yX1_lowOf wsX1_lowOf) := goodIn_app (goodIn_of _ (by decide +kernel)) ggX1_shareSpans_X1_lowOf
set_option maxRecDepth 20000 in
theorem ggX1_shareSpans_X1_highOf : GoodIn wsX1_shareSpans wsX1_highOf := goodIn_r _ [16, 17, 7, 39, 40, 41, 42, 43, 44, 45] (by decide +kernel) (by decide +kernel)
set_option maxRecDepth 20000 in
theorem gX1_shareSpans_X1_highOf : GoodIn wsX1_shareSpans (wsV RX1 46 RX1 yX1_highOf wsX1_highOf) := goodIn_app (goodIn_of _ (by decide +kernel)) ggX1_shareSpans_X1_highOf
set_option maxRecDepth 20000 in
theorem ggX1_shareSpans_X1_narrow : GoodIn wsX1_shareSpans wsX1_narrow := goodIn_r _ [21, 22, 23, 24, 25, 26, 27, 28, 7, 6, 12, 17, 29, 30, 31, 4, 32, 33, 34, 35, 36, 37, 38, 8, 9, 10, 11, 13, 14, 15, 16, 39, 40, 41, 42, 43, 44, 45] (by decide +kernel) (by decide +kernel)
set_option maxRecDepth 20000 in
theorem gX1_shareSpans_X1_narrow : GoodIn wsX1_shareSpans (wsV RX1 68 RX1 yX1_narrow wsX1_narrow) := goodIn_app (goodIn_of _ (by decide +kernel)) ggX1_shareSpans_X1_narrow
theorem dX1_shareSpans_0 : decode cX1_shareSpans 0 = .ok (.aload_n 0, 1) := by decide +kernel
theorem dX1_shareSpans_1 : decode cX1_shareSpans 1 = .ok (.iload_n 2, 1) := by decide +kernel
theorem dX1_shareSpans_2 : decode cX1_shareSpans 2 = .ok (.invokevirtual 53, 3) := by decide +kernel
theorem dX1_shareSpans_5 : decode cX1_shareSpans 5 = .ok (.ifCond .eq 23, 3) := by decide +kernel
theorem dX1_shareSpans_8 : decode cX1_shareSpans 8 = .ok (.aload_n 0, 1) := by decide +kernel
theorem dX1_shareSpans_9 : decode cX1_shareSpans 9 = .ok (.iload_n 1, 1) := by decide +kernel
theorem dX1_shareSpans_10 : decode cX1_shareSpans 10 = .ok (.aload_n 0, 1) := by decide +kernel
theorem dX1_shareSpans_11 : decode cX1_shareSpans 11 = .ok (.iload_n 2, 1) := by decide +kernel
theorem dX1_shareSpans_12 : decode cX1_shareSpans 12 = .ok (.invokevirtual 42, 3) := by decide +kernel
theorem dX1_shareSpans_15 : decode cX1_shareSpans 15 = .ok (.aload_n 0, 1) := by decide +kernel
theorem dX1_shareSpans_16 : decode cX1_shareSpans 16 = .ok (.iload_n 2, 1) := by decide +kernel
theorem dX1_shareSpans_17 : decode cX1_shareSpans 17 = .ok (.invokevirtual 46, 3) := by decide +kernel
theorem dX1_shareSpans_20 : decode cX1_shareSpans 20 = .ok (.invokevirtual 68, 3) := by decide +kernel
theorem dX1_shareSpans_23 : decode cX1_shareSpans 23 = .ok (.ifCond .ne 5, 3) := by decide +kernel
theorem dX1_shareSpans_26 : decode cX1_shareSpans 26 = .ok (.iconst 0, 1) := by decide +kernel
theorem dX1_shareSpans_27 : decode cX1_shareSpans 27 = .ok (.ireturn, 1) := by decide +kernel
theorem dX1_shareSpans_28 : decode cX1_shareSpans 28 = .ok (.aload_n 0, 1) := by decide +kernel
theorem dX1_shareSpans_29 : decode cX1_shareSpans 29 = .ok (.iload_n 1, 1) := by decide +kernel
theorem dX1_shareSpans_30 : decode cX1_shareSpans 30 = .ok (.invokevirtual 53, 3) := by decide +kernel
theorem dX1_shareSpans_33 : decode cX1_shareSpans 33 = .ok (.ifCond .eq 21, 3) := by decide +kernel
theorem dX1_shareSpans_36 : decode cX1_shareSpans 36 = .ok (.aload_n 0, 1) := by decide +kernel
theorem dX1_shareSpans_37 : decode cX1_shareSpans 37 = .ok (.iload_n 2, 1) := by decide +kernel
theorem dX1_shareSpans_38 : decode cX1_shareSpans 38 = .ok (.aload_n 0, 1) := by decide +kernel
theorem dX1_shareSpans_39 : decode cX1_shareSpans 39 = .ok (.iload_n 1, 1) := by decide +kernel
theorem dX1_shareSpans_40 : decode cX1_shareSpans 40 = .ok (.invokevirtual 42, 3) := by decide +kernel
theorem dX1_shareSpans_43 : decode cX1_shareSpans 43 = .ok (.aload_n 0, 1) := by decide +kernel
theorem dX1_shareSpans_44 : decode cX1_shareSpans 44 = .ok (.iload_n 1, 1) := by decide +kernel
theorem dX1_shareSpans_45 : decode cX1_shareSpans 45 = .ok (.invokevirtual 46, 3) := by decide +kernel
theorem dX1_shareSpans_48 : decode cX1_shareSpans 48 = .ok (.invokevirtual 68, 3) := by decide +kernel
theorem dX1_shareSpans_51 : decode cX1_shareSpans 51 = .ok (.ifCond .eq 7, 3) := by decide +kernel
theorem dX1_shareSpans_54 : decode cX1_shareSpans 54 = .ok (.iconst 1, 1) := by decide +kernel
theorem dX1_shareSpans_55 : decode cX1_shareSpans 55 = .ok (.goto 4, 3) := by decide +kernel
theorem dX1_shareSpans_58 : decode cX1_shareSpans 58 = .ok (.iconst 0, 1) := by decide +kernel
theorem dX1_shareSpans_59 : decode cX1_shareSpans 59 = .ok (.ireturn, 1) := by decide +kernel
theorem dX1_join_0 : decode cX1_join 0 = .ok (.aload_n 0, 1) := by decide +kernel
theorem dX1_join_1 : decode cX1_join 1 = .ok (.getfield 9, 3) := by decide +kernel
theorem dX1_join_4 : decode cX1_join 4 = .ok (.iload_n 1, 1) := by decide +kernel
theorem dX1_join_5 : decode cX1_join 5 = .ok (.iaload, 1) := by decide +kernel
theorem dX1_join_6 : decode cX1_join 6 = .ok (.aload_n 0, 1) := by decide +kernel
theorem dX1_join_7 : decode cX1_join 7 = .ok (.getfield 9, 3) := by decide +kernel
theorem dX1_join_10 : decode cX1_join 10 = .ok (.iload_n 2, 1) := by decide +kernel
theorem dX1_join_11 : decode cX1_join 11 = .ok (.iaload, 1) := by decide +kernel
theorem dX1_join_12 : decode cX1_join 12 = .ok (.invokestatic 72, 3) := by decide +kernel
theorem dX1_join_15 : decode cX1_join 15 = .ok (.istore_n 3, 1) := by decide +kernel
theorem dX1_join_16 : decode cX1_join 16 = .ok (.aload_n 0, 1) := by decide +kernel
theorem dX1_join_17 : decode cX1_join 17 = .ok (.getfield 9, 3) := by decide +kernel
theorem dX1_join_20 : decode cX1_join 20 = .ok (.iload_n 1, 1) := by decide +kernel
theorem dX1_join_21 : decode cX1_join 21 = .ok (.iaload, 1) := by decide +kernel
theorem dX1_join_22 : decode cX1_join 22 = .ok (.aload_n 0, 1) := by decide +kernel
