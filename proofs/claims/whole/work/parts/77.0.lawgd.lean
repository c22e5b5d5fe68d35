/-! the words of the methods that the law calls are good words of the tables -/
theorem gcons {big ws : List Cond} {w : Cond} (h : w ∈ big ∧ ((w.onTables && w.keeps) = true ∨ ∃ ty, w = .arrayClass ty)) (hs : GoodIn big ws) : GoodIn big (w :: ws) := fun v hv => (List.mem_cons.mp hv).elim (fun e => by rw [e]; exact h) (hs v)
theorem gnil {big : List Cond} : GoodIn big [] := fun v hv => absurd hv List.not_mem_nil
abbrev gwd (w : Cond) : Prop := w ∈ lw_tbl ∧ ((w.onTables && w.keeps) = true ∨ ∃ ty, w = .arrayClass ty)
set_option maxRecDepth 20000 in
theorem gd_L_law_r1 : GoodIn lw_tbl wsL_law_r1 := goodIn_r wsL_law_r1 [43, 44, 28, 565, 566, 35, 780, 45, 46, 47, 48, 49, 50, 51, 52, 29, 160, 83, 84, 30, 161, 105, 106, 33] (by decide +kernel) (by decide +kernel)
set_option maxRecDepth 20000 in
theorem gd_L_law_r2 : GoodIn lw_tbl wsL_law_r2 := goodIn_r wsL_law_r2 [162, 131, 132, 34, 163, 164, 80, 165, 166, 54, 55, 56, 59, 81, 60, 82, 61, 62, 63, 64, 86, 87, 88, 93] (by decide +kernel) (by decide +kernel)
set_option maxRecDepth 20000 in
theorem gd_L_law_r3 : GoodIn lw_tbl wsL_law_r3 := goodIn_r wsL_law_r3 [96, 107, 108, 109, 117, 119, 110, 111, 32, 112, 121, 113, 114, 31, 115, 116, 134, 135, 136, 137, 145, 146, 567, 568] (by decide +kernel) (by decide +kernel)
set_option maxRecDepth 20000 in
theorem gd_L_law_r4 : GoodIn lw_tbl wsL_law_r4 := goodIn_r wsL_law_r4 [569, 570, 572, 573, 574, 575, 576, 578, 579, 581, 582, 583, 584, 585, 587, 588, 589, 591, 592, 593, 594, 595, 596, 597] (by decide +kernel) (by decide +kernel)
set_option maxRecDepth 20000 in
theorem gd_L_law_r5 : GoodIn lw_tbl wsL_law_r5 := goodIn_r wsL_law_r5 [598, 599, 604, 182, 183, 184, 185, 57, 186, 187, 188, 189, 139, 141, 190, 191, 192, 193, 58, 194, 195, 674, 675, 676] (by decide +kernel) (by decide +kernel)
set_option maxRecDepth 20000 in
theorem gd_L_law_r6 : GoodIn lw_tbl wsL_law_r6 := goodIn_r wsL_law_r6 [677, 571, 678, 680, 17, 681, 577, 682, 316, 36, 317, 683, 319, 320, 684, 221, 222, 685, 228, 229, 586, 686, 688, 18] (by decide +kernel) (by decide +kernel)
