/-! the law's words are among the tables' -/
theorem mem_r {big ws : List Cond} (ps : List Nat) (hp : ws = ps.filterMap (fun i => big[i]?)) : ∀ w ∈ ws, w ∈ big := by
  intro w hw
  rw [hp] at hw
  obtain ⟨i, _, hi⟩ := List.mem_filterMap.mp hw
  exact List.mem_of_getElem? hi
set_option maxRecDepth 20000 in
theorem in_wsL_law_r1 : ∀ w ∈ wsL_law_r1, w ∈ lw_tbl := mem_r [43, 44, 28, 565, 566, 35, 780, 45, 46, 47, 48, 49, 50, 51, 52, 29, 160, 83, 84, 30, 161, 105, 106, 33] (by decide +kernel)
set_option maxRecDepth 20000 in
theorem in_wsL_law_r2 : ∀ w ∈ wsL_law_r2, w ∈ lw_tbl := mem_r [162, 131, 132, 34, 163, 164, 80, 165, 166, 54, 55, 56, 59, 81, 60, 82, 61, 62, 63, 64, 86, 87, 88, 93] (by decide +kernel)
set_option maxRecDepth 20000 in
theorem in_wsL_law_r3 : ∀ w ∈ wsL_law_r3, w ∈ lw_tbl := mem_r [96, 107, 108, 109, 117, 119, 110, 111, 32, 112, 121, 113, 114, 31, 115, 116, 134, 135, 136, 137, 145, 146, 567, 568] (by decide +kernel)
set_option maxRecDepth 20000 in
theorem in_wsL_law_r4 : ∀ w ∈ wsL_law_r4, w ∈ lw_tbl := mem_r [569, 570, 572, 573, 574, 575, 576, 578, 579, 581, 582, 583, 584, 585, 587, 588, 589, 591, 592, 593, 594, 595, 596, 597] (by decide +kernel)
set_option maxRecDepth 20000 in
theorem in_wsL_law_r5 : ∀ w ∈ wsL_law_r5, w ∈ lw_tbl := mem_r [598, 599, 604, 182, 183, 184, 185, 57, 186, 187, 188, 189, 139, 141, 190, 191, 192, 193, 58, 194, 195, 674, 675, 676] (by decide +kernel)
set_option maxRecDepth 20000 in
theorem in_wsL_law_r6 : ∀ w ∈ wsL_law_r6, w ∈ lw_tbl := mem_r [677, 571, 678, 680, 17, 681, 577, 682, 316, 36, 317, 683, 319, 320, 684, 221, 222, 685, 228, 229, 586, 686, 688, 18] (by decide +kernel)
set_option maxRecDepth 20000 in
theorem in_wsL_law_r7 : ∀ w ∈ wsL_law_r7, w ∈ lw_tbl := mem_r [689, 690, 692, 19, 693, 694, 696, 20, 697, 698, 700, 21, 701, 603, 601, 600, 196, 197, 198, 199, 200, 201, 202, 203] (by decide +kernel)
set_option maxRecDepth 20000 in
theorem in_wsL_law_r8 : ∀ w ∈ wsL_law_r8, w ∈ lw_tbl := mem_r [204, 205, 206, 207, 220, 227, 208, 209, 210, 211, 212, 213, 214, 215, 216, 217, 218, 219, 223, 224, 225, 226, 702, 703] (by decide +kernel)
set_option maxRecDepth 20000 in
theorem in_wsL_law_r9 : ∀ w ∈ wsL_law_r9, w ∈ lw_tbl := mem_r [704, 705, 706, 708, 22, 709, 710, 712, 23, 713, 230, 231, 232, 233, 234, 236, 0, 237, 238, 239, 240, 241, 242, 243] (by decide +kernel)
