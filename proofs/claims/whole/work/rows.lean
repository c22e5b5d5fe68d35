section
-- ===== PART A: goes FIRST, ahead of the names: the tables' words, and 'selects' of the private methods out of them =====
/-- a private method of a class that the tables say can be made, by its rows of tables_1 -/
def lw_okq (q : MethodName × Nat) : Prop := (q.1.cls ≠ "java/lang/invoke/MethodHandle" ∧ q.1.cls ≠ "java/lang/invoke/VarHandle") ∧ Cond.instantiable q.1.cls q.2 ∈ tables_1 ∧ Cond.privateMethod q.1 ∈ tables_1 ∧ Cond.instanceMethod q.1 ∈ tables_1
theorem lw_p0 : lw_okq (⟨"SpanRows", "settle", "(IJ)Z"⟩, 7) := ⟨⟨by decide +kernel, by decide +kernel⟩, List.mem_of_getElem? (i := 17) (by decide +kernel), List.mem_of_getElem? (i := 208) (by decide +kernel), List.mem_of_getElem? (i := 209) (by decide +kernel)⟩
theorem lw_p1 : lw_okq (⟨"SpanRows", "allCompleteAreSo", "()Z"⟩, 7) := ⟨⟨by decide +kernel, by decide +kernel⟩, List.mem_of_getElem? (i := 17) (by decide +kernel), List.mem_of_getElem? (i := 222) (by decide +kernel), List.mem_of_getElem? (i := 223) (by decide +kernel)⟩
theorem lw_p2 : lw_okq (⟨"SpanRows$KeptRow", "sum", "(LSpanRows$Names;)J"⟩, 4) := ⟨⟨by decide +kernel, by decide +kernel⟩, List.mem_of_getElem? (i := 256) (by decide +kernel), List.mem_of_getElem? (i := 254) (by decide +kernel), List.mem_of_getElem? (i := 255) (by decide +kernel)⟩
theorem lw_p3 : lw_okq (⟨"SpanRows$KeptRow", "allUnlike", "(LSpanRows$Names;)Z"⟩, 4) := ⟨⟨by decide +kernel, by decide +kernel⟩, List.mem_of_getElem? (i := 256) (by decide +kernel), List.mem_of_getElem? (i := 260) (by decide +kernel), List.mem_of_getElem? (i := 261) (by decide +kernel)⟩
theorem lw_p4 : lw_okq (⟨"SpanRows", "agree", "(II)Z"⟩, 7) := ⟨⟨by decide +kernel, by decide +kernel⟩, List.mem_of_getElem? (i := 17) (by decide +kernel), List.mem_of_getElem? (i := 272) (by decide +kernel), List.mem_of_getElem? (i := 273) (by decide +kernel)⟩
theorem lw_p5 : lw_okq (⟨"SpanRows", "keepRow", "(IJ)I"⟩, 7) := ⟨⟨by decide +kernel, by decide +kernel⟩, List.mem_of_getElem? (i := 17) (by decide +kernel), List.mem_of_getElem? (i := 307) (by decide +kernel), List.mem_of_getElem? (i := 308) (by decide +kernel)⟩
theorem lw_p6 : lw_okq (⟨"java/util/ArrayList", "add", "(Ljava/lang/Object;[Ljava/lang/Object;I)V"⟩, 3) := ⟨⟨by decide +kernel, by decide +kernel⟩, List.mem_of_getElem? (i := 79) (by decide +kernel), List.mem_of_getElem? (i := 356) (by decide +kernel), List.mem_of_getElem? (i := 357) (by decide +kernel)⟩
theorem lw_p7 : lw_okq (⟨"java/util/ArrayList", "grow", "()[Ljava/lang/Object;"⟩, 3) := ⟨⟨by decide +kernel, by decide +kernel⟩, List.mem_of_getElem? (i := 79) (by decide +kernel), List.mem_of_getElem? (i := 360) (by decide +kernel), List.mem_of_getElem? (i := 361) (by decide +kernel)⟩
theorem lw_p8 : lw_okq (⟨"java/util/ArrayList", "grow", "(I)[Ljava/lang/Object;"⟩, 3) := ⟨⟨by decide +kernel, by decide +kernel⟩, List.mem_of_getElem? (i := 79) (by decide +kernel), List.mem_of_getElem? (i := 364) (by decide +kernel), List.mem_of_getElem? (i := 365) (by decide +kernel)⟩
theorem lw_p9 : lw_okq (⟨"SpanRows$Search", "gatherFree", "(LSpanRows$Row;LSpanRows$Names;)V"⟩, 6) := ⟨⟨by decide +kernel, by decide +kernel⟩, List.mem_of_getElem? (i := 105) (by decide +kernel), List.mem_of_getElem? (i := 407) (by decide +kernel), List.mem_of_getElem? (i := 408) (by decide +kernel)⟩
theorem lw_p10 : lw_okq (⟨"SpanRows$Search", "reasonNotToStart", "(LSpanRows$Names;)I"⟩, 6) := ⟨⟨by decide +kernel, by decide +kernel⟩, List.mem_of_getElem? (i := 105) (by decide +kernel), List.mem_of_getElem? (i := 424) (by decide +kernel), List.mem_of_getElem? (i := 425) (by decide +kernel)⟩
theorem lw_p11 : lw_okq (⟨"SpanRows$Search", "planLooks", "(LSpanRows$Names;Ljava/util/ArrayList;)V"⟩, 6) := ⟨⟨by decide +kernel, by decide +kernel⟩, List.mem_of_getElem? (i := 105) (by decide +kernel), List.mem_of_getElem? (i := 429) (by decide +kernel), List.mem_of_getElem? (i := 430) (by decide +kernel)⟩
theorem lw_p12 : lw_okq (⟨"SpanRows$Search", "tryLevel", "(ILSpanRows$Names;Ljava/util/ArrayList;)I"⟩, 6) := ⟨⟨by decide +kernel, by decide +kernel⟩, List.mem_of_getElem? (i := 105) (by decide +kernel), List.mem_of_getElem? (i := 443) (by decide +kernel), List.mem_of_getElem? (i := 444) (by decide +kernel)⟩
theorem lw_p13 : lw_okq (⟨"SpanRows$Search", "addWay", "(LSpanRows$Names;)I"⟩, 6) := ⟨⟨by decide +kernel, by decide +kernel⟩, List.mem_of_getElem? (i := 105) (by decide +kernel), List.mem_of_getElem? (i := 447) (by decide +kernel), List.mem_of_getElem? (i := 448) (by decide +kernel)⟩
theorem lw_p14 : lw_okq (⟨"SpanRows$Search", "isGood", "(ILSpanRows$Names;Ljava/util/ArrayList;)Z"⟩, 6) := ⟨⟨by decide +kernel, by decide +kernel⟩, List.mem_of_getElem? (i := 105) (by decide +kernel), List.mem_of_getElem? (i := 455) (by decide +kernel), List.mem_of_getElem? (i := 456) (by decide +kernel)⟩
theorem lw_p15 : lw_okq (⟨"java/util/ArrayList", "fastRemove", "([Ljava/lang/Object;I)V"⟩, 3) := ⟨⟨by decide +kernel, by decide +kernel⟩, List.mem_of_getElem? (i := 79) (by decide +kernel), List.mem_of_getElem? (i := 493) (by decide +kernel), List.mem_of_getElem? (i := 494) (by decide +kernel)⟩
def lw_privs_1 : List (MethodName × Nat) := [(⟨"SpanRows", "settle", "(IJ)Z"⟩, 7), (⟨"SpanRows", "allCompleteAreSo", "()Z"⟩, 7), (⟨"SpanRows$KeptRow", "sum", "(LSpanRows$Names;)J"⟩, 4), (⟨"SpanRows$KeptRow", "allUnlike", "(LSpanRows$Names;)Z"⟩, 4), (⟨"SpanRows", "agree", "(II)Z"⟩, 7), (⟨"SpanRows", "keepRow", "(IJ)I"⟩, 7), (⟨"java/util/ArrayList", "add", "(Ljava/lang/Object;[Ljava/lang/Object;I)V"⟩, 3), (⟨"java/util/ArrayList", "grow", "()[Ljava/lang/Object;"⟩, 3), (⟨"java/util/ArrayList", "grow", "(I)[Ljava/lang/Object;"⟩, 3), (⟨"SpanRows$Search", "gatherFree", "(LSpanRows$Row;LSpanRows$Names;)V"⟩, 6), (⟨"SpanRows$Search", "reasonNotToStart", "(LSpanRows$Names;)I"⟩, 6), (⟨"SpanRows$Search", "planLooks", "(LSpanRows$Names;Ljava/util/ArrayList;)V"⟩, 6), (⟨"SpanRows$Search", "tryLevel", "(ILSpanRows$Names;Ljava/util/ArrayList;)I"⟩, 6), (⟨"SpanRows$Search", "addWay", "(LSpanRows$Names;)I"⟩, 6), (⟨"SpanRows$Search", "isGood", "(ILSpanRows$Names;Ljava/util/ArrayList;)Z"⟩, 6), (⟨"java/util/ArrayList", "fastRemove", "([Ljava/lang/Object;I)V"⟩, 3)]
theorem lw_r1 : ∀ q ∈ lw_privs_1, lw_okq q := List.forall_mem_cons.mpr ⟨lw_p0, List.forall_mem_cons.mpr ⟨lw_p1, List.forall_mem_cons.mpr ⟨lw_p2, List.forall_mem_cons.mpr ⟨lw_p3, List.forall_mem_cons.mpr ⟨lw_p4, List.forall_mem_cons.mpr ⟨lw_p5, List.forall_mem_cons.mpr ⟨lw_p6, List.forall_mem_cons.mpr ⟨lw_p7, List.forall_mem_cons.mpr ⟨lw_p8, List.forall_mem_cons.mpr ⟨lw_p9, List.forall_mem_cons.mpr ⟨lw_p10, List.forall_mem_cons.mpr ⟨lw_p11, List.forall_mem_cons.mpr ⟨lw_p12, List.forall_mem_cons.mpr ⟨lw_p13, List.forall_mem_cons.mpr ⟨lw_p14, List.forall_mem_cons.mpr ⟨lw_p15, fun _ h => absurd h List.not_mem_nil⟩⟩⟩⟩⟩⟩⟩⟩⟩⟩⟩⟩⟩⟩⟩⟩
theorem lw_p16 : lw_okq (⟨"SpanRows", "countRowsWith", "(I)I"⟩, 7) := ⟨⟨by decide +kernel, by decide +kernel⟩, List.mem_of_getElem? (i := 17) (by decide +kernel), List.mem_of_getElem? (i := 516) (by decide +kernel), List.mem_of_getElem? (i := 517) (by decide +kernel)⟩
theorem lw_p17 : lw_okq (⟨"SpanRowsModel", "works", "()Z"⟩, 34) := ⟨⟨by decide +kernel, by decide +kernel⟩, List.mem_of_getElem? (i := 539) (by decide +kernel), List.mem_of_getElem? (i := 652) (by decide +kernel), List.mem_of_getElem? (i := 653) (by decide +kernel)⟩
theorem lw_p18 : lw_okq (⟨"SpanRowsModel", "holds", "(I)Z"⟩, 34) := ⟨⟨by decide +kernel, by decide +kernel⟩, List.mem_of_getElem? (i := 539) (by decide +kernel), List.mem_of_getElem? (i := 660) (by decide +kernel), List.mem_of_getElem? (i := 661) (by decide +kernel)⟩
theorem lw_p19 : lw_okq (⟨"SpanRowsModel", "isKnown", "(I)Z"⟩, 34) := ⟨⟨by decide +kernel, by decide +kernel⟩, List.mem_of_getElem? (i := 539) (by decide +kernel), List.mem_of_getElem? (i := 664) (by decide +kernel), List.mem_of_getElem? (i := 665) (by decide +kernel)⟩
theorem lw_p20 : lw_okq (⟨"SpanRowsModel", "numberOf", "(I)J"⟩, 34) := ⟨⟨by decide +kernel, by decide +kernel⟩, List.mem_of_getElem? (i := 539) (by decide +kernel), List.mem_of_getElem? (i := 668) (by decide +kernel), List.mem_of_getElem? (i := 669) (by decide +kernel)⟩
theorem lw_p21 : lw_okq (⟨"SpanRowsModel", "forget", "()V"⟩, 34) := ⟨⟨by decide +kernel, by decide +kernel⟩, List.mem_of_getElem? (i := 539) (by decide +kernel), List.mem_of_getElem? (i := 672) (by decide +kernel), List.mem_of_getElem? (i := 673) (by decide +kernel)⟩
theorem lw_p22 : lw_okq (⟨"SpanRowsModel", "isName", "(I)Z"⟩, 34) := ⟨⟨by decide +kernel, by decide +kernel⟩, List.mem_of_getElem? (i := 539) (by decide +kernel), List.mem_of_getElem? (i := 680) (by decide +kernel), List.mem_of_getElem? (i := 681) (by decide +kernel)⟩
theorem lw_p23 : lw_okq (⟨"SpanRowsModel", "tells", "(IIIJJ)Z"⟩, 34) := ⟨⟨by decide +kernel, by decide +kernel⟩, List.mem_of_getElem? (i := 539) (by decide +kernel), List.mem_of_getElem? (i := 684) (by decide +kernel), List.mem_of_getElem? (i := 685) (by decide +kernel)⟩
theorem lw_p24 : lw_okq (⟨"SpanRowsModel", "collect", "()I"⟩, 34) := ⟨⟨by decide +kernel, by decide +kernel⟩, List.mem_of_getElem? (i := 539) (by decide +kernel), List.mem_of_getElem? (i := 708) (by decide +kernel), List.mem_of_getElem? (i := 709) (by decide +kernel)⟩
theorem lw_p25 : lw_okq (⟨"SpanRowsModel", "tries", "(I)I"⟩, 34) := ⟨⟨by decide +kernel, by decide +kernel⟩, List.mem_of_getElem? (i := 539) (by decide +kernel), List.mem_of_getElem? (i := 712) (by decide +kernel), List.mem_of_getElem? (i := 713) (by decide +kernel)⟩
theorem lw_p26 : lw_okq (⟨"SpanRowsModel", "isWay", "(I)Z"⟩, 34) := ⟨⟨by decide +kernel, by decide +kernel⟩, List.mem_of_getElem? (i := 539) (by decide +kernel), List.mem_of_getElem? (i := 720) (by decide +kernel), List.mem_of_getElem? (i := 721) (by decide +kernel)⟩
def lw_privs_2 : List (MethodName × Nat) := [(⟨"SpanRows", "countRowsWith", "(I)I"⟩, 7), (⟨"SpanRowsModel", "works", "()Z"⟩, 34), (⟨"SpanRowsModel", "holds", "(I)Z"⟩, 34), (⟨"SpanRowsModel", "isKnown", "(I)Z"⟩, 34), (⟨"SpanRowsModel", "numberOf", "(I)J"⟩, 34), (⟨"SpanRowsModel", "forget", "()V"⟩, 34), (⟨"SpanRowsModel", "isName", "(I)Z"⟩, 34), (⟨"SpanRowsModel", "tells", "(IIIJJ)Z"⟩, 34), (⟨"SpanRowsModel", "collect", "()I"⟩, 34), (⟨"SpanRowsModel", "tries", "(I)I"⟩, 34), (⟨"SpanRowsModel", "isWay", "(I)Z"⟩, 34)]
theorem lw_r2 : ∀ q ∈ lw_privs_2, lw_okq q := List.forall_mem_cons.mpr ⟨lw_p16, List.forall_mem_cons.mpr ⟨lw_p17, List.forall_mem_cons.mpr ⟨lw_p18, List.forall_mem_cons.mpr ⟨lw_p19, List.forall_mem_cons.mpr ⟨lw_p20, List.forall_mem_cons.mpr ⟨lw_p21, List.forall_mem_cons.mpr ⟨lw_p22, List.forall_mem_cons.mpr ⟨lw_p23, List.forall_mem_cons.mpr ⟨lw_p24, List.forall_mem_cons.mpr ⟨lw_p25, List.forall_mem_cons.mpr ⟨lw_p26, fun _ h => absurd h List.not_mem_nil⟩⟩⟩⟩⟩⟩⟩⟩⟩⟩⟩
def lw_privs : List (MethodName × Nat) := lw_privs_1 ++ (lw_privs_2)
def lw_tbl : List Cond := k2_sels lw_privs ++ tables_1
theorem lw_privs_ok : ∀ q ∈ lw_privs, lw_okq q := by
  show ∀ q ∈ lw_privs_1 ++ (lw_privs_2), lw_okq q
  exact List.forall_mem_append.mpr ⟨lw_r1, lw_r2⟩
end
section
/-! ===== BEGIN words of one list among another's, by their places ===== -/
theorem goodIn_r {big : List Cond} (ws : List Cond) (ps : List Nat) (hp : ws = ps.filterMap (fun i => big[i]?)) (h : ws.all goodWord = true) : GoodIn big ws := by
  intro w hw
  have h1 := List.all_eq_true.mp h w hw
  rw [hp] at hw
  obtain ⟨i, -, hi⟩ := List.mem_filterMap.mp hw
  have hm : w ∈ big := by first | exact List.mem_of_getElem? hi | exact List.getElem?_mem hi
  exact ⟨hm, good_of_word h1⟩
theorem goodIn_app {big a b : List Cond} (ha : GoodIn big a) (hb : GoodIn big b) : GoodIn big (a ++ b) := fun w h => (List.mem_append.mp h).elim (ha w) (hb w)
theorem goodIn_ca {big a b : List Cond} {c : Cond} (ha : GoodIn big (c :: a)) (hb : GoodIn big b) : GoodIn big (c :: (a ++ b)) := fun w h => (List.mem_cons.mp h).elim (fun e => ha w (List.mem_cons.mpr (Or.inl e))) (fun h => (List.mem_append.mp h).elim (fun h => ha w (List.mem_cons.mpr (Or.inr h))) (hb w))
theorem goodIn_sub {big ws : List Cond} (hm : ∀ w ∈ ws, w ∈ big) (h : ws.all goodWord = true) : GoodIn big ws := fun w hw => ⟨hm w hw, good_of_word (List.all_eq_true.mp h w hw)⟩
/-! ===== END ===== -/

/-! ===== BEGIN printed: names, fields, word lists, decode rows ===== -/
def RX0 : String := "SpanRows$KeptRow"
def TX0 : u_T := fun k => match k with
  | 0 => ("SpanRows$KeptRow", "kind", "I", true)
  | 1 => ("SpanRows$KeptRow", "places", "[I", true)
  | 2 => ("SpanRows$KeptRow", "k", "J", true)
  | _ => ("SpanRows$KeptRow", "factors", "[J", true)
def tyX0 : Nat → FieldType := fun k => match k with
  | 0 => .int
  | 1 => .array .int
  | 2 => .long
  | _ => .array .long
abbrev wsX00 : List Cond := u_ws RX0 TX0 4
theorem nmX0 : ∀ a, a < 4 → ∀ b, b < 4 → a ≠ b → (TX0 a).2.1 ≠ (TX0 b).2.1 := by decide +kernel
theorem tyX0_ok : ∀ k, k < 4 → parseFieldDescriptor (TX0 k).2.2.1 = some (tyX0 k) := by decide +kernel
abbrev cX0_init : ByteArray := prog_2_method_1_code
def yX0_init : MethodName := ⟨RX0, "<init>", "(IJLSpanRows$Row;)V"⟩
abbrev cX0_countFree : ByteArray := prog_2_method_2_code
def yX0_countFree : MethodName := ⟨RX0, "countFree", "(LSpanRows$Names;)I"⟩
abbrev cX0_holds : ByteArray := prog_2_method_3_code
def yX0_holds : MethodName := ⟨RX0, "holds", "(ILSpanRows$Names;)Z"⟩
abbrev cX0_isSo : ByteArray := prog_2_method_4_code
def yX0_isSo : MethodName := ⟨RX0, "isSo", "(LSpanRows$Names;)Z"⟩
abbrev cX0_sum : ByteArray := prog_2_method_5_code
def yX0_sum : MethodName := ⟨RX0, "sum", "(LSpanRows$Names;)J"⟩
abbrev cX0_allUnlike : ByteArray := prog_2_method_6_code
def yX0_allUnlike : MethodName := ⟨RX0, "allUnlike", "(LSpanRows$Names;)Z"⟩
abbrev cX0_levelOfLast : ByteArray := prog_2_method_7_code
def yX0_levelOfLast : MethodName := ⟨RX0, "levelOfLast", "(LSpanRows$Names;LSpanRows$Search;)I"⟩
def RX1 : String := "SpanRows$Names"
def TX1 : u_T := fun k => match k with
  | 0 => ("SpanRows$Names", "size", "I", false)
  | 1 => ("SpanRows$Names", "least", "[I", true)
  | 2 => ("SpanRows$Names", "known", "[Z", true)
  | 3 => ("SpanRows$Names", "number", "[J", true)
  | 4 => ("SpanRows$Names", "spanned", "[Z", true)
  | 5 => ("SpanRows$Names", "low", "[J", true)
  | _ => ("SpanRows$Names", "high", "[J", true)
def tyX1 : Nat → FieldType := fun k => match k with
  | 0 => .int
  | 1 => .array .int
  | 2 => .array .boolean
  | 3 => .array .long
  | 4 => .array .boolean
  | 5 => .array .long
  | _ => .array .long
abbrev wsX10 : List Cond := u_ws RX1 TX1 7
theorem nmX1 : ∀ a, a < 7 → ∀ b, b < 7 → a ≠ b → (TX1 a).2.1 ≠ (TX1 b).2.1 := by decide +kernel
theorem tyX1_ok : ∀ k, k < 7 → parseFieldDescriptor (TX1 k).2.2.1 = some (tyX1 k) := by decide +kernel
abbrev cX1_init : ByteArray := prog_3_method_1_code
def yX1_init : MethodName := ⟨RX1, "<init>", "()V"⟩
abbrev cX1_has : ByteArray := prog_3_method_2_code
def yX1_has : MethodName := ⟨RX1, "has", "(I)Z"⟩
abbrev cX1_addFree : ByteArray := prog_3_method_3_code
def yX1_addFree : MethodName := ⟨RX1, "addFree", "()I"⟩
abbrev cX1_leastOf : ByteArray := prog_3_method_4_code
def yX1_leastOf : MethodName := ⟨RX1, "leastOf", "(I)I"⟩
abbrev cX1_isKnown : ByteArray := prog_3_method_5_code
def yX1_isKnown : MethodName := ⟨RX1, "isKnown", "(I)Z"⟩
abbrev cX1_numberOf : ByteArray := prog_3_method_6_code
def yX1_numberOf : MethodName := ⟨RX1, "numberOf", "(I)J"⟩
abbrev cX1_lowOf : ByteArray := prog_3_method_7_code
def yX1_lowOf : MethodName := ⟨RX1, "lowOf", "(I)J"⟩
abbrev cX1_highOf : ByteArray := prog_3_method_8_code
def yX1_highOf : MethodName := ⟨RX1, "highOf", "(I)J"⟩
abbrev cX1_hasSpan : ByteArray := prog_3_method_9_code
def yX1_hasSpan : MethodName := ⟨RX1, "hasSpan", "(I)Z"⟩
abbrev cX1_liesInSpan : ByteArray := prog_3_method_10_code
def yX1_liesInSpan : MethodName := ⟨RX1, "liesInSpan", "(IJ)Z"⟩
abbrev cX1_freedom : ByteArray := prog_3_method_11_code
def yX1_freedom : MethodName := ⟨RX1, "freedom", "(I)I"⟩
abbrev cX1_setNumber : ByteArray := prog_3_method_12_code
def yX1_setNumber : MethodName := ⟨RX1, "setNumber", "(IJ)V"⟩
abbrev cX1_unsetNumber : ByteArray := prog_3_method_13_code
def yX1_unsetNumber : MethodName := ⟨RX1, "unsetNumber", "(I)V"⟩
abbrev cX1_narrow : ByteArray := prog_3_method_14_code
def yX1_narrow : MethodName := ⟨RX1, "narrow", "(IJJ)Z"⟩
abbrev cX1_shareSpans : ByteArray := prog_3_method_15_code
def yX1_shareSpans : MethodName := ⟨RX1, "shareSpans", "(II)Z"⟩
abbrev cX1_join : ByteArray := prog_3_method_16_code
def yX1_join : MethodName := ⟨RX1, "join", "(II)V"⟩
abbrev cX1_countOnes : ByteArray := prog_3_method_17_code
def yX1_countOnes : MethodName := ⟨RX1, "countOnes", "(I)I"⟩
abbrev cX1_copyFrom : ByteArray := prog_3_method_18_code
def yX1_copyFrom : MethodName := ⟨RX1, "copyFrom", "(LSpanRows$Names;)V"⟩
def RX2 : String := "SpanRows$Row"
def TX2 : u_T := fun k => match k with
  | 0 => ("SpanRows$Row", "length", "I", false)
  | 1 => ("SpanRows$Row", "places", "[I", true)
  | _ => ("SpanRows$Row", "factors", "[J", true)
def tyX2 : Nat → FieldType := fun k => match k with
  | 0 => .int
  | 1 => .array .int
  | _ => .array .long
abbrev wsX20 : List Cond := u_ws RX2 TX2 3
theorem nmX2 : ∀ a, a < 3 → ∀ b, b < 3 → a ≠ b → (TX2 a).2.1 ≠ (TX2 b).2.1 := by decide +kernel
theorem tyX2_ok : ∀ k, k < 3 → parseFieldDescriptor (TX2 k).2.2.1 = some (tyX2 k) := by decide +kernel
abbrev cX2_init : ByteArray := prog_4_method_1_code
def yX2_init : MethodName := ⟨RX2, "<init>", "()V"⟩
abbrev cX2_append : ByteArray := prog_4_method_2_code
def yX2_append : MethodName := ⟨RX2, "append", "(IJ)V"⟩
abbrev cX2_cutAtFirstGone : ByteArray := prog_4_method_3_code
def yX2_cutAtFirstGone : MethodName := ⟨RX2, "cutAtFirstGone", "(LSpanRows$Names;)V"⟩
def RX3 : String := "SpanRows$Search"
def TX3 : u_T := fun k => match k with
  | 0 => ("SpanRows$Search", "free", "[I", true)
  | 1 => ("SpanRows$Search", "freeCount", "I", false)
  | 2 => ("SpanRows$Search", "wayCount", "I", false)
  | 3 => ("SpanRows$Search", "tried", "I", false)
  | 4 => ("SpanRows$Search", "ways", "[J", true)
  | _ => ("SpanRows$Search", "lookAt", "[I", true)
def tyX3 : Nat → FieldType := fun k => match k with
  | 0 => .array .int
  | 1 => .int
  | 2 => .int
  | 3 => .int
  | 4 => .array .long
  | _ => .array .int
abbrev wsX30 : List Cond := u_ws RX3 TX3 6
theorem nmX3 : ∀ a, a < 6 → ∀ b, b < 6 → a ≠ b → (TX3 a).2.1 ≠ (TX3 b).2.1 := by decide +kernel
theorem tyX3_ok : ∀ k, k < 6 → parseFieldDescriptor (TX3 k).2.2.1 = some (tyX3 k) := by decide +kernel
abbrev cX3_init : ByteArray := prog_5_method_1_code
def yX3_init : MethodName := ⟨RX3, "<init>", "()V"⟩
abbrev cX3_endWays : ByteArray := prog_5_method_2_code
def yX3_endWays : MethodName := ⟨RX3, "endWays", "()V"⟩
abbrev cX3_hasWay : ByteArray := prog_5_method_3_code
def yX3_hasWay : MethodName := ⟨RX3, "hasWay", "(I)Z"⟩
abbrev cX3_numberIn : ByteArray := prog_5_method_4_code
def yX3_numberIn : MethodName := ⟨RX3, "numberIn", "(II)J"⟩
abbrev cX3_levelOf : ByteArray := prog_5_method_5_code
def yX3_levelOf : MethodName := ⟨RX3, "levelOf", "(I)I"⟩
abbrev cX3_isFreeName : ByteArray := prog_5_method_6_code
def yX3_isFreeName : MethodName := ⟨RX3, "isFreeName", "(I)Z"⟩
abbrev cX3_run : ByteArray := prog_5_method_7_code
def yX3_run : MethodName := ⟨RX3, "run", "(LSpanRows$Row;LSpanRows$Names;Ljava/util/ArrayList;)I"⟩
abbrev cX3_gatherFree : ByteArray := prog_5_method_8_code
def yX3_gatherFree : MethodName := ⟨RX3, "gatherFree", "(LSpanRows$Row;LSpanRows$Names;)V"⟩
abbrev cX3_reasonNotToStart : ByteArray := prog_5_method_9_code
def yX3_reasonNotToStart : MethodName := ⟨RX3, "reasonNotToStart", "(LSpanRows$Names;)I"⟩
abbrev cX3_planLooks : ByteArray := prog_5_method_10_code
def yX3_planLooks : MethodName := ⟨RX3, "planLooks", "(LSpanRows$Names;Ljava/util/ArrayList;)V"⟩
abbrev cX3_tryLevel : ByteArray := prog_5_method_11_code
def yX3_tryLevel : MethodName := ⟨RX3, "tryLevel", "(ILSpanRows$Names;Ljava/util/ArrayList;)I"⟩
abbrev cX3_isGood : ByteArray := prog_5_method_12_code
def yX3_isGood : MethodName := ⟨RX3, "isGood", "(ILSpanRows$Names;Ljava/util/ArrayList;)Z"⟩
abbrev cX3_addWay : ByteArray := prog_5_method_13_code
def yX3_addWay : MethodName := ⟨RX3, "addWay", "(LSpanRows$Names;)I"⟩
def RX4 : String := "SpanRows"
def TX4 : u_T := fun k => match k with
  | 0 => ("SpanRows", "names", "LSpanRows$Names;", true)
  | 1 => ("SpanRows", "row", "LSpanRows$Row;", true)
  | 2 => ("SpanRows", "keptRows", "Ljava/util/ArrayList;", true)
  | 3 => ("SpanRows", "search", "LSpanRows$Search;", true)
  | 4 => ("SpanRows", "savedNames", "Ljava/util/ArrayList;", true)
  | 5 => ("SpanRows", "savedKept", "[I", true)
  | _ => ("SpanRows", "markCount", "I", false)
def tyX4 : Nat → FieldType := fun k => match k with
  | 0 => .object "SpanRows$Names"
  | 1 => .object "SpanRows$Row"
  | 2 => .object "java/util/ArrayList"
  | 3 => .object "SpanRows$Search"
  | 4 => .object "java/util/ArrayList"
  | 5 => .array .int
  | _ => .int
abbrev wsX40 : List Cond := u_ws RX4 TX4 7
theorem nmX4 : ∀ a, a < 7 → ∀ b, b < 7 → a ≠ b → (TX4 a).2.1 ≠ (TX4 b).2.1 := by decide +kernel
theorem tyX4_ok : ∀ k, k < 7 → parseFieldDescriptor (TX4 k).2.2.1 = some (tyX4 k) := by decide +kernel
abbrev cX4_init : ByteArray := prog_1_method_1_code
def yX4_init : MethodName := ⟨RX4, "<init>", "()V"⟩
abbrev cX4_name : ByteArray := prog_1_method_2_code
def yX4_name : MethodName := ⟨RX4, "name", "()I"⟩
abbrev cX4_span : ByteArray := prog_1_method_3_code
def yX4_span : MethodName := ⟨RX4, "span", "(IJJ)Z"⟩
abbrev cX4_give : ByteArray := prog_1_method_4_code
def yX4_give : MethodName := ⟨RX4, "give", "(IJ)Z"⟩
abbrev cX4_equal : ByteArray := prog_1_method_5_code
def yX4_equal : MethodName := ⟨RX4, "equal", "(II)Z"⟩
abbrev cX4_put : ByteArray := prog_1_method_6_code
def yX4_put : MethodName := ⟨RX4, "put", "(IJ)I"⟩
abbrev cX4_keep : ByteArray := prog_1_method_7_code
def yX4_keep : MethodName := ⟨RX4, "keep", "(IJ)I"⟩
abbrev cX4_label : ByteArray := prog_1_method_8_code
def yX4_label : MethodName := ⟨RX4, "label", "()I"⟩
abbrev cX4_way : ByteArray := prog_1_method_9_code
def yX4_way : MethodName := ⟨RX4, "way", "(II)J"⟩
abbrev cX4_take : ByteArray := prog_1_method_10_code
def yX4_take : MethodName := ⟨RX4, "take", "(I)Z"⟩
abbrev cX4_mark : ByteArray := prog_1_method_11_code
def yX4_mark : MethodName := ⟨RX4, "mark", "()I"⟩
abbrev cX4_back : ByteArray := prog_1_method_12_code
def yX4_back : MethodName := ⟨RX4, "back", "()I"⟩
abbrev cX4_about : ByteArray := prog_1_method_13_code
def yX4_about : MethodName := ⟨RX4, "about", "(II)I"⟩
abbrev cX4_bound : ByteArray := prog_1_method_14_code
def yX4_bound : MethodName := ⟨RX4, "bound", "(IZ)J"⟩
abbrev cX4_kept : ByteArray := prog_1_method_15_code
def yX4_kept : MethodName := ⟨RX4, "kept", "(II)I"⟩
abbrev cX4_count : ByteArray := prog_1_method_16_code
def yX4_count : MethodName := ⟨RX4, "count", "(I)I"⟩
abbrev cX4_settle : ByteArray := prog_1_method_17_code
def yX4_settle : MethodName := ⟨RX4, "settle", "(IJ)Z"⟩
abbrev cX4_agree : ByteArray := prog_1_method_18_code
def yX4_agree : MethodName := ⟨RX4, "agree", "(II)Z"⟩
abbrev cX4_allCompleteAreSo : ByteArray := prog_1_method_19_code
def yX4_allCompleteAreSo : MethodName := ⟨RX4, "allCompleteAreSo", "()Z"⟩
abbrev cX4_keepRow : ByteArray := prog_1_method_20_code
def yX4_keepRow : MethodName := ⟨RX4, "keepRow", "(IJ)I"⟩
abbrev cX4_countRowsWith : ByteArray := prog_1_method_21_code
def yX4_countRowsWith : MethodName := ⟨RX4, "countRowsWith", "(I)I"⟩
def RX5 : String := "SpanRowsModel"
def TX5 : u_T := fun k => match k with
  | 0 => ("SpanRowsModel", "names", "I", false)
  | 1 => ("SpanRowsModel", "sort", "[I", true)
  | 2 => ("SpanRowsModel", "of", "[I", true)
  | 3 => ("SpanRowsModel", "with", "[I", true)
  | 4 => ("SpanRowsModel", "from", "[J", true)
  | 5 => ("SpanRowsModel", "to", "[J", true)
  | 6 => ("SpanRowsModel", "told", "I", false)
  | 7 => ("SpanRowsModel", "rowName", "[I", true)
  | 8 => ("SpanRowsModel", "rowBy", "[J", true)
  | 9 => ("SpanRowsModel", "row", "I", false)
  | 10 => ("SpanRowsModel", "keptKind", "[I", true)
  | 11 => ("SpanRowsModel", "keptMany", "[I", true)
  | 12 => ("SpanRowsModel", "keptName", "[I", true)
  | 13 => ("SpanRowsModel", "keptBy", "[J", true)
  | 14 => ("SpanRowsModel", "keptSum", "[J", true)
  | 15 => ("SpanRowsModel", "kept", "I", false)
  | 16 => ("SpanRowsModel", "markNames", "[I", true)
  | 17 => ("SpanRowsModel", "markTold", "[I", true)
  | 18 => ("SpanRowsModel", "markKept", "[I", true)
  | 19 => ("SpanRowsModel", "marks", "I", false)
  | 20 => ("SpanRowsModel", "first", "[I", true)
  | 21 => ("SpanRowsModel", "hasNumber", "[Z", true)
  | 22 => ("SpanRowsModel", "hasSpan", "[Z", true)
  | 23 => ("SpanRowsModel", "number", "[J", true)
  | 24 => ("SpanRowsModel", "low", "[J", true)
  | 25 => ("SpanRowsModel", "high", "[J", true)
  | 26 => ("SpanRowsModel", "hasTried", "[Z", true)
  | 27 => ("SpanRowsModel", "tried", "[J", true)
  | 28 => ("SpanRowsModel", "free", "[I", true)
  | 29 => ("SpanRowsModel", "frees", "I", false)
  | 30 => ("SpanRowsModel", "ways", "I", false)
  | 31 => ("SpanRowsModel", "tries", "I", false)
  | 32 => ("SpanRowsModel", "isThere", "Z", false)
  | _ => ("SpanRowsModel", "way", "[J", true)
def tyX5 : Nat → FieldType := fun k => match k with
  | 0 => .int
  | 1 => .array .int
  | 2 => .array .int
  | 3 => .array .int
  | 4 => .array .long
  | 5 => .array .long
  | 6 => .int
  | 7 => .array .int
  | 8 => .array .long
  | 9 => .int
  | 10 => .array .int
  | 11 => .array .int
  | 12 => .array .int
  | 13 => .array .long
  | 14 => .array .long
  | 15 => .int
  | 16 => .array .int
  | 17 => .array .int
  | 18 => .array .int
  | 19 => .int
  | 20 => .array .int
  | 21 => .array .boolean
  | 22 => .array .boolean
  | 23 => .array .long
  | 24 => .array .long
  | 25 => .array .long
  | 26 => .array .boolean
  | 27 => .array .long
  | 28 => .array .int
  | 29 => .int
  | 30 => .int
  | 31 => .int
  | 32 => .boolean
  | _ => .array .long
abbrev wsX50 : List Cond := u_ws RX5 TX5 34
theorem nmX5 : ∀ a, a < 34 → ∀ b, b < 34 → a ≠ b → (TX5 a).2.1 ≠ (TX5 b).2.1 := by decide +kernel
theorem tyX5_ok : ∀ k, k < 34 → parseFieldDescriptor (TX5 k).2.2.1 = some (tyX5 k) := by decide +kernel
abbrev cX5_init : ByteArray := prog_7_method_1_code
def yX5_init : MethodName := ⟨RX5, "<init>", "()V"⟩
abbrev cX5_isName : ByteArray := prog_7_method_2_code
def yX5_isName : MethodName := ⟨RX5, "isName", "(I)Z"⟩
abbrev cX5_works : ByteArray := prog_7_method_3_code
def yX5_works : MethodName := ⟨RX5, "works", "()Z"⟩
abbrev cX5_isKnown : ByteArray := prog_7_method_4_code
def yX5_isKnown : MethodName := ⟨RX5, "isKnown", "(I)Z"⟩
abbrev cX5_numberOf : ByteArray := prog_7_method_5_code
def yX5_numberOf : MethodName := ⟨RX5, "numberOf", "(I)J"⟩
abbrev cX5_holds : ByteArray := prog_7_method_6_code
def yX5_holds : MethodName := ⟨RX5, "holds", "(I)Z"⟩
abbrev cX5_tells : ByteArray := prog_7_method_7_code
def yX5_tells : MethodName := ⟨RX5, "tells", "(IIIJJ)Z"⟩
abbrev cX5_name : ByteArray := prog_7_method_8_code
def yX5_name : MethodName := ⟨RX5, "name", "()I"⟩
abbrev cX5_span : ByteArray := prog_7_method_9_code
def yX5_span : MethodName := ⟨RX5, "span", "(IJJ)Z"⟩
abbrev cX5_give : ByteArray := prog_7_method_10_code
def yX5_give : MethodName := ⟨RX5, "give", "(IJ)Z"⟩
abbrev cX5_equal : ByteArray := prog_7_method_11_code
def yX5_equal : MethodName := ⟨RX5, "equal", "(II)Z"⟩
abbrev cX5_put : ByteArray := prog_7_method_12_code
def yX5_put : MethodName := ⟨RX5, "put", "(IJ)I"⟩
abbrev cX5_keep : ByteArray := prog_7_method_13_code
def yX5_keep : MethodName := ⟨RX5, "keep", "(IJ)I"⟩
abbrev cX5_forget : ByteArray := prog_7_method_14_code
def yX5_forget : MethodName := ⟨RX5, "forget", "()V"⟩
abbrev cX5_collect : ByteArray := prog_7_method_15_code
def yX5_collect : MethodName := ⟨RX5, "collect", "()I"⟩
abbrev cX5_label : ByteArray := prog_7_method_16_code
def yX5_label : MethodName := ⟨RX5, "label", "()I"⟩
abbrev cX5_tries : ByteArray := prog_7_method_17_code
def yX5_tries : MethodName := ⟨RX5, "tries", "(I)I"⟩
abbrev cX5_isWay : ByteArray := prog_7_method_18_code
def yX5_isWay : MethodName := ⟨RX5, "isWay", "(I)Z"⟩
abbrev cX5_way : ByteArray := prog_7_method_19_code
def yX5_way : MethodName := ⟨RX5, "way", "(II)J"⟩
abbrev cX5_take : ByteArray := prog_7_method_20_code
def yX5_take : MethodName := ⟨RX5, "take", "(I)Z"⟩
abbrev cX5_mark : ByteArray := prog_7_method_21_code
def yX5_mark : MethodName := ⟨RX5, "mark", "()I"⟩
abbrev cX5_back : ByteArray := prog_7_method_22_code
def yX5_back : MethodName := ⟨RX5, "back", "()I"⟩
abbrev cX5_about : ByteArray := prog_7_method_23_code
def yX5_about : MethodName := ⟨RX5, "about", "(II)I"⟩
abbrev cX5_bound : ByteArray := prog_7_method_24_code
def yX5_bound : MethodName := ⟨RX5, "bound", "(IZ)J"⟩
abbrev cX5_kept : ByteArray := prog_7_method_25_code
def yX5_kept : MethodName := ⟨RX5, "kept", "(II)I"⟩
abbrev cX5_count : ByteArray := prog_7_method_26_code
def yX5_count : MethodName := ⟨RX5, "count", "(I)I"⟩
def RJx145de : String := "java/io/Serializable"
def TJx145de : u_T := fun k => match k with
  | _ => ("", "", "", false)
def tyJx145de : Nat → FieldType := fun k => match k with
  | _ => .int
abbrev wsJx145de0 : List Cond := u_ws RJx145de TJx145de 0
theorem nmJx145de : ∀ a, a < 0 → ∀ b, b < 0 → a ≠ b → (TJx145de a).2.1 ≠ (TJx145de b).2.1 := by decide +kernel
theorem tyJx145de_ok : ∀ k, k < 0 → parseFieldDescriptor (TJx145de k).2.2.1 = some (tyJx145de k) := by decide +kernel
def RJx8e188 : String := "java/lang/Cloneable"
def TJx8e188 : u_T := fun k => match k with
  | _ => ("", "", "", false)
def tyJx8e188 : Nat → FieldType := fun k => match k with
  | _ => .int
abbrev wsJx8e1880 : List Cond := u_ws RJx8e188 TJx8e188 0
theorem nmJx8e188 : ∀ a, a < 0 → ∀ b, b < 0 → a ≠ b → (TJx8e188 a).2.1 ≠ (TJx8e188 b).2.1 := by decide +kernel
theorem tyJx8e188_ok : ∀ k, k < 0 → parseFieldDescriptor (TJx8e188 k).2.2.1 = some (tyJx8e188 k) := by decide +kernel
def RJxab1ab : String := "java/lang/Iterable"
def TJxab1ab : u_T := fun k => match k with
  | _ => ("", "", "", false)
def tyJxab1ab : Nat → FieldType := fun k => match k with
  | _ => .int
abbrev wsJxab1ab0 : List Cond := u_ws RJxab1ab TJxab1ab 0
theorem nmJxab1ab : ∀ a, a < 0 → ∀ b, b < 0 → a ≠ b → (TJxab1ab a).2.1 ≠ (TJxab1ab b).2.1 := by decide +kernel
theorem tyJxab1ab_ok : ∀ k, k < 0 → parseFieldDescriptor (TJxab1ab k).2.2.1 = some (tyJxab1ab k) := by decide +kernel
def RJ9 : String := "java/lang/Math"
def TJ9 : u_T := fun k => match k with
  | _ => ("", "", "", false)
def tyJ9 : Nat → FieldType := fun k => match k with
  | _ => .int
abbrev wsJ90 : List Cond := u_ws RJ9 TJ9 0
theorem nmJ9 : ∀ a, a < 0 → ∀ b, b < 0 → a ≠ b → (TJ9 a).2.1 ≠ (TJ9 b).2.1 := by decide +kernel
theorem tyJ9_ok : ∀ k, k < 0 → parseFieldDescriptor (TJ9 k).2.2.1 = some (tyJ9 k) := by decide +kernel
abbrev cJ9_max_7cf53 : ByteArray := prog_11_method_65_code
def yJ9_max_7cf53 : MethodName := ⟨RJ9, "max", "(II)I"⟩
abbrev cJ9_max_f86c9 : ByteArray := prog_11_method_66_code
def yJ9_max_f86c9 : MethodName := ⟨RJ9, "max", "(JJ)J"⟩
abbrev cJ9_min_7cf53 : ByteArray := prog_11_method_69_code
def yJ9_min_7cf53 : MethodName := ⟨RJ9, "min", "(II)I"⟩
abbrev cJ9_min_f86c9 : ByteArray := prog_11_method_70_code
def yJ9_min_f86c9 : MethodName := ⟨RJ9, "min", "(JJ)J"⟩
def RJ10 : String := "java/lang/System"
def TJ10 : u_T := fun k => match k with
  | _ => ("", "", "", false)
def tyJ10 : Nat → FieldType := fun k => match k with
  | _ => .int
abbrev wsJ100 : List Cond := u_ws RJ10 TJ10 0
theorem nmJ10 : ∀ a, a < 0 → ∀ b, b < 0 → a ≠ b → (TJ10 a).2.1 ≠ (TJ10 b).2.1 := by decide +kernel
theorem tyJ10_ok : ∀ k, k < 0 → parseFieldDescriptor (TJ10 k).2.2.1 = some (tyJ10 k) := by decide +kernel
def RJxa1e45 : String := "java/util/AbstractCollection"
def TJxa1e45 : u_T := fun k => match k with
  | _ => ("", "", "", false)
def tyJxa1e45 : Nat → FieldType := fun k => match k with
  | _ => .int
abbrev wsJxa1e450 : List Cond := u_ws RJxa1e45 TJxa1e45 0
theorem nmJxa1e45 : ∀ a, a < 0 → ∀ b, b < 0 → a ≠ b → (TJxa1e45 a).2.1 ≠ (TJxa1e45 b).2.1 := by decide +kernel
theorem tyJxa1e45_ok : ∀ k, k < 0 → parseFieldDescriptor (TJxa1e45 k).2.2.1 = some (tyJxa1e45 k) := by decide +kernel
abbrev cJxa1e45_init_da8c8 : ByteArray := prog_13_method_1_code
def yJxa1e45_init_da8c8 : MethodName := ⟨RJxa1e45, "<init>", "()V"⟩
def RJxc12de : String := "java/util/AbstractList"
def TJxc12de : u_T := fun k => match k with
  | _ => ("", "", "", false)
def tyJxc12de : Nat → FieldType := fun k => match k with
  | _ => .int
abbrev wsJxc12de0 : List Cond := u_ws RJxc12de TJxc12de 0
theorem nmJxc12de : ∀ a, a < 0 → ∀ b, b < 0 → a ≠ b → (TJxc12de a).2.1 ≠ (TJxc12de b).2.1 := by decide +kernel
theorem tyJxc12de_ok : ∀ k, k < 0 → parseFieldDescriptor (TJxc12de k).2.2.1 = some (tyJxc12de k) := by decide +kernel
abbrev cJxc12de_init_da8c8 : ByteArray := prog_14_method_1_code
def yJxc12de_init_da8c8 : MethodName := ⟨RJxc12de, "<init>", "()V"⟩
def RJx4a65c : String := "java/util/ArrayList"
def TJx4a65c : u_T := fun k => match k with
  | 0 => ("java/util/AbstractList", "modCount", "I", false)
  | 1 => ("java/util/ArrayList", "elementData", "[Ljava/lang/Object;", false)
  | _ => ("java/util/ArrayList", "size", "I", false)
def tyJx4a65c : Nat → FieldType := fun k => match k with
  | 0 => .int
  | 1 => .array (.object "java/lang/Object")
  | _ => .int
abbrev wsJx4a65c0 : List Cond := u_ws RJx4a65c TJx4a65c 3
theorem nmJx4a65c : ∀ a, a < 3 → ∀ b, b < 3 → a ≠ b → (TJx4a65c a).2.1 ≠ (TJx4a65c b).2.1 := by decide +kernel
theorem tyJx4a65c_ok : ∀ k, k < 3 → parseFieldDescriptor (TJx4a65c k).2.2.1 = some (tyJx4a65c k) := by decide +kernel
abbrev cJx4a65c_init_da8c8 : ByteArray := prog_15_method_2_code
def yJx4a65c_init_da8c8 : MethodName := ⟨RJx4a65c, "<init>", "()V"⟩
abbrev cJx4a65c_grow_92f84 : ByteArray := prog_15_method_6_code
def yJx4a65c_grow_92f84 : MethodName := ⟨RJx4a65c, "grow", "(I)[Ljava/lang/Object;"⟩
abbrev cJx4a65c_grow_d5877 : ByteArray := prog_15_method_7_code
def yJx4a65c_grow_d5877 : MethodName := ⟨RJx4a65c, "grow", "()[Ljava/lang/Object;"⟩
abbrev cJx4a65c_size_8abf5 : ByteArray := prog_15_method_8_code
def yJx4a65c_size_8abf5 : MethodName := ⟨RJx4a65c, "size", "()I"⟩
abbrev cJx4a65c_elementData_915e3 : ByteArray := prog_15_method_18_code
def yJx4a65c_elementData_915e3 : MethodName := ⟨RJx4a65c, "elementData", "(I)Ljava/lang/Object;"⟩
abbrev cJx4a65c_get_915e3 : ByteArray := prog_15_method_20_code
def yJx4a65c_get_915e3 : MethodName := ⟨RJx4a65c, "get", "(I)Ljava/lang/Object;"⟩
abbrev cJx4a65c_add_72be8 : ByteArray := prog_15_method_24_code
def yJx4a65c_add_72be8 : MethodName := ⟨RJx4a65c, "add", "(Ljava/lang/Object;[Ljava/lang/Object;I)V"⟩
abbrev cJx4a65c_add_9ea2d : ByteArray := prog_15_method_25_code
def yJx4a65c_add_9ea2d : MethodName := ⟨RJx4a65c, "add", "(Ljava/lang/Object;)Z"⟩
abbrev cJx4a65c_remove_915e3 : ByteArray := prog_15_method_29_code
def yJx4a65c_remove_915e3 : MethodName := ⟨RJx4a65c, "remove", "(I)Ljava/lang/Object;"⟩
abbrev cJx4a65c_fastRemove_b59b0 : ByteArray := prog_15_method_39_code
def yJx4a65c_fastRemove_b59b0 : MethodName := ⟨RJx4a65c, "fastRemove", "([Ljava/lang/Object;I)V"⟩
def RJ7 : String := "java/util/Arrays"
def TJ7 : u_T := fun k => match k with
  | _ => ("", "", "", false)
def tyJ7 : Nat → FieldType := fun k => match k with
  | _ => .int
abbrev wsJ70 : List Cond := u_ws RJ7 TJ7 0
theorem nmJ7 : ∀ a, a < 0 → ∀ b, b < 0 → a ≠ b → (TJ7 a).2.1 ≠ (TJ7 b).2.1 := by decide +kernel
theorem tyJ7_ok : ∀ k, k < 0 → parseFieldDescriptor (TJ7 k).2.2.1 = some (tyJ7 k) := by decide +kernel
abbrev cJ7_copyOf_1904c : ByteArray := prog_16_method_119_code
def yJ7_copyOf_1904c : MethodName := ⟨RJ7, "copyOf", "([Ljava/lang/Object;I)[Ljava/lang/Object;"⟩
abbrev cJ7_copyOf_6403c : ByteArray := prog_16_method_120_code
def yJ7_copyOf_6403c : MethodName := ⟨RJ7, "copyOf", "([Ljava/lang/Object;ILjava/lang/Class;)[Ljava/lang/Object;"⟩
abbrev cJ7_copyOf_59c91 : ByteArray := prog_16_method_123_code
def yJ7_copyOf_59c91 : MethodName := ⟨RJ7, "copyOf", "([II)[I"⟩
abbrev cJ7_copyOf_c38d5 : ByteArray := prog_16_method_124_code
def yJ7_copyOf_c38d5 : MethodName := ⟨RJ7, "copyOf", "([JI)[J"⟩
def RJx5ef63 : String := "java/util/Collection"
def TJx5ef63 : u_T := fun k => match k with
  | _ => ("", "", "", false)
def tyJx5ef63 : Nat → FieldType := fun k => match k with
  | _ => .int
abbrev wsJx5ef630 : List Cond := u_ws RJx5ef63 TJx5ef63 0
theorem nmJx5ef63 : ∀ a, a < 0 → ∀ b, b < 0 → a ≠ b → (TJx5ef63 a).2.1 ≠ (TJx5ef63 b).2.1 := by decide +kernel
theorem tyJx5ef63_ok : ∀ k, k < 0 → parseFieldDescriptor (TJx5ef63 k).2.2.1 = some (tyJx5ef63 k) := by decide +kernel
def RJxbd725 : String := "java/util/List"
def TJxbd725 : u_T := fun k => match k with
  | _ => ("", "", "", false)
def tyJxbd725 : Nat → FieldType := fun k => match k with
  | _ => .int
abbrev wsJxbd7250 : List Cond := u_ws RJxbd725 TJxbd725 0
theorem nmJxbd725 : ∀ a, a < 0 → ∀ b, b < 0 → a ≠ b → (TJxbd725 a).2.1 ≠ (TJxbd725 b).2.1 := by decide +kernel
theorem tyJxbd725_ok : ∀ k, k < 0 → parseFieldDescriptor (TJxbd725 k).2.2.1 = some (tyJxbd725 k) := by decide +kernel
def RJ15 : String := "java/util/Objects"
def TJ15 : u_T := fun k => match k with
  | _ => ("", "", "", false)
def tyJ15 : Nat → FieldType := fun k => match k with
  | _ => .int
abbrev wsJ150 : List Cond := u_ws RJ15 TJ15 0
theorem nmJ15 : ∀ a, a < 0 → ∀ b, b < 0 → a ≠ b → (TJ15 a).2.1 ≠ (TJ15 b).2.1 := by decide +kernel
theorem tyJ15_ok : ∀ k, k < 0 → parseFieldDescriptor (TJ15 k).2.2.1 = some (tyJ15 k) := by decide +kernel
abbrev cJ15_checkIndex_7cf53 : ByteArray := prog_19_method_17_code
def yJ15_checkIndex_7cf53 : MethodName := ⟨RJ15, "checkIndex", "(II)I"⟩
def RJxf0a74 : String := "java/util/RandomAccess"
def TJxf0a74 : u_T := fun k => match k with
  | _ => ("", "", "", false)
def tyJxf0a74 : Nat → FieldType := fun k => match k with
  | _ => .int
abbrev wsJxf0a740 : List Cond := u_ws RJxf0a74 TJxf0a74 0
theorem nmJxf0a74 : ∀ a, a < 0 → ∀ b, b < 0 → a ≠ b → (TJxf0a74 a).2.1 ≠ (TJxf0a74 b).2.1 := by decide +kernel
theorem tyJxf0a74_ok : ∀ k, k < 0 → parseFieldDescriptor (TJxf0a74 k).2.2.1 = some (tyJxf0a74 k) := by decide +kernel
def RJxa66e6 : String := "java/util/SequencedCollection"
def TJxa66e6 : u_T := fun k => match k with
  | _ => ("", "", "", false)
def tyJxa66e6 : Nat → FieldType := fun k => match k with
  | _ => .int
abbrev wsJxa66e60 : List Cond := u_ws RJxa66e6 TJxa66e6 0
theorem nmJxa66e6 : ∀ a, a < 0 → ∀ b, b < 0 → a ≠ b → (TJxa66e6 a).2.1 ≠ (TJxa66e6 b).2.1 := by decide +kernel
theorem tyJxa66e6_ok : ∀ k, k < 0 → parseFieldDescriptor (TJxa66e6 k).2.2.1 = some (tyJxa66e6 k) := by decide +kernel
def RJ8 : String := "jdk/internal/util/ArraysSupport"
def TJ8 : u_T := fun k => match k with
  | _ => ("", "", "", false)
def tyJ8 : Nat → FieldType := fun k => match k with
  | _ => .int
abbrev wsJ80 : List Cond := u_ws RJ8 TJ8 0
theorem nmJ8 : ∀ a, a < 0 → ∀ b, b < 0 → a ≠ b → (TJ8 a).2.1 ≠ (TJ8 b).2.1 := by decide +kernel
theorem tyJ8_ok : ∀ k, k < 0 → parseFieldDescriptor (TJ8 k).2.2.1 = some (tyJ8 k) := by decide +kernel
abbrev cJ8_newLength_cabcc : ByteArray := prog_22_method_27_code
def yJ8_newLength_cabcc : MethodName := ⟨RJ8, "newLength", "(III)I"⟩
abbrev cJ8_hugeLength_7cf53 : ByteArray := prog_22_method_28_code
def yJ8_hugeLength_7cf53 : MethodName := ⟨RJ8, "hugeLength", "(II)I"⟩
def RJ3 : String := "jdk/internal/util/Preconditions"
def TJ3 : u_T := fun k => match k with
  | _ => ("", "", "", false)
def tyJ3 : Nat → FieldType := fun k => match k with
  | _ => .int
abbrev wsJ30 : List Cond := u_ws RJ3 TJ3 0
theorem nmJ3 : ∀ a, a < 0 → ∀ b, b < 0 → a ≠ b → (TJ3 a).2.1 ≠ (TJ3 b).2.1 := by decide +kernel
theorem tyJ3_ok : ∀ k, k < 0 → parseFieldDescriptor (TJ3 k).2.2.1 = some (tyJ3 k) := by decide +kernel
abbrev cJ3_checkIndex_8e157 : ByteArray := prog_23_method_11_code
def yJ3_checkIndex_8e157 : MethodName := ⟨RJ3, "checkIndex", "(IILjava/util/function/BiFunction;)I"⟩
def RL : String := "SpanRowsLaw"
abbrev cL_law : ByteArray := code
def yL_law : MethodName := ⟨RL, "law", "([I)Z"⟩
def wsJ7_copyOf_59c91 : List Cond := .code yJ7_copyOf_59c91 cJ7_copyOf_59c91 3 (some (.array .int)) :: ([.methodLink RJ7 316 ⟨"[I", "clone", "()Ljava/lang/Object;"⟩, .sameMethod "[I" "java/lang/Object" "clone" "()Ljava/lang/Object;", .native ⟨"java/lang/Object", "clone", "()Ljava/lang/Object;"⟩, .instanceMethod ⟨"java/lang/Object", "clone", "()Ljava/lang/Object;"⟩, .selects "[I" ⟨"[I", "clone", "()Ljava/lang/Object;"⟩ ⟨"java/lang/Object", "clone", "()Ljava/lang/Object;"⟩, .classLink RJ7 317 "[I", .arrayClass .int, .methodLink RJ7 304 Lib.Math.min.name, .static Lib.Math.min.name, .initialized "java/lang/Math", .code Lib.Math.min.name Lib.Math.min.code 2 (some .int), .methodLink RJ7 150 arraycopyName, .native arraycopyName, .static arraycopyName, .initialized "java/lang/System"])
def wsJ7_copyOf_c38d5 : List Cond := .code yJ7_copyOf_c38d5 cJ7_copyOf_c38d5 3 (some (.array .long)) :: ([.methodLink RJ7 319 ⟨"[J", "clone", "()Ljava/lang/Object;"⟩, .sameMethod "[J" "java/lang/Object" "clone" "()Ljava/lang/Object;", .native ⟨"java/lang/Object", "clone", "()Ljava/lang/Object;"⟩, .instanceMethod ⟨"java/lang/Object", "clone", "()Ljava/lang/Object;"⟩, .selects "[J" ⟨"[J", "clone", "()Ljava/lang/Object;"⟩ ⟨"java/lang/Object", "clone", "()Ljava/lang/Object;"⟩, .classLink RJ7 320 "[J", .arrayClass .long, .methodLink RJ7 304 Lib.Math.min.name, .static Lib.Math.min.name, .initialized "java/lang/Math", .code Lib.Math.min.name Lib.Math.min.code 2 (some .int), .methodLink RJ7 150 arraycopyName, .native arraycopyName, .static arraycopyName, .initialized "java/lang/System"])
def wsX0_init_r1 : List Cond := [Cond.methodLink RX0 3 objectInit, Cond.instanceMethod objectInit, Cond.code objectInit ⟨#[0xb1]⟩ 1 none, Cond.fieldLink RX0 9 "SpanRows$KeptRow" "kind" "I", Cond.fieldLink RX0 15 "SpanRows$KeptRow" "k" "J", Cond.fieldLink RX0 25 "SpanRows$Row" "length" "I", Cond.fieldLink RX0 34 "SpanRows$KeptRow" "places" "[I", Cond.fieldLink RX0 42 "SpanRows$KeptRow" "factors" "[J", Cond.methodLink RX0 28 yJ7_copyOf_59c91, Cond.static yJ7_copyOf_59c91, Cond.initialized RJ7, Cond.code yJ7_copyOf_59c91 cJ7_copyOf_59c91 3 (some (.array .int)), Cond.methodLink RJ7 316 ⟨"[I", "clone", "()Ljava/lang/Object;"⟩, Cond.sameMethod "[I" "java/lang/Object" "clone" "()Ljava/lang/Object;", Cond.native ⟨"java/lang/Object", "clone", "()Ljava/lang/Object;"⟩, Cond.instanceMethod ⟨"java/lang/Object", "clone", "()Ljava/lang/Object;"⟩, Cond.selects "[I" ⟨"[I", "clone", "()Ljava/lang/Object;"⟩ ⟨"java/lang/Object", "clone", "()Ljava/lang/Object;"⟩, Cond.classLink RJ7 317 "[I", Cond.arrayClass .int, Cond.methodLink RJ7 304 Lib.Math.min.name, Cond.static Lib.Math.min.name, Cond.initialized "java/lang/Math", Cond.code Lib.Math.min.name Lib.Math.min.code 2 (some .int), Cond.methodLink RJ7 150 arraycopyName]
def wsX0_init_r2 : List Cond := [Cond.native arraycopyName, Cond.static arraycopyName, Cond.initialized "java/lang/System", Cond.methodLink RX0 39 yJ7_copyOf_c38d5, Cond.static yJ7_copyOf_c38d5, Cond.code yJ7_copyOf_c38d5 cJ7_copyOf_c38d5 3 (some (.array .long)), Cond.methodLink RJ7 319 ⟨"[J", "clone", "()Ljava/lang/Object;"⟩, Cond.sameMethod "[J" "java/lang/Object" "clone" "()Ljava/lang/Object;", Cond.selects "[J" ⟨"[J", "clone", "()Ljava/lang/Object;"⟩ ⟨"java/lang/Object", "clone", "()Ljava/lang/Object;"⟩, Cond.classLink RJ7 320 "[J", Cond.arrayClass .long]
def wsX0_init : List Cond := .code yX0_init cX0_init 5 none :: ((wsX0_init_r1 ++ wsX0_init_r2) ++ wsX00 ++ wsX20)
def wsX1_isKnown : List Cond := .code yX1_isKnown cX1_isKnown 2 (some .boolean) :: ([.fieldLink RX1 15 "SpanRows$Names" "known" "[Z", .fieldLink RX1 9 "SpanRows$Names" "least" "[I"] ++ wsX10)
def wsX0_countFree : List Cond := .code yX0_countFree cX0_countFree 4 (some .int) :: ([.fieldLink RX0 34 "SpanRows$KeptRow" "places" "[I", .methodLink RX0 43 yX1_isKnown, .instanceMethod yX1_isKnown, .selects RX1 yX1_isKnown yX1_isKnown, .initialized RX1, .code yX1_isKnown cX1_isKnown 2 (some .boolean), .fieldLink RX1 15 "SpanRows$Names" "known" "[Z", .fieldLink RX1 9 "SpanRows$Names" "least" "[I"] ++ wsX00 ++ wsX10)
def wsX1_leastOf : List Cond := .code yX1_leastOf cX1_leastOf 2 (some .int) :: ([.fieldLink RX1 9 "SpanRows$Names" "least" "[I"] ++ wsX10)
def wsX0_holds : List Cond := .code yX0_holds cX0_holds 4 (some .boolean) :: ([.fieldLink RX0 34 "SpanRows$KeptRow" "places" "[I", .methodLink RX0 49 yX1_leastOf, .instanceMethod yX1_leastOf, .selects RX1 yX1_leastOf yX1_leastOf, .initialized RX1, .code yX1_leastOf cX1_leastOf 2 (some .int), .fieldLink RX1 9 "SpanRows$Names" "least" "[I"] ++ wsX00 ++ wsX10)
def wsX1_numberOf : List Cond := .code yX1_numberOf cX1_numberOf 2 (some .long) :: ([.fieldLink RX1 19 "SpanRows$Names" "number" "[J", .fieldLink RX1 9 "SpanRows$Names" "least" "[I"] ++ wsX10)
def wsX0_sum : List Cond := .code yX0_sum cX0_sum 5 (some .long) :: ([.fieldLink RX0 34 "SpanRows$KeptRow" "places" "[I", .fieldLink RX0 42 "SpanRows$KeptRow" "factors" "[J", .methodLink RX0 61 yX1_numberOf, .instanceMethod yX1_numberOf, .selects RX1 yX1_numberOf yX1_numberOf, .initialized RX1, .code yX1_numberOf cX1_numberOf 2 (some .long), .fieldLink RX1 19 "SpanRows$Names" "number" "[J", .fieldLink RX1 9 "SpanRows$Names" "least" "[I"] ++ wsX00 ++ wsX10)
def wsX0_allUnlike : List Cond := .code yX0_allUnlike cX0_allUnlike 6 (some .boolean) :: ([.fieldLink RX0 34 "SpanRows$KeptRow" "places" "[I", .methodLink RX0 61 yX1_numberOf, .instanceMethod yX1_numberOf, .selects RX1 yX1_numberOf yX1_numberOf, .initialized RX1, .code yX1_numberOf cX1_numberOf 2 (some .long), .fieldLink RX1 19 "SpanRows$Names" "number" "[J", .fieldLink RX1 9 "SpanRows$Names" "least" "[I"] ++ wsX00 ++ wsX10)
def wsX0_isSo : List Cond := .code yX0_isSo cX0_isSo 2 (some .boolean) :: ([.fieldLink RX0 9 "SpanRows$KeptRow" "kind" "I", .fieldLink RX0 15 "SpanRows$KeptRow" "k" "J", .methodLink RX0 53 yX0_sum, .instanceMethod yX0_sum, .selects RX0 yX0_sum yX0_sum, .initialized RX0, .code yX0_sum cX0_sum 5 (some .long), .fieldLink RX0 34 "SpanRows$KeptRow" "places" "[I", .fieldLink RX0 42 "SpanRows$KeptRow" "factors" "[J", .methodLink RX0 61 yX1_numberOf, .instanceMethod yX1_numberOf, .selects RX1 yX1_numberOf yX1_numberOf, .initialized RX1, .code yX1_numberOf cX1_numberOf 2 (some .long), .fieldLink RX1 19 "SpanRows$Names" "number" "[J", .fieldLink RX1 9 "SpanRows$Names" "least" "[I", .methodLink RX0 57 yX0_allUnlike, .instanceMethod yX0_allUnlike, .selects RX0 yX0_allUnlike yX0_allUnlike, .code yX0_allUnlike cX0_allUnlike 6 (some .boolean)] ++ wsX00 ++ wsX10)
def wsX3_levelOf : List Cond := .code yX3_levelOf cX3_levelOf 3 (some .int) :: ([.fieldLink RX3 22 "SpanRows$Search" "freeCount" "I", .fieldLink RX3 9 "SpanRows$Search" "free" "[I"] ++ wsX30)
def wsX0_levelOfLast : List Cond := .code yX0_levelOfLast cX0_levelOfLast 6 (some .int) :: ([.fieldLink RX0 34 "SpanRows$KeptRow" "places" "[I", .methodLink RX0 70 Lib.Math.max.name, .static Lib.Math.max.name, .initialized "java/lang/Math", .code Lib.Math.max.name Lib.Math.max.code 2 (some .int), .methodLink RX0 43 yX1_isKnown, .instanceMethod yX1_isKnown, .selects RX1 yX1_isKnown yX1_isKnown, .initialized RX1, .code yX1_isKnown cX1_isKnown 2 (some .boolean), .fieldLink RX1 15 "SpanRows$Names" "known" "[Z", .fieldLink RX1 9 "SpanRows$Names" "least" "[I", .methodLink RX0 49 yX1_leastOf, .instanceMethod yX1_leastOf, .selects RX1 yX1_leastOf yX1_leastOf, .code yX1_leastOf cX1_leastOf 2 (some .int), .methodLink RX0 65 yX3_levelOf, .instanceMethod yX3_levelOf, .selects RX3 yX3_levelOf yX3_levelOf, .initialized RX3, .code yX3_levelOf cX3_levelOf 3 (some .int), .fieldLink RX3 22 "SpanRows$Search" "freeCount" "I", .fieldLink RX3 9 "SpanRows$Search" "free" "[I"] ++ wsX00 ++ wsX10 ++ wsX30)
def wsX1_init : List Cond := .code yX1_init cX1_init 1 none :: ([.methodLink RX1 3 objectInit, .instanceMethod objectInit, .code objectInit ⟨#[0xb1]⟩ 1 none, .arrayClass .int, .fieldLink RX1 9 "SpanRows$Names" "least" "[I", .arrayClass .boolean, .fieldLink RX1 15 "SpanRows$Names" "known" "[Z", .arrayClass .long, .fieldLink RX1 19 "SpanRows$Names" "number" "[J", .fieldLink RX1 23 "SpanRows$Names" "spanned" "[Z", .fieldLink RX1 26 "SpanRows$Names" "low" "[J", .fieldLink RX1 29 "SpanRows$Names" "high" "[J"] ++ wsX10)
def wsX1_has : List Cond := .code yX1_has cX1_has 2 (some .boolean) :: ([.fieldLink RX1 32 "SpanRows$Names" "size" "I"] ++ wsX10)
def wsX1_addFree : List Cond := .code yX1_addFree cX1_addFree 2 (some .int) :: ([.fieldLink RX1 32 "SpanRows$Names" "size" "I", .fieldLink RX1 9 "SpanRows$Names" "least" "[I", .fieldLink RX1 15 "SpanRows$Names" "known" "[Z", .fieldLink RX1 19 "SpanRows$Names" "number" "[J", .fieldLink RX1 23 "SpanRows$Names" "spanned" "[Z", .fieldLink RX1 26 "SpanRows$Names" "low" "[J", .constantLong RX1 38 (-9223372036854775808), .fieldLink RX1 29 "SpanRows$Names" "high" "[J", .constantLong RX1 40 (9223372036854775807)] ++ wsX10)
def wsX1_lowOf : List Cond := .code yX1_lowOf cX1_lowOf 2 (some .long) :: ([.fieldLink RX1 26 "SpanRows$Names" "low" "[J", .fieldLink RX1 9 "SpanRows$Names" "least" "[I"] ++ wsX10)
def wsX1_highOf : List Cond := .code yX1_highOf cX1_highOf 2 (some .long) :: ([.fieldLink RX1 29 "SpanRows$Names" "high" "[J", .fieldLink RX1 9 "SpanRows$Names" "least" "[I"] ++ wsX10)
def wsX1_hasSpan : List Cond := .code yX1_hasSpan cX1_hasSpan 2 (some .boolean) :: ([.fieldLink RX1 23 "SpanRows$Names" "spanned" "[Z", .fieldLink RX1 9 "SpanRows$Names" "least" "[I"] ++ wsX10)
def wsX1_liesInSpan : List Cond := .code yX1_liesInSpan cX1_liesInSpan 4 (some .boolean) :: ([.methodLink RX1 42 yX1_lowOf, .instanceMethod yX1_lowOf, .selects RX1 yX1_lowOf yX1_lowOf, .initialized RX1, .code yX1_lowOf cX1_lowOf 2 (some .long), .fieldLink RX1 26 "SpanRows$Names" "low" "[J", .fieldLink RX1 9 "SpanRows$Names" "least" "[I", .methodLink RX1 46 yX1_highOf, .instanceMethod yX1_highOf, .selects RX1 yX1_highOf yX1_highOf, .code yX1_highOf cX1_highOf 2 (some .long), .fieldLink RX1 29 "SpanRows$Names" "high" "[J"] ++ wsX10)
def wsX1_freedom : List Cond := .code yX1_freedom cX1_freedom 2 (some .int) :: ([.methodLink RX1 49 yX1_isKnown, .instanceMethod yX1_isKnown, .selects RX1 yX1_isKnown yX1_isKnown, .initialized RX1, .code yX1_isKnown cX1_isKnown 2 (some .boolean), .fieldLink RX1 15 "SpanRows$Names" "known" "[Z", .fieldLink RX1 9 "SpanRows$Names" "least" "[I", .methodLink RX1 53 yX1_hasSpan, .instanceMethod yX1_hasSpan, .selects RX1 yX1_hasSpan yX1_hasSpan, .code yX1_hasSpan cX1_hasSpan 2 (some .boolean), .fieldLink RX1 23 "SpanRows$Names" "spanned" "[Z"] ++ wsX10)
def wsX1_setNumber : List Cond := .code yX1_setNumber cX1_setNumber 4 none :: ([.fieldLink RX1 15 "SpanRows$Names" "known" "[Z", .fieldLink RX1 9 "SpanRows$Names" "least" "[I", .fieldLink RX1 19 "SpanRows$Names" "number" "[J"] ++ wsX10)
def wsX1_unsetNumber : List Cond := .code yX1_unsetNumber cX1_unsetNumber 2 none :: ([.fieldLink RX1 15 "SpanRows$Names" "known" "[Z", .fieldLink RX1 9 "SpanRows$Names" "least" "[I"] ++ wsX10)
def wsX1_narrow_r1 : List Cond := [Cond.methodLink RX1 59 Lib.MathLoose.max_long.x, Cond.static Lib.MathLoose.max_long.x, Cond.initialized "java/lang/Math", Cond.code Lib.MathLoose.max_long.x Lib.MathLoose.max_long.code 4 (some .long), Cond.methodLink RX1 65 Lib.MathLoose.min_long.x, Cond.static Lib.MathLoose.min_long.x, Cond.code Lib.MathLoose.min_long.x Lib.MathLoose.min_long.code 4 (some .long), Cond.fieldLink RX1 9 "SpanRows$Names" "least" "[I", Cond.fieldLink RX1 23 "SpanRows$Names" "spanned" "[Z", Cond.fieldLink RX1 26 "SpanRows$Names" "low" "[J", Cond.fieldLink RX1 29 "SpanRows$Names" "high" "[J", Cond.methodLink RX1 49 yX1_isKnown, Cond.instanceMethod yX1_isKnown, Cond.selects RX1 yX1_isKnown yX1_isKnown, Cond.initialized RX1, Cond.code yX1_isKnown cX1_isKnown 2 (some .boolean), Cond.fieldLink RX1 15 "SpanRows$Names" "known" "[Z", Cond.methodLink RX1 56 yX1_numberOf, Cond.instanceMethod yX1_numberOf, Cond.selects RX1 yX1_numberOf yX1_numberOf, Cond.code yX1_numberOf cX1_numberOf 2 (some .long), Cond.fieldLink RX1 19 "SpanRows$Names" "number" "[J", Cond.methodLink RX1 42 yX1_lowOf, Cond.instanceMethod yX1_lowOf]
def wsX1_narrow_r2 : List Cond := [Cond.selects RX1 yX1_lowOf yX1_lowOf, Cond.code yX1_lowOf cX1_lowOf 2 (some .long), Cond.methodLink RX1 46 yX1_highOf, Cond.instanceMethod yX1_highOf, Cond.selects RX1 yX1_highOf yX1_highOf, Cond.code yX1_highOf cX1_highOf 2 (some .long)]
def wsX1_narrow : List Cond := .code yX1_narrow cX1_narrow 11 (some .boolean) :: ((wsX1_narrow_r1 ++ wsX1_narrow_r2) ++ wsX10)
def wsX1_shareSpans_r1 : List Cond := [Cond.methodLink RX1 53 yX1_hasSpan, Cond.instanceMethod yX1_hasSpan, Cond.selects RX1 yX1_hasSpan yX1_hasSpan, Cond.initialized RX1, Cond.code yX1_hasSpan cX1_hasSpan 2 (some .boolean), Cond.fieldLink RX1 23 "SpanRows$Names" "spanned" "[Z", Cond.fieldLink RX1 9 "SpanRows$Names" "least" "[I", Cond.methodLink RX1 42 yX1_lowOf, Cond.instanceMethod yX1_lowOf, Cond.selects RX1 yX1_lowOf yX1_lowOf, Cond.code yX1_lowOf cX1_lowOf 2 (some .long), Cond.fieldLink RX1 26 "SpanRows$Names" "low" "[J", Cond.methodLink RX1 46 yX1_highOf, Cond.instanceMethod yX1_highOf, Cond.selects RX1 yX1_highOf yX1_highOf, Cond.code yX1_highOf cX1_highOf 2 (some .long), Cond.fieldLink RX1 29 "SpanRows$Names" "high" "[J", Cond.methodLink RX1 68 yX1_narrow, Cond.instanceMethod yX1_narrow, Cond.selects RX1 yX1_narrow yX1_narrow, Cond.code yX1_narrow cX1_narrow 11 (some .boolean), Cond.methodLink RX1 59 Lib.MathLoose.max_long.x, Cond.static Lib.MathLoose.max_long.x, Cond.initialized "java/lang/Math"]
def wsX1_shareSpans_r2 : List Cond := [Cond.code Lib.MathLoose.max_long.x Lib.MathLoose.max_long.code 4 (some .long), Cond.methodLink RX1 65 Lib.MathLoose.min_long.x, Cond.static Lib.MathLoose.min_long.x, Cond.code Lib.MathLoose.min_long.x Lib.MathLoose.min_long.code 4 (some .long), Cond.methodLink RX1 49 yX1_isKnown, Cond.instanceMethod yX1_isKnown, Cond.selects RX1 yX1_isKnown yX1_isKnown, Cond.code yX1_isKnown cX1_isKnown 2 (some .boolean), Cond.fieldLink RX1 15 "SpanRows$Names" "known" "[Z", Cond.methodLink RX1 56 yX1_numberOf, Cond.instanceMethod yX1_numberOf, Cond.selects RX1 yX1_numberOf yX1_numberOf, Cond.code yX1_numberOf cX1_numberOf 2 (some .long), Cond.fieldLink RX1 19 "SpanRows$Names" "number" "[J"]
def wsX1_shareSpans : List Cond := .code yX1_shareSpans cX1_shareSpans 3 (some .boolean) :: ((wsX1_shareSpans_r1 ++ wsX1_shareSpans_r2) ++ wsX10)
def wsX1_join : List Cond := .code yX1_join cX1_join 6 none :: ([.fieldLink RX1 9 "SpanRows$Names" "least" "[I", .methodLink RX1 72 Lib.Math.min.name, .static Lib.Math.min.name, .initialized "java/lang/Math", .code Lib.Math.min.name Lib.Math.min.code 2 (some .int), .methodLink RX1 75 Lib.Math.max.name, .static Lib.Math.max.name, .code Lib.Math.max.name Lib.Math.max.code 2 (some .int), .fieldLink RX1 32 "SpanRows$Names" "size" "I"] ++ wsX10)
def wsX1_countOnes : List Cond := .code yX1_countOnes cX1_countOnes 4 (some .int) :: ([.fieldLink RX1 32 "SpanRows$Names" "size" "I", .fieldLink RX1 9 "SpanRows$Names" "least" "[I"] ++ wsX10)
def wsX1_copyFrom : List Cond := .code yX1_copyFrom cX1_copyFrom 3 none :: ([.fieldLink RX1 32 "SpanRows$Names" "size" "I", .fieldLink RX1 9 "SpanRows$Names" "least" "[I", .fieldLink RX1 15 "SpanRows$Names" "known" "[Z", .fieldLink RX1 19 "SpanRows$Names" "number" "[J", .fieldLink RX1 23 "SpanRows$Names" "spanned" "[Z", .fieldLink RX1 26 "SpanRows$Names" "low" "[J", .fieldLink RX1 29 "SpanRows$Names" "high" "[J"] ++ wsX10)
def wsX2_init : List Cond := .code yX2_init cX2_init 1 none :: ([.methodLink RX2 3 objectInit, .instanceMethod objectInit, .code objectInit ⟨#[0xb1]⟩ 1 none, .arrayClass .int, .fieldLink RX2 9 "SpanRows$Row" "places" "[I", .arrayClass .long, .fieldLink RX2 15 "SpanRows$Row" "factors" "[J"] ++ wsX20)
def wsX2_append : List Cond := .code yX2_append cX2_append 4 none :: ([.fieldLink RX2 19 "SpanRows$Row" "length" "I", .fieldLink RX2 9 "SpanRows$Row" "places" "[I", .fieldLink RX2 15 "SpanRows$Row" "factors" "[J"] ++ wsX20)
def wsX2_cutAtFirstGone : List Cond := .code yX2_cutAtFirstGone cX2_cutAtFirstGone 3 none :: ([.fieldLink RX2 19 "SpanRows$Row" "length" "I", .fieldLink RX2 9 "SpanRows$Row" "places" "[I", .methodLink RX2 23 yX1_has, .instanceMethod yX1_has, .selects RX1 yX1_has yX1_has, .initialized RX1, .code yX1_has cX1_has 2 (some .boolean), .fieldLink RX1 32 "SpanRows$Names" "size" "I"] ++ wsX20 ++ wsX10)
def wsX3_init : List Cond := .code yX3_init cX3_init 1 none :: ([.methodLink RX3 3 objectInit, .instanceMethod objectInit, .code objectInit ⟨#[0xb1]⟩ 1 none, .arrayClass .int, .fieldLink RX3 9 "SpanRows$Search" "free" "[I", .arrayClass .long, .fieldLink RX3 15 "SpanRows$Search" "ways" "[J", .fieldLink RX3 19 "SpanRows$Search" "lookAt" "[I"] ++ wsX30)
def wsX3_endWays : List Cond := .code yX3_endWays cX3_endWays 1 none :: ([.fieldLink RX3 22 "SpanRows$Search" "freeCount" "I", .fieldLink RX3 26 "SpanRows$Search" "wayCount" "I"] ++ wsX30)
def wsX3_hasWay : List Cond := .code yX3_hasWay cX3_hasWay 2 (some .boolean) :: ([.fieldLink RX3 26 "SpanRows$Search" "wayCount" "I"] ++ wsX30)
def wsX3_numberIn : List Cond := .code yX3_numberIn cX3_numberIn 3 (some .long) :: ([.fieldLink RX3 15 "SpanRows$Search" "ways" "[J"] ++ wsX30)
def wsX3_isFreeName : List Cond := .code yX3_isFreeName cX3_isFreeName 2 (some .boolean) :: ([.methodLink RX3 29 yX3_levelOf, .instanceMethod yX3_levelOf, .selects RX3 yX3_levelOf yX3_levelOf, .initialized RX3, .code yX3_levelOf cX3_levelOf 3 (some .int), .fieldLink RX3 22 "SpanRows$Search" "freeCount" "I", .fieldLink RX3 9 "SpanRows$Search" "free" "[I"] ++ wsX30)
def wsX3_gatherFree : List Cond := .code yX3_gatherFree cX3_gatherFree 5 none :: ([.fieldLink RX3 55 "SpanRows$Row" "length" "I", .fieldLink RX3 9 "SpanRows$Search" "free" "[I", .fieldLink RX3 22 "SpanRows$Search" "freeCount" "I", .methodLink RX3 63 yX1_leastOf, .instanceMethod yX1_leastOf, .selects RX1 yX1_leastOf yX1_leastOf, .initialized RX1, .code yX1_leastOf cX1_leastOf 2 (some .int), .fieldLink RX1 9 "SpanRows$Names" "least" "[I", .methodLink RX3 68 yX1_isKnown, .instanceMethod yX1_isKnown, .selects RX1 yX1_isKnown yX1_isKnown, .code yX1_isKnown cX1_isKnown 2 (some .boolean), .fieldLink RX1 15 "SpanRows$Names" "known" "[Z", .methodLink RX3 72 yX3_isFreeName, .instanceMethod yX3_isFreeName, .selects RX3 yX3_isFreeName yX3_isFreeName, .initialized RX3, .code yX3_isFreeName cX3_isFreeName 2 (some .boolean), .methodLink RX3 29 yX3_levelOf, .instanceMethod yX3_levelOf, .selects RX3 yX3_levelOf yX3_levelOf, .code yX3_levelOf cX3_levelOf 3 (some .int)] ++ wsX20 ++ wsX30 ++ wsX10)
def wsX3_reasonNotToStart : List Cond := .code yX3_reasonNotToStart cX3_reasonNotToStart 3 (some .int) :: ([.fieldLink RX3 22 "SpanRows$Search" "freeCount" "I", .fieldLink RX3 9 "SpanRows$Search" "free" "[I", .methodLink RX3 75 yX1_hasSpan, .instanceMethod yX1_hasSpan, .selects RX1 yX1_hasSpan yX1_hasSpan, .initialized RX1, .code yX1_hasSpan cX1_hasSpan 2 (some .boolean), .fieldLink RX1 23 "SpanRows$Names" "spanned" "[Z", .fieldLink RX1 9 "SpanRows$Names" "least" "[I"] ++ wsX30 ++ wsX10)
def wsJx4a65c_size_8abf5 : List Cond := .code yJx4a65c_size_8abf5 cJx4a65c_size_8abf5 1 (some .int) :: ([.fieldLink RJx4a65c 48 "java/util/ArrayList" "size" "I"] ++ wsJx4a65c0)
def wsJ3_checkIndex_8e157 : List Cond := .code yJ3_checkIndex_8e157 cJ3_checkIndex_8e157 3 (some .int) :: ([])
def wsJ15_checkIndex_7cf53 : List Cond := .code yJ15_checkIndex_7cf53 cJ15_checkIndex_7cf53 2 (some .int) :: ([.methodLink RJ15 105 yJ3_checkIndex_8e157, .static yJ3_checkIndex_8e157, .initialized RJ3, .code yJ3_checkIndex_8e157 cJ3_checkIndex_8e157 3 (some .int)])
def wsJx4a65c_elementData_915e3 : List Cond := .code yJx4a65c_elementData_915e3 cJx4a65c_elementData_915e3 2 (some (.object "java/lang/Object")) :: ([.fieldLink RJx4a65c 9 "java/util/ArrayList" "elementData" "[Ljava/lang/Object;"] ++ wsJx4a65c0)
def wsJx4a65c_get_915e3 : List Cond := .code yJx4a65c_get_915e3 cJx4a65c_get_915e3 2 (some (.object "java/lang/Object")) :: ([.fieldLink RJx4a65c 48 "java/util/ArrayList" "size" "I", .methodLink RJx4a65c 118 yJ15_checkIndex_7cf53, .static yJ15_checkIndex_7cf53, .initialized RJ15, .code yJ15_checkIndex_7cf53 cJ15_checkIndex_7cf53 2 (some .int), .methodLink RJ15 105 yJ3_checkIndex_8e157, .static yJ3_checkIndex_8e157, .initialized RJ3, .code yJ3_checkIndex_8e157 cJ3_checkIndex_8e157 3 (some .int), .methodLink RJx4a65c 123 yJx4a65c_elementData_915e3, .instanceMethod yJx4a65c_elementData_915e3, .selects RJx4a65c yJx4a65c_elementData_915e3 yJx4a65c_elementData_915e3, .initialized RJx4a65c, .code yJx4a65c_elementData_915e3 cJx4a65c_elementData_915e3 2 (some (.object "java/lang/Object")), .fieldLink RJx4a65c 9 "java/util/ArrayList" "elementData" "[Ljava/lang/Object;"] ++ wsJx4a65c0)
def wsX3_planLooks_r1 : List Cond := [Cond.fieldLink RX3 19 "SpanRows$Search" "lookAt" "[I", Cond.classLink RX3 88 "SpanRows$KeptRow", Cond.methodLink RX3 78 yJx4a65c_size_8abf5, Cond.instanceMethod yJx4a65c_size_8abf5, Cond.selects RJx4a65c yJx4a65c_size_8abf5 yJx4a65c_size_8abf5, Cond.initialized RJx4a65c, Cond.code yJx4a65c_size_8abf5 cJx4a65c_size_8abf5 1 (some .int), Cond.fieldLink RJx4a65c 48 "java/util/ArrayList" "size" "I", Cond.methodLink RX3 84 yJx4a65c_get_915e3, Cond.instanceMethod yJx4a65c_get_915e3, Cond.selects RJx4a65c yJx4a65c_get_915e3 yJx4a65c_get_915e3, Cond.code yJx4a65c_get_915e3 cJx4a65c_get_915e3 2 (some (.object "java/lang/Object")), Cond.methodLink RJx4a65c 118 yJ15_checkIndex_7cf53, Cond.static yJ15_checkIndex_7cf53, Cond.initialized RJ15, Cond.code yJ15_checkIndex_7cf53 cJ15_checkIndex_7cf53 2 (some .int), Cond.methodLink RJ15 105 yJ3_checkIndex_8e157, Cond.static yJ3_checkIndex_8e157, Cond.initialized RJ3, Cond.code yJ3_checkIndex_8e157 cJ3_checkIndex_8e157 3 (some .int), Cond.methodLink RJx4a65c 123 yJx4a65c_elementData_915e3, Cond.instanceMethod yJx4a65c_elementData_915e3, Cond.selects RJx4a65c yJx4a65c_elementData_915e3 yJx4a65c_elementData_915e3, Cond.code yJx4a65c_elementData_915e3 cJx4a65c_elementData_915e3 2 (some (.object "java/lang/Object"))]
def wsX3_planLooks_r2 : List Cond := [Cond.fieldLink RJx4a65c 9 "java/util/ArrayList" "elementData" "[Ljava/lang/Object;", Cond.methodLink RX3 90 yX0_levelOfLast, Cond.instanceMethod yX0_levelOfLast, Cond.selects RX0 yX0_levelOfLast yX0_levelOfLast, Cond.initialized RX0, Cond.code yX0_levelOfLast cX0_levelOfLast 6 (some .int), Cond.fieldLink RX0 34 "SpanRows$KeptRow" "places" "[I", Cond.methodLink RX0 70 Lib.Math.max.name, Cond.static Lib.Math.max.name, Cond.initialized "java/lang/Math", Cond.code Lib.Math.max.name Lib.Math.max.code 2 (some .int), Cond.methodLink RX0 43 yX1_isKnown, Cond.instanceMethod yX1_isKnown, Cond.selects RX1 yX1_isKnown yX1_isKnown, Cond.initialized RX1, Cond.code yX1_isKnown cX1_isKnown 2 (some .boolean), Cond.fieldLink RX1 15 "SpanRows$Names" "known" "[Z", Cond.fieldLink RX1 9 "SpanRows$Names" "least" "[I", Cond.methodLink RX0 49 yX1_leastOf, Cond.instanceMethod yX1_leastOf, Cond.selects RX1 yX1_leastOf yX1_leastOf, Cond.code yX1_leastOf cX1_leastOf 2 (some .int), Cond.methodLink RX0 65 yX3_levelOf, Cond.instanceMethod yX3_levelOf]
def wsX3_planLooks_r3 : List Cond := [Cond.selects RX3 yX3_levelOf yX3_levelOf, Cond.initialized RX3, Cond.code yX3_levelOf cX3_levelOf 3 (some .int), Cond.fieldLink RX3 22 "SpanRows$Search" "freeCount" "I", Cond.fieldLink RX3 9 "SpanRows$Search" "free" "[I"]
def wsX3_planLooks : List Cond := .code yX3_planLooks cX3_planLooks 4 none :: ((wsX3_planLooks_r1 ++ (wsX3_planLooks_r2 ++ wsX3_planLooks_r3)) ++ wsX30 ++ wsJx4a65c0 ++ wsX00 ++ wsX10)
def wsX3_addWay : List Cond := .code yX3_addWay cX3_addWay 3 (some .int) :: ([.fieldLink RX3 26 "SpanRows$Search" "wayCount" "I", .fieldLink RX3 22 "SpanRows$Search" "freeCount" "I", .fieldLink RX3 15 "SpanRows$Search" "ways" "[J", .fieldLink RX3 9 "SpanRows$Search" "free" "[I", .methodLink RX3 120 yX1_numberOf, .instanceMethod yX1_numberOf, .selects RX1 yX1_numberOf yX1_numberOf, .initialized RX1, .code yX1_numberOf cX1_numberOf 2 (some .long), .fieldLink RX1 19 "SpanRows$Names" "number" "[J", .fieldLink RX1 9 "SpanRows$Names" "least" "[I"] ++ wsX30 ++ wsX10)
def wsX3_isGood_r1 : List Cond := [Cond.fieldLink RX3 19 "SpanRows$Search" "lookAt" "[I", Cond.classLink RX3 88 "SpanRows$KeptRow", Cond.methodLink RX3 78 yJx4a65c_size_8abf5, Cond.instanceMethod yJx4a65c_size_8abf5, Cond.selects RJx4a65c yJx4a65c_size_8abf5 yJx4a65c_size_8abf5, Cond.initialized RJx4a65c, Cond.code yJx4a65c_size_8abf5 cJx4a65c_size_8abf5 1 (some .int), Cond.fieldLink RJx4a65c 48 "java/util/ArrayList" "size" "I", Cond.methodLink RX3 84 yJx4a65c_get_915e3, Cond.instanceMethod yJx4a65c_get_915e3, Cond.selects RJx4a65c yJx4a65c_get_915e3 yJx4a65c_get_915e3, Cond.code yJx4a65c_get_915e3 cJx4a65c_get_915e3 2 (some (.object "java/lang/Object")), Cond.methodLink RJx4a65c 118 yJ15_checkIndex_7cf53, Cond.static yJ15_checkIndex_7cf53, Cond.initialized RJ15, Cond.code yJ15_checkIndex_7cf53 cJ15_checkIndex_7cf53 2 (some .int), Cond.methodLink RJ15 105 yJ3_checkIndex_8e157, Cond.static yJ3_checkIndex_8e157, Cond.initialized RJ3, Cond.code yJ3_checkIndex_8e157 cJ3_checkIndex_8e157 3 (some .int), Cond.methodLink RJx4a65c 123 yJx4a65c_elementData_915e3, Cond.instanceMethod yJx4a65c_elementData_915e3, Cond.selects RJx4a65c yJx4a65c_elementData_915e3 yJx4a65c_elementData_915e3, Cond.code yJx4a65c_elementData_915e3 cJx4a65c_elementData_915e3 2 (some (.object "java/lang/Object"))]
def wsX3_isGood_r2 : List Cond := [Cond.fieldLink RJx4a65c 9 "java/util/ArrayList" "elementData" "[Ljava/lang/Object;", Cond.methodLink RX3 116 yX0_isSo, Cond.instanceMethod yX0_isSo, Cond.selects RX0 yX0_isSo yX0_isSo, Cond.initialized RX0, Cond.code yX0_isSo cX0_isSo 2 (some .boolean), Cond.fieldLink RX0 9 "SpanRows$KeptRow" "kind" "I", Cond.fieldLink RX0 15 "SpanRows$KeptRow" "k" "J", Cond.methodLink RX0 53 yX0_sum, Cond.instanceMethod yX0_sum, Cond.selects RX0 yX0_sum yX0_sum, Cond.code yX0_sum cX0_sum 5 (some .long), Cond.fieldLink RX0 34 "SpanRows$KeptRow" "places" "[I", Cond.fieldLink RX0 42 "SpanRows$KeptRow" "factors" "[J", Cond.methodLink RX0 61 yX1_numberOf, Cond.instanceMethod yX1_numberOf, Cond.selects RX1 yX1_numberOf yX1_numberOf, Cond.initialized RX1, Cond.code yX1_numberOf cX1_numberOf 2 (some .long), Cond.fieldLink RX1 19 "SpanRows$Names" "number" "[J", Cond.fieldLink RX1 9 "SpanRows$Names" "least" "[I", Cond.methodLink RX0 57 yX0_allUnlike, Cond.instanceMethod yX0_allUnlike, Cond.selects RX0 yX0_allUnlike yX0_allUnlike]
def wsX3_isGood_r3 : List Cond := [Cond.code yX0_allUnlike cX0_allUnlike 6 (some .boolean)]
def wsX3_isGood : List Cond := .code yX3_isGood cX3_isGood 5 (some .boolean) :: ((wsX3_isGood_r1 ++ (wsX3_isGood_r2 ++ wsX3_isGood_r3)) ++ wsX30 ++ wsJx4a65c0 ++ wsX00 ++ wsX10)
def wsX3_tryLevel_r1 : List Cond := [Cond.fieldLink RX3 22 "SpanRows$Search" "freeCount" "I", Cond.fieldLink RX3 9 "SpanRows$Search" "free" "[I", Cond.fieldLink RX3 36 "SpanRows$Search" "tried" "I", Cond.methodLink RX3 94 yX3_addWay, Cond.instanceMethod yX3_addWay, Cond.selects RX3 yX3_addWay yX3_addWay, Cond.initialized RX3, Cond.code yX3_addWay cX3_addWay 3 (some .int), Cond.fieldLink RX3 26 "SpanRows$Search" "wayCount" "I", Cond.fieldLink RX3 15 "SpanRows$Search" "ways" "[J", Cond.methodLink RX3 120 yX1_numberOf, Cond.instanceMethod yX1_numberOf, Cond.selects RX1 yX1_numberOf yX1_numberOf, Cond.initialized RX1, Cond.code yX1_numberOf cX1_numberOf 2 (some .long), Cond.fieldLink RX1 19 "SpanRows$Names" "number" "[J", Cond.fieldLink RX1 9 "SpanRows$Names" "least" "[I", Cond.methodLink RX3 97 yX1_lowOf, Cond.instanceMethod yX1_lowOf, Cond.selects RX1 yX1_lowOf yX1_lowOf, Cond.code yX1_lowOf cX1_lowOf 2 (some .long), Cond.fieldLink RX1 26 "SpanRows$Names" "low" "[J", Cond.methodLink RX3 101 yX1_highOf, Cond.instanceMethod yX1_highOf]
def wsX3_tryLevel_r2 : List Cond := [Cond.selects RX1 yX1_highOf yX1_highOf, Cond.code yX1_highOf cX1_highOf 2 (some .long), Cond.fieldLink RX1 29 "SpanRows$Names" "high" "[J", Cond.methodLink RX3 104 yX1_setNumber, Cond.instanceMethod yX1_setNumber, Cond.selects RX1 yX1_setNumber yX1_setNumber, Cond.code yX1_setNumber cX1_setNumber 4 none, Cond.fieldLink RX1 15 "SpanRows$Names" "known" "[Z", Cond.methodLink RX3 108 yX3_isGood, Cond.instanceMethod yX3_isGood, Cond.selects RX3 yX3_isGood yX3_isGood, Cond.code yX3_isGood cX3_isGood 5 (some .boolean), Cond.fieldLink RX3 19 "SpanRows$Search" "lookAt" "[I", Cond.classLink RX3 88 "SpanRows$KeptRow", Cond.methodLink RX3 78 yJx4a65c_size_8abf5, Cond.instanceMethod yJx4a65c_size_8abf5, Cond.selects RJx4a65c yJx4a65c_size_8abf5 yJx4a65c_size_8abf5, Cond.initialized RJx4a65c, Cond.code yJx4a65c_size_8abf5 cJx4a65c_size_8abf5 1 (some .int), Cond.fieldLink RJx4a65c 48 "java/util/ArrayList" "size" "I", Cond.methodLink RX3 84 yJx4a65c_get_915e3, Cond.instanceMethod yJx4a65c_get_915e3, Cond.selects RJx4a65c yJx4a65c_get_915e3 yJx4a65c_get_915e3, Cond.code yJx4a65c_get_915e3 cJx4a65c_get_915e3 2 (some (.object "java/lang/Object"))]
def wsX3_tryLevel_r3 : List Cond := [Cond.methodLink RJx4a65c 118 yJ15_checkIndex_7cf53, Cond.static yJ15_checkIndex_7cf53, Cond.initialized RJ15, Cond.code yJ15_checkIndex_7cf53 cJ15_checkIndex_7cf53 2 (some .int), Cond.methodLink RJ15 105 yJ3_checkIndex_8e157, Cond.static yJ3_checkIndex_8e157, Cond.initialized RJ3, Cond.code yJ3_checkIndex_8e157 cJ3_checkIndex_8e157 3 (some .int), Cond.methodLink RJx4a65c 123 yJx4a65c_elementData_915e3, Cond.instanceMethod yJx4a65c_elementData_915e3, Cond.selects RJx4a65c yJx4a65c_elementData_915e3 yJx4a65c_elementData_915e3, Cond.code yJx4a65c_elementData_915e3 cJx4a65c_elementData_915e3 2 (some (.object "java/lang/Object")), Cond.fieldLink RJx4a65c 9 "java/util/ArrayList" "elementData" "[Ljava/lang/Object;", Cond.methodLink RX3 116 yX0_isSo, Cond.instanceMethod yX0_isSo, Cond.selects RX0 yX0_isSo yX0_isSo, Cond.initialized RX0, Cond.code yX0_isSo cX0_isSo 2 (some .boolean), Cond.fieldLink RX0 9 "SpanRows$KeptRow" "kind" "I", Cond.fieldLink RX0 15 "SpanRows$KeptRow" "k" "J", Cond.methodLink RX0 53 yX0_sum, Cond.instanceMethod yX0_sum, Cond.selects RX0 yX0_sum yX0_sum, Cond.code yX0_sum cX0_sum 5 (some .long)]
def wsX3_tryLevel_r4 : List Cond := [Cond.fieldLink RX0 34 "SpanRows$KeptRow" "places" "[I", Cond.fieldLink RX0 42 "SpanRows$KeptRow" "factors" "[J", Cond.methodLink RX0 61 yX1_numberOf, Cond.methodLink RX0 57 yX0_allUnlike, Cond.instanceMethod yX0_allUnlike, Cond.selects RX0 yX0_allUnlike yX0_allUnlike, Cond.code yX0_allUnlike cX0_allUnlike 6 (some .boolean), Cond.methodLink RX3 51 yX3_tryLevel, Cond.instanceMethod yX3_tryLevel, Cond.selects RX3 yX3_tryLevel yX3_tryLevel, Cond.methodLink RX3 112 yX1_unsetNumber, Cond.instanceMethod yX1_unsetNumber, Cond.selects RX1 yX1_unsetNumber yX1_unsetNumber, Cond.code yX1_unsetNumber cX1_unsetNumber 2 none]
def wsX3_tryLevel : List Cond := .code yX3_tryLevel cX3_tryLevel 11 (some .int) :: ((wsX3_tryLevel_r1 ++ (wsX3_tryLevel_r2 ++ (wsX3_tryLevel_r3 ++ wsX3_tryLevel_r4))) ++ wsX30 ++ wsX10 ++ wsJx4a65c0 ++ wsX00)
def wsX3_run_r1 : List Cond := [Cond.fieldLink RX3 36 "SpanRows$Search" "tried" "I", Cond.fieldLink RX3 26 "SpanRows$Search" "wayCount" "I", Cond.methodLink RX3 33 yX3_endWays, Cond.instanceMethod yX3_endWays, Cond.selects RX3 yX3_endWays yX3_endWays, Cond.initialized RX3, Cond.code yX3_endWays cX3_endWays 1 none, Cond.fieldLink RX3 22 "SpanRows$Search" "freeCount" "I", Cond.methodLink RX3 39 yX3_gatherFree, Cond.instanceMethod yX3_gatherFree, Cond.selects RX3 yX3_gatherFree yX3_gatherFree, Cond.code yX3_gatherFree cX3_gatherFree 5 none, Cond.fieldLink RX3 55 "SpanRows$Row" "length" "I", Cond.fieldLink RX3 9 "SpanRows$Search" "free" "[I", Cond.methodLink RX3 63 yX1_leastOf, Cond.instanceMethod yX1_leastOf, Cond.selects RX1 yX1_leastOf yX1_leastOf, Cond.initialized RX1, Cond.code yX1_leastOf cX1_leastOf 2 (some .int), Cond.fieldLink RX1 9 "SpanRows$Names" "least" "[I", Cond.methodLink RX3 68 yX1_isKnown, Cond.instanceMethod yX1_isKnown, Cond.selects RX1 yX1_isKnown yX1_isKnown, Cond.code yX1_isKnown cX1_isKnown 2 (some .boolean)]
def wsX3_run_r2 : List Cond := [Cond.fieldLink RX1 15 "SpanRows$Names" "known" "[Z", Cond.methodLink RX3 72 yX3_isFreeName, Cond.instanceMethod yX3_isFreeName, Cond.selects RX3 yX3_isFreeName yX3_isFreeName, Cond.code yX3_isFreeName cX3_isFreeName 2 (some .boolean), Cond.methodLink RX3 29 yX3_levelOf, Cond.instanceMethod yX3_levelOf, Cond.selects RX3 yX3_levelOf yX3_levelOf, Cond.code yX3_levelOf cX3_levelOf 3 (some .int), Cond.methodLink RX3 43 yX3_reasonNotToStart, Cond.instanceMethod yX3_reasonNotToStart, Cond.selects RX3 yX3_reasonNotToStart yX3_reasonNotToStart, Cond.code yX3_reasonNotToStart cX3_reasonNotToStart 3 (some .int), Cond.methodLink RX3 75 yX1_hasSpan, Cond.instanceMethod yX1_hasSpan, Cond.selects RX1 yX1_hasSpan yX1_hasSpan, Cond.code yX1_hasSpan cX1_hasSpan 2 (some .boolean), Cond.fieldLink RX1 23 "SpanRows$Names" "spanned" "[Z", Cond.methodLink RX3 47 yX3_planLooks, Cond.instanceMethod yX3_planLooks, Cond.selects RX3 yX3_planLooks yX3_planLooks, Cond.code yX3_planLooks cX3_planLooks 4 none, Cond.fieldLink RX3 19 "SpanRows$Search" "lookAt" "[I", Cond.classLink RX3 88 "SpanRows$KeptRow"]
def wsX3_run_r3 : List Cond := [Cond.methodLink RX3 78 yJx4a65c_size_8abf5, Cond.instanceMethod yJx4a65c_size_8abf5, Cond.selects RJx4a65c yJx4a65c_size_8abf5 yJx4a65c_size_8abf5, Cond.initialized RJx4a65c, Cond.code yJx4a65c_size_8abf5 cJx4a65c_size_8abf5 1 (some .int), Cond.fieldLink RJx4a65c 48 "java/util/ArrayList" "size" "I", Cond.methodLink RX3 84 yJx4a65c_get_915e3, Cond.instanceMethod yJx4a65c_get_915e3, Cond.selects RJx4a65c yJx4a65c_get_915e3 yJx4a65c_get_915e3, Cond.code yJx4a65c_get_915e3 cJx4a65c_get_915e3 2 (some (.object "java/lang/Object")), Cond.methodLink RJx4a65c 118 yJ15_checkIndex_7cf53, Cond.static yJ15_checkIndex_7cf53, Cond.initialized RJ15, Cond.code yJ15_checkIndex_7cf53 cJ15_checkIndex_7cf53 2 (some .int), Cond.methodLink RJ15 105 yJ3_checkIndex_8e157, Cond.static yJ3_checkIndex_8e157, Cond.initialized RJ3, Cond.code yJ3_checkIndex_8e157 cJ3_checkIndex_8e157 3 (some .int), Cond.methodLink RJx4a65c 123 yJx4a65c_elementData_915e3, Cond.instanceMethod yJx4a65c_elementData_915e3, Cond.selects RJx4a65c yJx4a65c_elementData_915e3 yJx4a65c_elementData_915e3, Cond.code yJx4a65c_elementData_915e3 cJx4a65c_elementData_915e3 2 (some (.object "java/lang/Object")), Cond.fieldLink RJx4a65c 9 "java/util/ArrayList" "elementData" "[Ljava/lang/Object;", Cond.methodLink RX3 90 yX0_levelOfLast]
def wsX3_run_r4 : List Cond := [Cond.instanceMethod yX0_levelOfLast, Cond.selects RX0 yX0_levelOfLast yX0_levelOfLast, Cond.initialized RX0, Cond.code yX0_levelOfLast cX0_levelOfLast 6 (some .int), Cond.fieldLink RX0 34 "SpanRows$KeptRow" "places" "[I", Cond.methodLink RX0 70 Lib.Math.max.name, Cond.static Lib.Math.max.name, Cond.initialized "java/lang/Math", Cond.code Lib.Math.max.name Lib.Math.max.code 2 (some .int), Cond.methodLink RX0 43 yX1_isKnown, Cond.methodLink RX0 49 yX1_leastOf, Cond.methodLink RX0 65 yX3_levelOf, Cond.methodLink RX3 51 yX3_tryLevel, Cond.instanceMethod yX3_tryLevel, Cond.selects RX3 yX3_tryLevel yX3_tryLevel, Cond.code yX3_tryLevel cX3_tryLevel 11 (some .int), Cond.methodLink RX3 94 yX3_addWay, Cond.instanceMethod yX3_addWay, Cond.selects RX3 yX3_addWay yX3_addWay, Cond.code yX3_addWay cX3_addWay 3 (some .int), Cond.fieldLink RX3 15 "SpanRows$Search" "ways" "[J", Cond.methodLink RX3 120 yX1_numberOf, Cond.instanceMethod yX1_numberOf, Cond.selects RX1 yX1_numberOf yX1_numberOf]
def wsX3_run_r5 : List Cond := [Cond.code yX1_numberOf cX1_numberOf 2 (some .long), Cond.fieldLink RX1 19 "SpanRows$Names" "number" "[J", Cond.methodLink RX3 97 yX1_lowOf, Cond.instanceMethod yX1_lowOf, Cond.selects RX1 yX1_lowOf yX1_lowOf, Cond.code yX1_lowOf cX1_lowOf 2 (some .long), Cond.fieldLink RX1 26 "SpanRows$Names" "low" "[J", Cond.methodLink RX3 101 yX1_highOf, Cond.instanceMethod yX1_highOf, Cond.selects RX1 yX1_highOf yX1_highOf, Cond.code yX1_highOf cX1_highOf 2 (some .long), Cond.fieldLink RX1 29 "SpanRows$Names" "high" "[J", Cond.methodLink RX3 104 yX1_setNumber, Cond.instanceMethod yX1_setNumber, Cond.selects RX1 yX1_setNumber yX1_setNumber, Cond.code yX1_setNumber cX1_setNumber 4 none, Cond.methodLink RX3 108 yX3_isGood, Cond.instanceMethod yX3_isGood, Cond.selects RX3 yX3_isGood yX3_isGood, Cond.code yX3_isGood cX3_isGood 5 (some .boolean), Cond.methodLink RX3 116 yX0_isSo, Cond.instanceMethod yX0_isSo, Cond.selects RX0 yX0_isSo yX0_isSo, Cond.code yX0_isSo cX0_isSo 2 (some .boolean)]
def wsX3_run_r6 : List Cond := [Cond.fieldLink RX0 9 "SpanRows$KeptRow" "kind" "I", Cond.fieldLink RX0 15 "SpanRows$KeptRow" "k" "J", Cond.methodLink RX0 53 yX0_sum, Cond.instanceMethod yX0_sum, Cond.selects RX0 yX0_sum yX0_sum, Cond.code yX0_sum cX0_sum 5 (some .long), Cond.fieldLink RX0 42 "SpanRows$KeptRow" "factors" "[J", Cond.methodLink RX0 61 yX1_numberOf, Cond.methodLink RX0 57 yX0_allUnlike, Cond.instanceMethod yX0_allUnlike, Cond.selects RX0 yX0_allUnlike yX0_allUnlike, Cond.code yX0_allUnlike cX0_allUnlike 6 (some .boolean), Cond.methodLink RX3 112 yX1_unsetNumber, Cond.instanceMethod yX1_unsetNumber, Cond.selects RX1 yX1_unsetNumber yX1_unsetNumber, Cond.code yX1_unsetNumber cX1_unsetNumber 2 none]
def wsX3_run : List Cond := .code yX3_run cX3_run 5 (some .int) :: ((wsX3_run_r1 ++ (wsX3_run_r2 ++ (wsX3_run_r3 ++ (wsX3_run_r4 ++ (wsX3_run_r5 ++ wsX3_run_r6))))) ++ wsX30 ++ wsX20 ++ wsX10 ++ wsJx4a65c0 ++ wsX00)
def wsJxa1e45_init_da8c8 : List Cond := .code yJxa1e45_init_da8c8 cJxa1e45_init_da8c8 1 none :: ([.methodLink RJxa1e45 1 objectInit, .instanceMethod objectInit, .code objectInit ⟨#[0xb1]⟩ 1 none])
def wsJxc12de_init_da8c8 : List Cond := .code yJxc12de_init_da8c8 cJxc12de_init_da8c8 1 none :: ([.fieldLink RJxc12de 7 "java/util/AbstractList" "modCount" "I", .methodLink RJxc12de 1 yJxa1e45_init_da8c8, .instanceMethod yJxa1e45_init_da8c8, .initialized RJxa1e45, .code yJxa1e45_init_da8c8 cJxa1e45_init_da8c8 1 none, .methodLink RJxa1e45 1 objectInit, .instanceMethod objectInit, .code objectInit ⟨#[0xb1]⟩ 1 none] ++ wsJx4a65c0)
def wsJx4a65c_init_da8c8 : List Cond := .code yJx4a65c_init_da8c8 cJx4a65c_init_da8c8 1 none :: ([.fieldLink RJx4a65c 39 "java/util/ArrayList" "DEFAULTCAPACITY_EMPTY_ELEMENTDATA" "[Ljava/lang/Object;", .fieldLink RJx4a65c 9 "java/util/ArrayList" "elementData" "[Ljava/lang/Object;", .methodLink RJx4a65c 1 yJxc12de_init_da8c8, .instanceMethod yJxc12de_init_da8c8, .initialized RJxc12de, .code yJxc12de_init_da8c8 cJxc12de_init_da8c8 1 none, .fieldLink RJxc12de 7 "java/util/AbstractList" "modCount" "I", .methodLink RJxc12de 1 yJxa1e45_init_da8c8, .instanceMethod yJxa1e45_init_da8c8, .initialized RJxa1e45, .code yJxa1e45_init_da8c8 cJxa1e45_init_da8c8 1 none, .methodLink RJxa1e45 1 objectInit, .instanceMethod objectInit, .code objectInit ⟨#[0xb1]⟩ 1 none] ++ wsJx4a65c0)
def wsX4_init_r1 : List Cond := [Cond.methodLink RX4 1 objectInit, Cond.instanceMethod objectInit, Cond.code objectInit ⟨#[0xb1]⟩ 1 none, Cond.classLink RX4 7 RX1, Cond.instantiable RX1 7, Cond.initialized RX1, Cond.fieldLink RX4 10 "SpanRows" "names" "LSpanRows$Names;", Cond.classLink RX4 16 RX2, Cond.instantiable RX2 3, Cond.initialized RX2, Cond.fieldLink RX4 19 "SpanRows" "row" "LSpanRows$Row;", Cond.classLink RX4 23 RJx4a65c, Cond.instantiable RJx4a65c 3, Cond.initialized RJx4a65c, Cond.fieldLink RX4 26 "SpanRows" "keptRows" "Ljava/util/ArrayList;", Cond.classLink RX4 30 RX3, Cond.instantiable RX3 6, Cond.initialized RX3, Cond.fieldLink RX4 33 "SpanRows" "search" "LSpanRows$Search;", Cond.fieldLink RX4 37 "SpanRows" "savedNames" "Ljava/util/ArrayList;", Cond.arrayClass .int, Cond.fieldLink RX4 40 "SpanRows" "savedKept" "[I", Cond.fieldLink RX4 44 "SpanRows" "markCount" "I", Cond.instanceMethod yX1_init]
def wsX4_init_r2 : List Cond := [Cond.code yX1_init cX1_init 1 none, Cond.methodLink RX1 3 objectInit, Cond.fieldLink RX1 9 "SpanRows$Names" "least" "[I", Cond.arrayClass .boolean, Cond.fieldLink RX1 15 "SpanRows$Names" "known" "[Z", Cond.arrayClass .long, Cond.fieldLink RX1 19 "SpanRows$Names" "number" "[J", Cond.fieldLink RX1 23 "SpanRows$Names" "spanned" "[Z", Cond.fieldLink RX1 26 "SpanRows$Names" "low" "[J", Cond.fieldLink RX1 29 "SpanRows$Names" "high" "[J", Cond.instanceMethod yX2_init, Cond.code yX2_init cX2_init 1 none, Cond.methodLink RX2 3 objectInit, Cond.fieldLink RX2 9 "SpanRows$Row" "places" "[I", Cond.fieldLink RX2 15 "SpanRows$Row" "factors" "[J", Cond.methodLink RX4 25 yJx4a65c_init_da8c8, Cond.instanceMethod yJx4a65c_init_da8c8, Cond.code yJx4a65c_init_da8c8 cJx4a65c_init_da8c8 1 none, Cond.fieldLink RJx4a65c 39 "java/util/ArrayList" "DEFAULTCAPACITY_EMPTY_ELEMENTDATA" "[Ljava/lang/Object;", Cond.fieldLink RJx4a65c 9 "java/util/ArrayList" "elementData" "[Ljava/lang/Object;", Cond.methodLink RJx4a65c 1 yJxc12de_init_da8c8, Cond.instanceMethod yJxc12de_init_da8c8, Cond.initialized RJxc12de, Cond.code yJxc12de_init_da8c8 cJxc12de_init_da8c8 1 none]
def wsX4_init_r3 : List Cond := [Cond.fieldLink RJxc12de 7 "java/util/AbstractList" "modCount" "I", Cond.methodLink RJxc12de 1 yJxa1e45_init_da8c8, Cond.instanceMethod yJxa1e45_init_da8c8, Cond.initialized RJxa1e45, Cond.code yJxa1e45_init_da8c8 cJxa1e45_init_da8c8 1 none, Cond.methodLink RJxa1e45 1 objectInit, Cond.instanceMethod yX3_init, Cond.code yX3_init cX3_init 1 none, Cond.methodLink RX3 3 objectInit, Cond.fieldLink RX3 9 "SpanRows$Search" "free" "[I", Cond.fieldLink RX3 15 "SpanRows$Search" "ways" "[J", Cond.fieldLink RX3 19 "SpanRows$Search" "lookAt" "[I"]
def wsX4_init : List Cond := .code yX4_init cX4_init 1 none :: ((wsX4_init_r1 ++ (wsX4_init_r2 ++ wsX4_init_r3)) ++ wsX10 ++ wsX40 ++ wsX20 ++ wsJx4a65c0 ++ wsX30)
def wsX4_name : List Cond := .code yX4_name cX4_name 1 (some .int) :: ([.fieldLink RX4 10 "SpanRows" "names" "LSpanRows$Names;", .fieldLink RX4 48 "SpanRows$Names" "size" "I", .fieldLink RX4 33 "SpanRows" "search" "LSpanRows$Search;", .methodLink RX4 51 yX3_endWays, .instanceMethod yX3_endWays, .selects RX3 yX3_endWays yX3_endWays, .initialized RX3, .code yX3_endWays cX3_endWays 1 none, .fieldLink RX3 22 "SpanRows$Search" "freeCount" "I", .fieldLink RX3 26 "SpanRows$Search" "wayCount" "I", .methodLink RX4 54 yX1_addFree, .instanceMethod yX1_addFree, .selects RX1 yX1_addFree yX1_addFree, .initialized RX1, .code yX1_addFree cX1_addFree 2 (some .int), .fieldLink RX1 32 "SpanRows$Names" "size" "I", .fieldLink RX1 9 "SpanRows$Names" "least" "[I", .fieldLink RX1 15 "SpanRows$Names" "known" "[Z", .fieldLink RX1 19 "SpanRows$Names" "number" "[J", .fieldLink RX1 23 "SpanRows$Names" "spanned" "[Z", .fieldLink RX1 26 "SpanRows$Names" "low" "[J", .constantLong RX1 38 (-9223372036854775808), .fieldLink RX1 29 "SpanRows$Names" "high" "[J", .constantLong RX1 40 (9223372036854775807)] ++ wsX40 ++ wsX10 ++ wsX30)
def wsX4_span_r1 : List Cond := [Cond.fieldLink RX4 10 "SpanRows" "names" "LSpanRows$Names;", Cond.fieldLink RX4 33 "SpanRows" "search" "LSpanRows$Search;", Cond.methodLink RX4 58 yX1_has, Cond.instanceMethod yX1_has, Cond.selects RX1 yX1_has yX1_has, Cond.initialized RX1, Cond.code yX1_has cX1_has 2 (some .boolean), Cond.fieldLink RX1 32 "SpanRows$Names" "size" "I", Cond.methodLink RX4 62 yX1_narrow, Cond.instanceMethod yX1_narrow, Cond.selects RX1 yX1_narrow yX1_narrow, Cond.code yX1_narrow cX1_narrow 11 (some .boolean), Cond.methodLink RX1 59 Lib.MathLoose.max_long.x, Cond.static Lib.MathLoose.max_long.x, Cond.initialized "java/lang/Math", Cond.code Lib.MathLoose.max_long.x Lib.MathLoose.max_long.code 4 (some .long), Cond.methodLink RX1 65 Lib.MathLoose.min_long.x, Cond.static Lib.MathLoose.min_long.x, Cond.code Lib.MathLoose.min_long.x Lib.MathLoose.min_long.code 4 (some .long), Cond.fieldLink RX1 9 "SpanRows$Names" "least" "[I", Cond.fieldLink RX1 23 "SpanRows$Names" "spanned" "[Z", Cond.fieldLink RX1 26 "SpanRows$Names" "low" "[J", Cond.fieldLink RX1 29 "SpanRows$Names" "high" "[J", Cond.methodLink RX1 49 yX1_isKnown]
def wsX4_span_r2 : List Cond := [Cond.instanceMethod yX1_isKnown, Cond.selects RX1 yX1_isKnown yX1_isKnown, Cond.code yX1_isKnown cX1_isKnown 2 (some .boolean), Cond.fieldLink RX1 15 "SpanRows$Names" "known" "[Z", Cond.methodLink RX1 56 yX1_numberOf, Cond.instanceMethod yX1_numberOf, Cond.selects RX1 yX1_numberOf yX1_numberOf, Cond.code yX1_numberOf cX1_numberOf 2 (some .long), Cond.fieldLink RX1 19 "SpanRows$Names" "number" "[J", Cond.methodLink RX1 42 yX1_lowOf, Cond.instanceMethod yX1_lowOf, Cond.selects RX1 yX1_lowOf yX1_lowOf, Cond.code yX1_lowOf cX1_lowOf 2 (some .long), Cond.methodLink RX1 46 yX1_highOf, Cond.instanceMethod yX1_highOf, Cond.selects RX1 yX1_highOf yX1_highOf, Cond.code yX1_highOf cX1_highOf 2 (some .long), Cond.methodLink RX4 51 yX3_endWays, Cond.instanceMethod yX3_endWays, Cond.selects RX3 yX3_endWays yX3_endWays, Cond.initialized RX3, Cond.code yX3_endWays cX3_endWays 1 none, Cond.fieldLink RX3 22 "SpanRows$Search" "freeCount" "I", Cond.fieldLink RX3 26 "SpanRows$Search" "wayCount" "I"]
def wsX4_span : List Cond := .code yX4_span cX4_span 6 (some .boolean) :: ((wsX4_span_r1 ++ wsX4_span_r2) ++ wsX40 ++ wsX10 ++ wsX30)
def wsX4_allCompleteAreSo_r1 : List Cond := [Cond.fieldLink RX4 26 "SpanRows" "keptRows" "Ljava/util/ArrayList;", Cond.classLink RX4 158 "SpanRows$KeptRow", Cond.fieldLink RX4 10 "SpanRows" "names" "LSpanRows$Names;", Cond.methodLink RX4 109 yJx4a65c_size_8abf5, Cond.instanceMethod yJx4a65c_size_8abf5, Cond.selects RJx4a65c yJx4a65c_size_8abf5 yJx4a65c_size_8abf5, Cond.initialized RJx4a65c, Cond.code yJx4a65c_size_8abf5 cJx4a65c_size_8abf5 1 (some .int), Cond.fieldLink RJx4a65c 48 "java/util/ArrayList" "size" "I", Cond.methodLink RX4 115 yJx4a65c_get_915e3, Cond.instanceMethod yJx4a65c_get_915e3, Cond.selects RJx4a65c yJx4a65c_get_915e3 yJx4a65c_get_915e3, Cond.code yJx4a65c_get_915e3 cJx4a65c_get_915e3 2 (some (.object "java/lang/Object")), Cond.methodLink RJx4a65c 118 yJ15_checkIndex_7cf53, Cond.static yJ15_checkIndex_7cf53, Cond.initialized RJ15, Cond.code yJ15_checkIndex_7cf53 cJ15_checkIndex_7cf53 2 (some .int), Cond.methodLink RJ15 105 yJ3_checkIndex_8e157, Cond.static yJ3_checkIndex_8e157, Cond.initialized RJ3, Cond.code yJ3_checkIndex_8e157 cJ3_checkIndex_8e157 3 (some .int), Cond.methodLink RJx4a65c 123 yJx4a65c_elementData_915e3, Cond.instanceMethod yJx4a65c_elementData_915e3, Cond.selects RJx4a65c yJx4a65c_elementData_915e3 yJx4a65c_elementData_915e3]
def wsX4_allCompleteAreSo_r2 : List Cond := [Cond.code yJx4a65c_elementData_915e3 cJx4a65c_elementData_915e3 2 (some (.object "java/lang/Object")), Cond.fieldLink RJx4a65c 9 "java/util/ArrayList" "elementData" "[Ljava/lang/Object;", Cond.methodLink RX4 166 yX0_countFree, Cond.instanceMethod yX0_countFree, Cond.selects RX0 yX0_countFree yX0_countFree, Cond.initialized RX0, Cond.code yX0_countFree cX0_countFree 4 (some .int), Cond.fieldLink RX0 34 "SpanRows$KeptRow" "places" "[I", Cond.methodLink RX0 43 yX1_isKnown, Cond.instanceMethod yX1_isKnown, Cond.selects RX1 yX1_isKnown yX1_isKnown, Cond.initialized RX1, Cond.code yX1_isKnown cX1_isKnown 2 (some .boolean), Cond.fieldLink RX1 15 "SpanRows$Names" "known" "[Z", Cond.fieldLink RX1 9 "SpanRows$Names" "least" "[I", Cond.methodLink RX4 190 yX0_isSo, Cond.instanceMethod yX0_isSo, Cond.selects RX0 yX0_isSo yX0_isSo, Cond.code yX0_isSo cX0_isSo 2 (some .boolean), Cond.fieldLink RX0 9 "SpanRows$KeptRow" "kind" "I", Cond.fieldLink RX0 15 "SpanRows$KeptRow" "k" "J", Cond.methodLink RX0 53 yX0_sum, Cond.instanceMethod yX0_sum, Cond.selects RX0 yX0_sum yX0_sum]
def wsX4_allCompleteAreSo_r3 : List Cond := [Cond.code yX0_sum cX0_sum 5 (some .long), Cond.fieldLink RX0 42 "SpanRows$KeptRow" "factors" "[J", Cond.methodLink RX0 61 yX1_numberOf, Cond.instanceMethod yX1_numberOf, Cond.selects RX1 yX1_numberOf yX1_numberOf, Cond.code yX1_numberOf cX1_numberOf 2 (some .long), Cond.fieldLink RX1 19 "SpanRows$Names" "number" "[J", Cond.methodLink RX0 57 yX0_allUnlike, Cond.instanceMethod yX0_allUnlike, Cond.selects RX0 yX0_allUnlike yX0_allUnlike, Cond.code yX0_allUnlike cX0_allUnlike 6 (some .boolean)]
def wsX4_allCompleteAreSo : List Cond := .code yX4_allCompleteAreSo cX4_allCompleteAreSo 3 (some .boolean) :: ((wsX4_allCompleteAreSo_r1 ++ (wsX4_allCompleteAreSo_r2 ++ wsX4_allCompleteAreSo_r3)) ++ wsX40 ++ wsJx4a65c0 ++ wsX00 ++ wsX10)
def wsX4_settle_r1 : List Cond := [Cond.fieldLink RX4 10 "SpanRows" "names" "LSpanRows$Names;", Cond.methodLink RX4 145 yX1_isKnown, Cond.instanceMethod yX1_isKnown, Cond.selects RX1 yX1_isKnown yX1_isKnown, Cond.initialized RX1, Cond.code yX1_isKnown cX1_isKnown 2 (some .boolean), Cond.fieldLink RX1 15 "SpanRows$Names" "known" "[Z", Cond.fieldLink RX1 9 "SpanRows$Names" "least" "[I", Cond.methodLink RX4 148 yX1_numberOf, Cond.instanceMethod yX1_numberOf, Cond.selects RX1 yX1_numberOf yX1_numberOf, Cond.code yX1_numberOf cX1_numberOf 2 (some .long), Cond.fieldLink RX1 19 "SpanRows$Names" "number" "[J", Cond.methodLink RX4 176 yX1_liesInSpan, Cond.instanceMethod yX1_liesInSpan, Cond.selects RX1 yX1_liesInSpan yX1_liesInSpan, Cond.code yX1_liesInSpan cX1_liesInSpan 4 (some .boolean), Cond.methodLink RX1 42 yX1_lowOf, Cond.instanceMethod yX1_lowOf, Cond.selects RX1 yX1_lowOf yX1_lowOf, Cond.code yX1_lowOf cX1_lowOf 2 (some .long), Cond.fieldLink RX1 26 "SpanRows$Names" "low" "[J", Cond.methodLink RX1 46 yX1_highOf, Cond.instanceMethod yX1_highOf]
def wsX4_settle_r2 : List Cond := [Cond.selects RX1 yX1_highOf yX1_highOf, Cond.code yX1_highOf cX1_highOf 2 (some .long), Cond.fieldLink RX1 29 "SpanRows$Names" "high" "[J", Cond.methodLink RX4 106 yX1_setNumber, Cond.instanceMethod yX1_setNumber, Cond.selects RX1 yX1_setNumber yX1_setNumber, Cond.code yX1_setNumber cX1_setNumber 4 none, Cond.methodLink RX4 179 yX4_allCompleteAreSo, Cond.instanceMethod yX4_allCompleteAreSo, Cond.selects RX4 yX4_allCompleteAreSo yX4_allCompleteAreSo, Cond.initialized RX4, Cond.code yX4_allCompleteAreSo cX4_allCompleteAreSo 3 (some .boolean), Cond.fieldLink RX4 26 "SpanRows" "keptRows" "Ljava/util/ArrayList;", Cond.classLink RX4 158 "SpanRows$KeptRow", Cond.methodLink RX4 109 yJx4a65c_size_8abf5, Cond.instanceMethod yJx4a65c_size_8abf5, Cond.selects RJx4a65c yJx4a65c_size_8abf5 yJx4a65c_size_8abf5, Cond.initialized RJx4a65c, Cond.code yJx4a65c_size_8abf5 cJx4a65c_size_8abf5 1 (some .int), Cond.fieldLink RJx4a65c 48 "java/util/ArrayList" "size" "I", Cond.methodLink RX4 115 yJx4a65c_get_915e3, Cond.instanceMethod yJx4a65c_get_915e3, Cond.selects RJx4a65c yJx4a65c_get_915e3 yJx4a65c_get_915e3, Cond.code yJx4a65c_get_915e3 cJx4a65c_get_915e3 2 (some (.object "java/lang/Object"))]
def wsX4_settle_r3 : List Cond := [Cond.methodLink RJx4a65c 118 yJ15_checkIndex_7cf53, Cond.static yJ15_checkIndex_7cf53, Cond.initialized RJ15, Cond.code yJ15_checkIndex_7cf53 cJ15_checkIndex_7cf53 2 (some .int), Cond.methodLink RJ15 105 yJ3_checkIndex_8e157, Cond.static yJ3_checkIndex_8e157, Cond.initialized RJ3, Cond.code yJ3_checkIndex_8e157 cJ3_checkIndex_8e157 3 (some .int), Cond.methodLink RJx4a65c 123 yJx4a65c_elementData_915e3, Cond.instanceMethod yJx4a65c_elementData_915e3, Cond.selects RJx4a65c yJx4a65c_elementData_915e3 yJx4a65c_elementData_915e3, Cond.code yJx4a65c_elementData_915e3 cJx4a65c_elementData_915e3 2 (some (.object "java/lang/Object")), Cond.fieldLink RJx4a65c 9 "java/util/ArrayList" "elementData" "[Ljava/lang/Object;", Cond.methodLink RX4 166 yX0_countFree, Cond.instanceMethod yX0_countFree, Cond.selects RX0 yX0_countFree yX0_countFree, Cond.initialized RX0, Cond.code yX0_countFree cX0_countFree 4 (some .int), Cond.fieldLink RX0 34 "SpanRows$KeptRow" "places" "[I", Cond.methodLink RX0 43 yX1_isKnown, Cond.methodLink RX4 190 yX0_isSo, Cond.instanceMethod yX0_isSo, Cond.selects RX0 yX0_isSo yX0_isSo, Cond.code yX0_isSo cX0_isSo 2 (some .boolean)]
def wsX4_settle_r4 : List Cond := [Cond.fieldLink RX0 9 "SpanRows$KeptRow" "kind" "I", Cond.fieldLink RX0 15 "SpanRows$KeptRow" "k" "J", Cond.methodLink RX0 53 yX0_sum, Cond.instanceMethod yX0_sum, Cond.selects RX0 yX0_sum yX0_sum, Cond.code yX0_sum cX0_sum 5 (some .long), Cond.fieldLink RX0 42 "SpanRows$KeptRow" "factors" "[J", Cond.methodLink RX0 61 yX1_numberOf, Cond.methodLink RX0 57 yX0_allUnlike, Cond.instanceMethod yX0_allUnlike, Cond.selects RX0 yX0_allUnlike yX0_allUnlike, Cond.code yX0_allUnlike cX0_allUnlike 6 (some .boolean), Cond.methodLink RX4 183 yX1_unsetNumber, Cond.instanceMethod yX1_unsetNumber, Cond.selects RX1 yX1_unsetNumber yX1_unsetNumber, Cond.code yX1_unsetNumber cX1_unsetNumber 2 none]
def wsX4_settle : List Cond := .code yX4_settle cX4_settle 4 (some .boolean) :: ((wsX4_settle_r1 ++ (wsX4_settle_r2 ++ (wsX4_settle_r3 ++ wsX4_settle_r4))) ++ wsX40 ++ wsX10 ++ wsJx4a65c0 ++ wsX00)
def wsX4_give_r1 : List Cond := [Cond.fieldLink RX4 10 "SpanRows" "names" "LSpanRows$Names;", Cond.fieldLink RX4 33 "SpanRows" "search" "LSpanRows$Search;", Cond.methodLink RX4 58 yX1_has, Cond.instanceMethod yX1_has, Cond.selects RX1 yX1_has yX1_has, Cond.initialized RX1, Cond.code yX1_has cX1_has 2 (some .boolean), Cond.fieldLink RX1 32 "SpanRows$Names" "size" "I", Cond.methodLink RX4 66 yX4_settle, Cond.instanceMethod yX4_settle, Cond.selects RX4 yX4_settle yX4_settle, Cond.initialized RX4, Cond.code yX4_settle cX4_settle 4 (some .boolean), Cond.methodLink RX4 145 yX1_isKnown, Cond.instanceMethod yX1_isKnown, Cond.selects RX1 yX1_isKnown yX1_isKnown, Cond.code yX1_isKnown cX1_isKnown 2 (some .boolean), Cond.fieldLink RX1 15 "SpanRows$Names" "known" "[Z", Cond.fieldLink RX1 9 "SpanRows$Names" "least" "[I", Cond.methodLink RX4 148 yX1_numberOf, Cond.instanceMethod yX1_numberOf, Cond.selects RX1 yX1_numberOf yX1_numberOf, Cond.code yX1_numberOf cX1_numberOf 2 (some .long), Cond.fieldLink RX1 19 "SpanRows$Names" "number" "[J"]
def wsX4_give_r2 : List Cond := [Cond.methodLink RX4 176 yX1_liesInSpan, Cond.instanceMethod yX1_liesInSpan, Cond.selects RX1 yX1_liesInSpan yX1_liesInSpan, Cond.code yX1_liesInSpan cX1_liesInSpan 4 (some .boolean), Cond.methodLink RX1 42 yX1_lowOf, Cond.instanceMethod yX1_lowOf, Cond.selects RX1 yX1_lowOf yX1_lowOf, Cond.code yX1_lowOf cX1_lowOf 2 (some .long), Cond.fieldLink RX1 26 "SpanRows$Names" "low" "[J", Cond.methodLink RX1 46 yX1_highOf, Cond.instanceMethod yX1_highOf, Cond.selects RX1 yX1_highOf yX1_highOf, Cond.code yX1_highOf cX1_highOf 2 (some .long), Cond.fieldLink RX1 29 "SpanRows$Names" "high" "[J", Cond.methodLink RX4 106 yX1_setNumber, Cond.instanceMethod yX1_setNumber, Cond.selects RX1 yX1_setNumber yX1_setNumber, Cond.code yX1_setNumber cX1_setNumber 4 none, Cond.methodLink RX4 179 yX4_allCompleteAreSo, Cond.instanceMethod yX4_allCompleteAreSo, Cond.selects RX4 yX4_allCompleteAreSo yX4_allCompleteAreSo, Cond.code yX4_allCompleteAreSo cX4_allCompleteAreSo 3 (some .boolean), Cond.fieldLink RX4 26 "SpanRows" "keptRows" "Ljava/util/ArrayList;", Cond.classLink RX4 158 "SpanRows$KeptRow"]
def wsX4_give_r3 : List Cond := [Cond.methodLink RX4 109 yJx4a65c_size_8abf5, Cond.instanceMethod yJx4a65c_size_8abf5, Cond.selects RJx4a65c yJx4a65c_size_8abf5 yJx4a65c_size_8abf5, Cond.initialized RJx4a65c, Cond.code yJx4a65c_size_8abf5 cJx4a65c_size_8abf5 1 (some .int), Cond.fieldLink RJx4a65c 48 "java/util/ArrayList" "size" "I", Cond.methodLink RX4 115 yJx4a65c_get_915e3, Cond.instanceMethod yJx4a65c_get_915e3, Cond.selects RJx4a65c yJx4a65c_get_915e3 yJx4a65c_get_915e3, Cond.code yJx4a65c_get_915e3 cJx4a65c_get_915e3 2 (some (.object "java/lang/Object")), Cond.methodLink RJx4a65c 118 yJ15_checkIndex_7cf53, Cond.static yJ15_checkIndex_7cf53, Cond.initialized RJ15, Cond.code yJ15_checkIndex_7cf53 cJ15_checkIndex_7cf53 2 (some .int), Cond.methodLink RJ15 105 yJ3_checkIndex_8e157, Cond.static yJ3_checkIndex_8e157, Cond.initialized RJ3, Cond.code yJ3_checkIndex_8e157 cJ3_checkIndex_8e157 3 (some .int), Cond.methodLink RJx4a65c 123 yJx4a65c_elementData_915e3, Cond.instanceMethod yJx4a65c_elementData_915e3, Cond.selects RJx4a65c yJx4a65c_elementData_915e3 yJx4a65c_elementData_915e3, Cond.code yJx4a65c_elementData_915e3 cJx4a65c_elementData_915e3 2 (some (.object "java/lang/Object")), Cond.fieldLink RJx4a65c 9 "java/util/ArrayList" "elementData" "[Ljava/lang/Object;", Cond.methodLink RX4 166 yX0_countFree]
def wsX4_give_r4 : List Cond := [Cond.instanceMethod yX0_countFree, Cond.selects RX0 yX0_countFree yX0_countFree, Cond.initialized RX0, Cond.code yX0_countFree cX0_countFree 4 (some .int), Cond.fieldLink RX0 34 "SpanRows$KeptRow" "places" "[I", Cond.methodLink RX0 43 yX1_isKnown, Cond.methodLink RX4 190 yX0_isSo, Cond.instanceMethod yX0_isSo, Cond.selects RX0 yX0_isSo yX0_isSo, Cond.code yX0_isSo cX0_isSo 2 (some .boolean), Cond.fieldLink RX0 9 "SpanRows$KeptRow" "kind" "I", Cond.fieldLink RX0 15 "SpanRows$KeptRow" "k" "J", Cond.methodLink RX0 53 yX0_sum, Cond.instanceMethod yX0_sum, Cond.selects RX0 yX0_sum yX0_sum, Cond.code yX0_sum cX0_sum 5 (some .long), Cond.fieldLink RX0 42 "SpanRows$KeptRow" "factors" "[J", Cond.methodLink RX0 61 yX1_numberOf, Cond.methodLink RX0 57 yX0_allUnlike, Cond.instanceMethod yX0_allUnlike, Cond.selects RX0 yX0_allUnlike yX0_allUnlike, Cond.code yX0_allUnlike cX0_allUnlike 6 (some .boolean), Cond.methodLink RX4 183 yX1_unsetNumber, Cond.instanceMethod yX1_unsetNumber]
def wsX4_give_r5 : List Cond := [Cond.selects RX1 yX1_unsetNumber yX1_unsetNumber, Cond.code yX1_unsetNumber cX1_unsetNumber 2 none, Cond.methodLink RX4 51 yX3_endWays, Cond.instanceMethod yX3_endWays, Cond.selects RX3 yX3_endWays yX3_endWays, Cond.initialized RX3, Cond.code yX3_endWays cX3_endWays 1 none, Cond.fieldLink RX3 22 "SpanRows$Search" "freeCount" "I", Cond.fieldLink RX3 26 "SpanRows$Search" "wayCount" "I"]
def wsX4_give : List Cond := .code yX4_give cX4_give 4 (some .boolean) :: ((wsX4_give_r1 ++ (wsX4_give_r2 ++ (wsX4_give_r3 ++ (wsX4_give_r4 ++ wsX4_give_r5)))) ++ wsX40 ++ wsX10 ++ wsJx4a65c0 ++ wsX00 ++ wsX30)
def wsX4_agree_r1 : List Cond := [Cond.fieldLink RX4 10 "SpanRows" "names" "LSpanRows$Names;", Cond.methodLink RX4 145 yX1_isKnown, Cond.instanceMethod yX1_isKnown, Cond.selects RX1 yX1_isKnown yX1_isKnown, Cond.initialized RX1, Cond.code yX1_isKnown cX1_isKnown 2 (some .boolean), Cond.fieldLink RX1 15 "SpanRows$Names" "known" "[Z", Cond.fieldLink RX1 9 "SpanRows$Names" "least" "[I", Cond.methodLink RX4 148 yX1_numberOf, Cond.instanceMethod yX1_numberOf, Cond.selects RX1 yX1_numberOf yX1_numberOf, Cond.code yX1_numberOf cX1_numberOf 2 (some .long), Cond.fieldLink RX1 19 "SpanRows$Names" "number" "[J", Cond.methodLink RX4 66 yX4_settle, Cond.instanceMethod yX4_settle, Cond.selects RX4 yX4_settle yX4_settle, Cond.initialized RX4, Cond.code yX4_settle cX4_settle 4 (some .boolean), Cond.methodLink RX4 176 yX1_liesInSpan, Cond.instanceMethod yX1_liesInSpan, Cond.selects RX1 yX1_liesInSpan yX1_liesInSpan, Cond.code yX1_liesInSpan cX1_liesInSpan 4 (some .boolean), Cond.methodLink RX1 42 yX1_lowOf, Cond.instanceMethod yX1_lowOf]
def wsX4_agree_r2 : List Cond := [Cond.selects RX1 yX1_lowOf yX1_lowOf, Cond.code yX1_lowOf cX1_lowOf 2 (some .long), Cond.fieldLink RX1 26 "SpanRows$Names" "low" "[J", Cond.methodLink RX1 46 yX1_highOf, Cond.instanceMethod yX1_highOf, Cond.selects RX1 yX1_highOf yX1_highOf, Cond.code yX1_highOf cX1_highOf 2 (some .long), Cond.fieldLink RX1 29 "SpanRows$Names" "high" "[J", Cond.methodLink RX4 106 yX1_setNumber, Cond.instanceMethod yX1_setNumber, Cond.selects RX1 yX1_setNumber yX1_setNumber, Cond.code yX1_setNumber cX1_setNumber 4 none, Cond.methodLink RX4 179 yX4_allCompleteAreSo, Cond.instanceMethod yX4_allCompleteAreSo, Cond.selects RX4 yX4_allCompleteAreSo yX4_allCompleteAreSo, Cond.code yX4_allCompleteAreSo cX4_allCompleteAreSo 3 (some .boolean), Cond.fieldLink RX4 26 "SpanRows" "keptRows" "Ljava/util/ArrayList;", Cond.classLink RX4 158 "SpanRows$KeptRow", Cond.methodLink RX4 109 yJx4a65c_size_8abf5, Cond.instanceMethod yJx4a65c_size_8abf5, Cond.selects RJx4a65c yJx4a65c_size_8abf5 yJx4a65c_size_8abf5, Cond.initialized RJx4a65c, Cond.code yJx4a65c_size_8abf5 cJx4a65c_size_8abf5 1 (some .int), Cond.fieldLink RJx4a65c 48 "java/util/ArrayList" "size" "I"]
def wsX4_agree_r3 : List Cond := [Cond.methodLink RX4 115 yJx4a65c_get_915e3, Cond.instanceMethod yJx4a65c_get_915e3, Cond.selects RJx4a65c yJx4a65c_get_915e3 yJx4a65c_get_915e3, Cond.code yJx4a65c_get_915e3 cJx4a65c_get_915e3 2 (some (.object "java/lang/Object")), Cond.methodLink RJx4a65c 118 yJ15_checkIndex_7cf53, Cond.static yJ15_checkIndex_7cf53, Cond.initialized RJ15, Cond.code yJ15_checkIndex_7cf53 cJ15_checkIndex_7cf53 2 (some .int), Cond.methodLink RJ15 105 yJ3_checkIndex_8e157, Cond.static yJ3_checkIndex_8e157, Cond.initialized RJ3, Cond.code yJ3_checkIndex_8e157 cJ3_checkIndex_8e157 3 (some .int), Cond.methodLink RJx4a65c 123 yJx4a65c_elementData_915e3, Cond.instanceMethod yJx4a65c_elementData_915e3, Cond.selects RJx4a65c yJx4a65c_elementData_915e3 yJx4a65c_elementData_915e3, Cond.code yJx4a65c_elementData_915e3 cJx4a65c_elementData_915e3 2 (some (.object "java/lang/Object")), Cond.fieldLink RJx4a65c 9 "java/util/ArrayList" "elementData" "[Ljava/lang/Object;", Cond.methodLink RX4 166 yX0_countFree, Cond.instanceMethod yX0_countFree, Cond.selects RX0 yX0_countFree yX0_countFree, Cond.initialized RX0, Cond.code yX0_countFree cX0_countFree 4 (some .int), Cond.fieldLink RX0 34 "SpanRows$KeptRow" "places" "[I", Cond.methodLink RX0 43 yX1_isKnown]
def wsX4_agree_r4 : List Cond := [Cond.methodLink RX4 190 yX0_isSo, Cond.instanceMethod yX0_isSo, Cond.selects RX0 yX0_isSo yX0_isSo, Cond.code yX0_isSo cX0_isSo 2 (some .boolean), Cond.fieldLink RX0 9 "SpanRows$KeptRow" "kind" "I", Cond.fieldLink RX0 15 "SpanRows$KeptRow" "k" "J", Cond.methodLink RX0 53 yX0_sum, Cond.instanceMethod yX0_sum, Cond.selects RX0 yX0_sum yX0_sum, Cond.code yX0_sum cX0_sum 5 (some .long), Cond.fieldLink RX0 42 "SpanRows$KeptRow" "factors" "[J", Cond.methodLink RX0 61 yX1_numberOf, Cond.methodLink RX0 57 yX0_allUnlike, Cond.instanceMethod yX0_allUnlike, Cond.selects RX0 yX0_allUnlike yX0_allUnlike, Cond.code yX0_allUnlike cX0_allUnlike 6 (some .boolean), Cond.methodLink RX4 183 yX1_unsetNumber, Cond.instanceMethod yX1_unsetNumber, Cond.selects RX1 yX1_unsetNumber yX1_unsetNumber, Cond.code yX1_unsetNumber cX1_unsetNumber 2 none, Cond.methodLink RX4 187 yX1_shareSpans, Cond.instanceMethod yX1_shareSpans, Cond.selects RX1 yX1_shareSpans yX1_shareSpans, Cond.code yX1_shareSpans cX1_shareSpans 3 (some .boolean)]
def wsX4_agree_r5 : List Cond := [Cond.methodLink RX1 53 yX1_hasSpan, Cond.instanceMethod yX1_hasSpan, Cond.selects RX1 yX1_hasSpan yX1_hasSpan, Cond.code yX1_hasSpan cX1_hasSpan 2 (some .boolean), Cond.fieldLink RX1 23 "SpanRows$Names" "spanned" "[Z", Cond.methodLink RX1 68 yX1_narrow, Cond.instanceMethod yX1_narrow, Cond.selects RX1 yX1_narrow yX1_narrow, Cond.code yX1_narrow cX1_narrow 11 (some .boolean), Cond.methodLink RX1 59 Lib.MathLoose.max_long.x, Cond.static Lib.MathLoose.max_long.x, Cond.initialized "java/lang/Math", Cond.code Lib.MathLoose.max_long.x Lib.MathLoose.max_long.code 4 (some .long), Cond.methodLink RX1 65 Lib.MathLoose.min_long.x, Cond.static Lib.MathLoose.min_long.x, Cond.code Lib.MathLoose.min_long.x Lib.MathLoose.min_long.code 4 (some .long), Cond.methodLink RX1 49 yX1_isKnown, Cond.methodLink RX1 56 yX1_numberOf]
def wsX4_agree : List Cond := .code yX4_agree cX4_agree 3 (some .boolean) :: ((wsX4_agree_r1 ++ (wsX4_agree_r2 ++ (wsX4_agree_r3 ++ (wsX4_agree_r4 ++ wsX4_agree_r5)))) ++ wsX40 ++ wsX10 ++ wsJx4a65c0 ++ wsX00)
def wsX4_equal_r1 : List Cond := [Cond.fieldLink RX4 10 "SpanRows" "names" "LSpanRows$Names;", Cond.fieldLink RX4 33 "SpanRows" "search" "LSpanRows$Search;", Cond.methodLink RX4 58 yX1_has, Cond.instanceMethod yX1_has, Cond.selects RX1 yX1_has yX1_has, Cond.initialized RX1, Cond.code yX1_has cX1_has 2 (some .boolean), Cond.fieldLink RX1 32 "SpanRows$Names" "size" "I", Cond.methodLink RX4 70 yX4_agree, Cond.instanceMethod yX4_agree, Cond.selects RX4 yX4_agree yX4_agree, Cond.initialized RX4, Cond.code yX4_agree cX4_agree 3 (some .boolean), Cond.methodLink RX4 145 yX1_isKnown, Cond.instanceMethod yX1_isKnown, Cond.selects RX1 yX1_isKnown yX1_isKnown, Cond.code yX1_isKnown cX1_isKnown 2 (some .boolean), Cond.fieldLink RX1 15 "SpanRows$Names" "known" "[Z", Cond.fieldLink RX1 9 "SpanRows$Names" "least" "[I", Cond.methodLink RX4 148 yX1_numberOf, Cond.instanceMethod yX1_numberOf, Cond.selects RX1 yX1_numberOf yX1_numberOf, Cond.code yX1_numberOf cX1_numberOf 2 (some .long), Cond.fieldLink RX1 19 "SpanRows$Names" "number" "[J"]
def wsX4_equal_r2 : List Cond := [Cond.methodLink RX4 66 yX4_settle, Cond.instanceMethod yX4_settle, Cond.selects RX4 yX4_settle yX4_settle, Cond.code yX4_settle cX4_settle 4 (some .boolean), Cond.methodLink RX4 176 yX1_liesInSpan, Cond.instanceMethod yX1_liesInSpan, Cond.selects RX1 yX1_liesInSpan yX1_liesInSpan, Cond.code yX1_liesInSpan cX1_liesInSpan 4 (some .boolean), Cond.methodLink RX1 42 yX1_lowOf, Cond.instanceMethod yX1_lowOf, Cond.selects RX1 yX1_lowOf yX1_lowOf, Cond.code yX1_lowOf cX1_lowOf 2 (some .long), Cond.fieldLink RX1 26 "SpanRows$Names" "low" "[J", Cond.methodLink RX1 46 yX1_highOf, Cond.instanceMethod yX1_highOf, Cond.selects RX1 yX1_highOf yX1_highOf, Cond.code yX1_highOf cX1_highOf 2 (some .long), Cond.fieldLink RX1 29 "SpanRows$Names" "high" "[J", Cond.methodLink RX4 106 yX1_setNumber, Cond.instanceMethod yX1_setNumber, Cond.selects RX1 yX1_setNumber yX1_setNumber, Cond.code yX1_setNumber cX1_setNumber 4 none, Cond.methodLink RX4 179 yX4_allCompleteAreSo, Cond.instanceMethod yX4_allCompleteAreSo]
def wsX4_equal_r3 : List Cond := [Cond.selects RX4 yX4_allCompleteAreSo yX4_allCompleteAreSo, Cond.code yX4_allCompleteAreSo cX4_allCompleteAreSo 3 (some .boolean), Cond.fieldLink RX4 26 "SpanRows" "keptRows" "Ljava/util/ArrayList;", Cond.classLink RX4 158 "SpanRows$KeptRow", Cond.methodLink RX4 109 yJx4a65c_size_8abf5, Cond.instanceMethod yJx4a65c_size_8abf5, Cond.selects RJx4a65c yJx4a65c_size_8abf5 yJx4a65c_size_8abf5, Cond.initialized RJx4a65c, Cond.code yJx4a65c_size_8abf5 cJx4a65c_size_8abf5 1 (some .int), Cond.fieldLink RJx4a65c 48 "java/util/ArrayList" "size" "I", Cond.methodLink RX4 115 yJx4a65c_get_915e3, Cond.instanceMethod yJx4a65c_get_915e3, Cond.selects RJx4a65c yJx4a65c_get_915e3 yJx4a65c_get_915e3, Cond.code yJx4a65c_get_915e3 cJx4a65c_get_915e3 2 (some (.object "java/lang/Object")), Cond.methodLink RJx4a65c 118 yJ15_checkIndex_7cf53, Cond.static yJ15_checkIndex_7cf53, Cond.initialized RJ15, Cond.code yJ15_checkIndex_7cf53 cJ15_checkIndex_7cf53 2 (some .int), Cond.methodLink RJ15 105 yJ3_checkIndex_8e157, Cond.static yJ3_checkIndex_8e157, Cond.initialized RJ3, Cond.code yJ3_checkIndex_8e157 cJ3_checkIndex_8e157 3 (some .int), Cond.methodLink RJx4a65c 123 yJx4a65c_elementData_915e3, Cond.instanceMethod yJx4a65c_elementData_915e3]
def wsX4_equal_r4 : List Cond := [Cond.selects RJx4a65c yJx4a65c_elementData_915e3 yJx4a65c_elementData_915e3, Cond.code yJx4a65c_elementData_915e3 cJx4a65c_elementData_915e3 2 (some (.object "java/lang/Object")), Cond.fieldLink RJx4a65c 9 "java/util/ArrayList" "elementData" "[Ljava/lang/Object;", Cond.methodLink RX4 166 yX0_countFree, Cond.instanceMethod yX0_countFree, Cond.selects RX0 yX0_countFree yX0_countFree, Cond.initialized RX0, Cond.code yX0_countFree cX0_countFree 4 (some .int), Cond.fieldLink RX0 34 "SpanRows$KeptRow" "places" "[I", Cond.methodLink RX0 43 yX1_isKnown, Cond.methodLink RX4 190 yX0_isSo, Cond.instanceMethod yX0_isSo, Cond.selects RX0 yX0_isSo yX0_isSo, Cond.code yX0_isSo cX0_isSo 2 (some .boolean), Cond.fieldLink RX0 9 "SpanRows$KeptRow" "kind" "I", Cond.fieldLink RX0 15 "SpanRows$KeptRow" "k" "J", Cond.methodLink RX0 53 yX0_sum, Cond.instanceMethod yX0_sum, Cond.selects RX0 yX0_sum yX0_sum, Cond.code yX0_sum cX0_sum 5 (some .long), Cond.fieldLink RX0 42 "SpanRows$KeptRow" "factors" "[J", Cond.methodLink RX0 61 yX1_numberOf, Cond.methodLink RX0 57 yX0_allUnlike, Cond.instanceMethod yX0_allUnlike]
def wsX4_equal_r5 : List Cond := [Cond.selects RX0 yX0_allUnlike yX0_allUnlike, Cond.code yX0_allUnlike cX0_allUnlike 6 (some .boolean), Cond.methodLink RX4 183 yX1_unsetNumber, Cond.instanceMethod yX1_unsetNumber, Cond.selects RX1 yX1_unsetNumber yX1_unsetNumber, Cond.code yX1_unsetNumber cX1_unsetNumber 2 none, Cond.methodLink RX4 187 yX1_shareSpans, Cond.instanceMethod yX1_shareSpans, Cond.selects RX1 yX1_shareSpans yX1_shareSpans, Cond.code yX1_shareSpans cX1_shareSpans 3 (some .boolean), Cond.methodLink RX1 53 yX1_hasSpan, Cond.instanceMethod yX1_hasSpan, Cond.selects RX1 yX1_hasSpan yX1_hasSpan, Cond.code yX1_hasSpan cX1_hasSpan 2 (some .boolean), Cond.fieldLink RX1 23 "SpanRows$Names" "spanned" "[Z", Cond.methodLink RX1 68 yX1_narrow, Cond.instanceMethod yX1_narrow, Cond.selects RX1 yX1_narrow yX1_narrow, Cond.code yX1_narrow cX1_narrow 11 (some .boolean), Cond.methodLink RX1 59 Lib.MathLoose.max_long.x, Cond.static Lib.MathLoose.max_long.x, Cond.initialized "java/lang/Math", Cond.code Lib.MathLoose.max_long.x Lib.MathLoose.max_long.code 4 (some .long), Cond.methodLink RX1 65 Lib.MathLoose.min_long.x]
def wsX4_equal_r6 : List Cond := [Cond.static Lib.MathLoose.min_long.x, Cond.code Lib.MathLoose.min_long.x Lib.MathLoose.min_long.code 4 (some .long), Cond.methodLink RX1 49 yX1_isKnown, Cond.methodLink RX1 56 yX1_numberOf, Cond.methodLink RX4 74 yX1_join, Cond.instanceMethod yX1_join, Cond.selects RX1 yX1_join yX1_join, Cond.code yX1_join cX1_join 6 none, Cond.methodLink RX1 72 Lib.Math.min.name, Cond.static Lib.Math.min.name, Cond.code Lib.Math.min.name Lib.Math.min.code 2 (some .int), Cond.methodLink RX1 75 Lib.Math.max.name, Cond.static Lib.Math.max.name, Cond.code Lib.Math.max.name Lib.Math.max.code 2 (some .int), Cond.methodLink RX4 51 yX3_endWays, Cond.instanceMethod yX3_endWays, Cond.selects RX3 yX3_endWays yX3_endWays, Cond.initialized RX3, Cond.code yX3_endWays cX3_endWays 1 none, Cond.fieldLink RX3 22 "SpanRows$Search" "freeCount" "I", Cond.fieldLink RX3 26 "SpanRows$Search" "wayCount" "I"]
def wsX4_equal : List Cond := .code yX4_equal cX4_equal 3 (some .boolean) :: ((wsX4_equal_r1 ++ (wsX4_equal_r2 ++ (wsX4_equal_r3 ++ (wsX4_equal_r4 ++ (wsX4_equal_r5 ++ wsX4_equal_r6))))) ++ wsX40 ++ wsX10 ++ wsJx4a65c0 ++ wsX00 ++ wsX30)
def wsX4_put : List Cond := .code yX4_put cX4_put 4 (some .int) :: ([.fieldLink RX4 10 "SpanRows" "names" "LSpanRows$Names;", .fieldLink RX4 19 "SpanRows" "row" "LSpanRows$Row;", .fieldLink RX4 78 "SpanRows$Row" "length" "I", .methodLink RX4 58 yX1_has, .instanceMethod yX1_has, .selects RX1 yX1_has yX1_has, .initialized RX1, .code yX1_has cX1_has 2 (some .boolean), .fieldLink RX1 32 "SpanRows$Names" "size" "I", .methodLink RX4 81 yX2_append, .instanceMethod yX2_append, .selects RX2 yX2_append yX2_append, .initialized RX2, .code yX2_append cX2_append 4 none, .fieldLink RX2 19 "SpanRows$Row" "length" "I", .fieldLink RX2 9 "SpanRows$Row" "places" "[I", .fieldLink RX2 15 "SpanRows$Row" "factors" "[J"] ++ wsX40 ++ wsX20 ++ wsX10)
def wsJ8_hugeLength_7cf53 : List Cond := .code yJ8_hugeLength_7cf53 cJ8_hugeLength_7cf53 3 (some .int) :: ([.constant RJ8 200 (2147483639)])
def wsJ8_newLength_cabcc : List Cond := .code yJ8_newLength_cabcc cJ8_newLength_cabcc 4 (some .int) :: ([.methodLink RJ8 194 Lib.Math.max.name, .static Lib.Math.max.name, .initialized "java/lang/Math", .code Lib.Math.max.name Lib.Math.max.code 2 (some .int), .constant RJ8 200 (2147483639), .methodLink RJ8 201 yJ8_hugeLength_7cf53, .static yJ8_hugeLength_7cf53, .initialized RJ8, .code yJ8_hugeLength_7cf53 cJ8_hugeLength_7cf53 3 (some .int)])
def wsJ7_copyOf_6403c : List Cond := .code yJ7_copyOf_6403c cJ7_copyOf_6403c 4 (some (.array (.object "java/lang/Object"))) :: ([.classLink RJ7 110 "[Ljava/lang/Object;", .classLink RJ7 2 "java/lang/Object", .methodLink RJ7 304 Lib.Math.min.name, .static Lib.Math.min.name, .initialized "java/lang/Math", .code Lib.Math.min.name Lib.Math.min.code 2 (some .int), .methodLink RJ7 150 arraycopyName, .native arraycopyName, .static arraycopyName, .initialized "java/lang/System"])
def wsJ7_copyOf_1904c : List Cond := .code yJ7_copyOf_1904c cJ7_copyOf_1904c 2 (some (.array (.object "java/lang/Object"))) :: ([.methodLink RJ7 86 ⟨"java/lang/Object", "getClass", "()Ljava/lang/Class;"⟩, .selects "[Ljava/lang/Object;" ⟨"java/lang/Object", "getClass", "()Ljava/lang/Class;"⟩ ⟨"java/lang/Object", "getClass", "()Ljava/lang/Class;"⟩, .instanceMethod ⟨"java/lang/Object", "getClass", "()Ljava/lang/Class;"⟩, .native ⟨"java/lang/Object", "getClass", "()Ljava/lang/Class;"⟩, .methodLink RJ7 300 yJ7_copyOf_6403c, .static yJ7_copyOf_6403c, .initialized RJ7, .code yJ7_copyOf_6403c cJ7_copyOf_6403c 4 (some (.array (.object "java/lang/Object"))), .classLink RJ7 110 "[Ljava/lang/Object;", .classLink RJ7 2 "java/lang/Object", .methodLink RJ7 304 Lib.Math.min.name, .static Lib.Math.min.name, .initialized "java/lang/Math", .code Lib.Math.min.name Lib.Math.min.code 2 (some .int), .methodLink RJ7 150 arraycopyName, .native arraycopyName, .static arraycopyName, .initialized "java/lang/System"])
def wsJx4a65c_grow_92f84_r1 : List Cond := [Cond.fieldLink RJx4a65c 9 "java/util/ArrayList" "elementData" "[Ljava/lang/Object;", Cond.fieldLink RJx4a65c 39 "java/util/ArrayList" "DEFAULTCAPACITY_EMPTY_ELEMENTDATA" "[Ljava/lang/Object;", Cond.methodLink RJx4a65c 79 Lib.Math.max.name, Cond.static Lib.Math.max.name, Cond.initialized "java/lang/Math", Cond.code Lib.Math.max.name Lib.Math.max.code 2 (some .int), Cond.classLink RJx4a65c 7 "java/lang/Object", Cond.methodLink RJx4a65c 73 yJ8_newLength_cabcc, Cond.static yJ8_newLength_cabcc, Cond.initialized RJ8, Cond.code yJ8_newLength_cabcc cJ8_newLength_cabcc 4 (some .int), Cond.methodLink RJ8 194 Lib.Math.max.name, Cond.constant RJ8 200 (2147483639), Cond.methodLink RJ8 201 yJ8_hugeLength_7cf53, Cond.static yJ8_hugeLength_7cf53, Cond.code yJ8_hugeLength_7cf53 cJ8_hugeLength_7cf53 3 (some .int), Cond.methodLink RJx4a65c 66 yJ7_copyOf_1904c, Cond.static yJ7_copyOf_1904c, Cond.initialized RJ7, Cond.code yJ7_copyOf_1904c cJ7_copyOf_1904c 2 (some (.array (.object "java/lang/Object"))), Cond.methodLink RJ7 86 ⟨"java/lang/Object", "getClass", "()Ljava/lang/Class;"⟩, Cond.selects "[Ljava/lang/Object;" ⟨"java/lang/Object", "getClass", "()Ljava/lang/Class;"⟩ ⟨"java/lang/Object", "getClass", "()Ljava/lang/Class;"⟩, Cond.instanceMethod ⟨"java/lang/Object", "getClass", "()Ljava/lang/Class;"⟩, Cond.native ⟨"java/lang/Object", "getClass", "()Ljava/lang/Class;"⟩]
def wsJx4a65c_grow_92f84_r2 : List Cond := [Cond.methodLink RJ7 300 yJ7_copyOf_6403c, Cond.static yJ7_copyOf_6403c, Cond.code yJ7_copyOf_6403c cJ7_copyOf_6403c 4 (some (.array (.object "java/lang/Object"))), Cond.classLink RJ7 110 "[Ljava/lang/Object;", Cond.classLink RJ7 2 "java/lang/Object", Cond.methodLink RJ7 304 Lib.Math.min.name, Cond.static Lib.Math.min.name, Cond.code Lib.Math.min.name Lib.Math.min.code 2 (some .int), Cond.methodLink RJ7 150 arraycopyName, Cond.native arraycopyName, Cond.static arraycopyName, Cond.initialized "java/lang/System"]
def wsJx4a65c_grow_92f84 : List Cond := .code yJx4a65c_grow_92f84 cJx4a65c_grow_92f84 4 (some (.array (.object "java/lang/Object"))) :: ((wsJx4a65c_grow_92f84_r1 ++ wsJx4a65c_grow_92f84_r2) ++ wsJx4a65c0)
def wsJx4a65c_grow_d5877_r1 : List Cond := [Cond.fieldLink RJx4a65c 48 "java/util/ArrayList" "size" "I", Cond.methodLink RJx4a65c 69 yJx4a65c_grow_92f84, Cond.instanceMethod yJx4a65c_grow_92f84, Cond.selects RJx4a65c yJx4a65c_grow_92f84 yJx4a65c_grow_92f84, Cond.initialized RJx4a65c, Cond.code yJx4a65c_grow_92f84 cJx4a65c_grow_92f84 4 (some (.array (.object "java/lang/Object"))), Cond.fieldLink RJx4a65c 9 "java/util/ArrayList" "elementData" "[Ljava/lang/Object;", Cond.fieldLink RJx4a65c 39 "java/util/ArrayList" "DEFAULTCAPACITY_EMPTY_ELEMENTDATA" "[Ljava/lang/Object;", Cond.methodLink RJx4a65c 79 Lib.Math.max.name, Cond.static Lib.Math.max.name, Cond.initialized "java/lang/Math", Cond.code Lib.Math.max.name Lib.Math.max.code 2 (some .int), Cond.classLink RJx4a65c 7 "java/lang/Object", Cond.methodLink RJx4a65c 73 yJ8_newLength_cabcc, Cond.static yJ8_newLength_cabcc, Cond.initialized RJ8, Cond.code yJ8_newLength_cabcc cJ8_newLength_cabcc 4 (some .int), Cond.methodLink RJ8 194 Lib.Math.max.name, Cond.constant RJ8 200 (2147483639), Cond.methodLink RJ8 201 yJ8_hugeLength_7cf53, Cond.static yJ8_hugeLength_7cf53, Cond.code yJ8_hugeLength_7cf53 cJ8_hugeLength_7cf53 3 (some .int), Cond.methodLink RJx4a65c 66 yJ7_copyOf_1904c, Cond.static yJ7_copyOf_1904c]
def wsJx4a65c_grow_d5877_r2 : List Cond := [Cond.initialized RJ7, Cond.code yJ7_copyOf_1904c cJ7_copyOf_1904c 2 (some (.array (.object "java/lang/Object"))), Cond.methodLink RJ7 86 ⟨"java/lang/Object", "getClass", "()Ljava/lang/Class;"⟩, Cond.selects "[Ljava/lang/Object;" ⟨"java/lang/Object", "getClass", "()Ljava/lang/Class;"⟩ ⟨"java/lang/Object", "getClass", "()Ljava/lang/Class;"⟩, Cond.instanceMethod ⟨"java/lang/Object", "getClass", "()Ljava/lang/Class;"⟩, Cond.native ⟨"java/lang/Object", "getClass", "()Ljava/lang/Class;"⟩, Cond.methodLink RJ7 300 yJ7_copyOf_6403c, Cond.static yJ7_copyOf_6403c, Cond.code yJ7_copyOf_6403c cJ7_copyOf_6403c 4 (some (.array (.object "java/lang/Object"))), Cond.classLink RJ7 110 "[Ljava/lang/Object;", Cond.classLink RJ7 2 "java/lang/Object", Cond.methodLink RJ7 304 Lib.Math.min.name, Cond.static Lib.Math.min.name, Cond.code Lib.Math.min.name Lib.Math.min.code 2 (some .int), Cond.methodLink RJ7 150 arraycopyName, Cond.native arraycopyName, Cond.static arraycopyName, Cond.initialized "java/lang/System"]
def wsJx4a65c_grow_d5877 : List Cond := .code yJx4a65c_grow_d5877 cJx4a65c_grow_d5877 1 (some (.array (.object "java/lang/Object"))) :: ((wsJx4a65c_grow_d5877_r1 ++ wsJx4a65c_grow_d5877_r2) ++ wsJx4a65c0)
def wsJx4a65c_add_72be8_r1 : List Cond := [Cond.fieldLink RJx4a65c 48 "java/util/ArrayList" "size" "I", Cond.methodLink RJx4a65c 129 yJx4a65c_grow_d5877, Cond.instanceMethod yJx4a65c_grow_d5877, Cond.selects RJx4a65c yJx4a65c_grow_d5877 yJx4a65c_grow_d5877, Cond.initialized RJx4a65c, Cond.code yJx4a65c_grow_d5877 cJx4a65c_grow_d5877 1 (some (.array (.object "java/lang/Object"))), Cond.methodLink RJx4a65c 69 yJx4a65c_grow_92f84, Cond.instanceMethod yJx4a65c_grow_92f84, Cond.selects RJx4a65c yJx4a65c_grow_92f84 yJx4a65c_grow_92f84, Cond.code yJx4a65c_grow_92f84 cJx4a65c_grow_92f84 4 (some (.array (.object "java/lang/Object"))), Cond.fieldLink RJx4a65c 9 "java/util/ArrayList" "elementData" "[Ljava/lang/Object;", Cond.fieldLink RJx4a65c 39 "java/util/ArrayList" "DEFAULTCAPACITY_EMPTY_ELEMENTDATA" "[Ljava/lang/Object;", Cond.methodLink RJx4a65c 79 Lib.Math.max.name, Cond.static Lib.Math.max.name, Cond.initialized "java/lang/Math", Cond.code Lib.Math.max.name Lib.Math.max.code 2 (some .int), Cond.classLink RJx4a65c 7 "java/lang/Object", Cond.methodLink RJx4a65c 73 yJ8_newLength_cabcc, Cond.static yJ8_newLength_cabcc, Cond.initialized RJ8, Cond.code yJ8_newLength_cabcc cJ8_newLength_cabcc 4 (some .int), Cond.methodLink RJ8 194 Lib.Math.max.name, Cond.constant RJ8 200 (2147483639), Cond.methodLink RJ8 201 yJ8_hugeLength_7cf53]
def wsJx4a65c_add_72be8_r2 : List Cond := [Cond.static yJ8_hugeLength_7cf53, Cond.code yJ8_hugeLength_7cf53 cJ8_hugeLength_7cf53 3 (some .int), Cond.methodLink RJx4a65c 66 yJ7_copyOf_1904c, Cond.static yJ7_copyOf_1904c, Cond.initialized RJ7, Cond.code yJ7_copyOf_1904c cJ7_copyOf_1904c 2 (some (.array (.object "java/lang/Object"))), Cond.methodLink RJ7 86 ⟨"java/lang/Object", "getClass", "()Ljava/lang/Class;"⟩, Cond.selects "[Ljava/lang/Object;" ⟨"java/lang/Object", "getClass", "()Ljava/lang/Class;"⟩ ⟨"java/lang/Object", "getClass", "()Ljava/lang/Class;"⟩, Cond.instanceMethod ⟨"java/lang/Object", "getClass", "()Ljava/lang/Class;"⟩, Cond.native ⟨"java/lang/Object", "getClass", "()Ljava/lang/Class;"⟩, Cond.methodLink RJ7 300 yJ7_copyOf_6403c, Cond.static yJ7_copyOf_6403c, Cond.code yJ7_copyOf_6403c cJ7_copyOf_6403c 4 (some (.array (.object "java/lang/Object"))), Cond.classLink RJ7 110 "[Ljava/lang/Object;", Cond.classLink RJ7 2 "java/lang/Object", Cond.methodLink RJ7 304 Lib.Math.min.name, Cond.static Lib.Math.min.name, Cond.code Lib.Math.min.name Lib.Math.min.code 2 (some .int), Cond.methodLink RJ7 150 arraycopyName, Cond.native arraycopyName, Cond.static arraycopyName, Cond.initialized "java/lang/System"]
def wsJx4a65c_add_72be8 : List Cond := .code yJx4a65c_add_72be8 cJx4a65c_add_72be8 4 none :: ((wsJx4a65c_add_72be8_r1 ++ wsJx4a65c_add_72be8_r2) ++ wsJx4a65c0)
def wsJx4a65c_add_9ea2d_r1 : List Cond := [Cond.fieldLink RJx4a65c 63 "java/util/ArrayList" "modCount" "I", Cond.sameField "java/util/ArrayList" "java/util/AbstractList" "modCount" "I", Cond.fieldLink RJx4a65c 9 "java/util/ArrayList" "elementData" "[Ljava/lang/Object;", Cond.fieldLink RJx4a65c 48 "java/util/ArrayList" "size" "I", Cond.methodLink RJx4a65c 131 yJx4a65c_add_72be8, Cond.instanceMethod yJx4a65c_add_72be8, Cond.selects RJx4a65c yJx4a65c_add_72be8 yJx4a65c_add_72be8, Cond.initialized RJx4a65c, Cond.code yJx4a65c_add_72be8 cJx4a65c_add_72be8 4 none, Cond.methodLink RJx4a65c 129 yJx4a65c_grow_d5877, Cond.instanceMethod yJx4a65c_grow_d5877, Cond.selects RJx4a65c yJx4a65c_grow_d5877 yJx4a65c_grow_d5877, Cond.code yJx4a65c_grow_d5877 cJx4a65c_grow_d5877 1 (some (.array (.object "java/lang/Object"))), Cond.methodLink RJx4a65c 69 yJx4a65c_grow_92f84, Cond.instanceMethod yJx4a65c_grow_92f84, Cond.selects RJx4a65c yJx4a65c_grow_92f84 yJx4a65c_grow_92f84, Cond.code yJx4a65c_grow_92f84 cJx4a65c_grow_92f84 4 (some (.array (.object "java/lang/Object"))), Cond.fieldLink RJx4a65c 39 "java/util/ArrayList" "DEFAULTCAPACITY_EMPTY_ELEMENTDATA" "[Ljava/lang/Object;", Cond.methodLink RJx4a65c 79 Lib.Math.max.name, Cond.static Lib.Math.max.name, Cond.initialized "java/lang/Math", Cond.code Lib.Math.max.name Lib.Math.max.code 2 (some .int), Cond.classLink RJx4a65c 7 "java/lang/Object", Cond.methodLink RJx4a65c 73 yJ8_newLength_cabcc]
def wsJx4a65c_add_9ea2d_r2 : List Cond := [Cond.static yJ8_newLength_cabcc, Cond.initialized RJ8, Cond.code yJ8_newLength_cabcc cJ8_newLength_cabcc 4 (some .int), Cond.methodLink RJ8 194 Lib.Math.max.name, Cond.constant RJ8 200 (2147483639), Cond.methodLink RJ8 201 yJ8_hugeLength_7cf53, Cond.static yJ8_hugeLength_7cf53, Cond.code yJ8_hugeLength_7cf53 cJ8_hugeLength_7cf53 3 (some .int), Cond.methodLink RJx4a65c 66 yJ7_copyOf_1904c, Cond.static yJ7_copyOf_1904c, Cond.initialized RJ7, Cond.code yJ7_copyOf_1904c cJ7_copyOf_1904c 2 (some (.array (.object "java/lang/Object"))), Cond.methodLink RJ7 86 ⟨"java/lang/Object", "getClass", "()Ljava/lang/Class;"⟩, Cond.selects "[Ljava/lang/Object;" ⟨"java/lang/Object", "getClass", "()Ljava/lang/Class;"⟩ ⟨"java/lang/Object", "getClass", "()Ljava/lang/Class;"⟩, Cond.instanceMethod ⟨"java/lang/Object", "getClass", "()Ljava/lang/Class;"⟩, Cond.native ⟨"java/lang/Object", "getClass", "()Ljava/lang/Class;"⟩, Cond.methodLink RJ7 300 yJ7_copyOf_6403c, Cond.static yJ7_copyOf_6403c, Cond.code yJ7_copyOf_6403c cJ7_copyOf_6403c 4 (some (.array (.object "java/lang/Object"))), Cond.classLink RJ7 110 "[Ljava/lang/Object;", Cond.classLink RJ7 2 "java/lang/Object", Cond.methodLink RJ7 304 Lib.Math.min.name, Cond.static Lib.Math.min.name, Cond.code Lib.Math.min.name Lib.Math.min.code 2 (some .int)]
def wsJx4a65c_add_9ea2d_r3 : List Cond := [Cond.methodLink RJ7 150 arraycopyName, Cond.native arraycopyName, Cond.static arraycopyName, Cond.initialized "java/lang/System"]
def wsJx4a65c_add_9ea2d : List Cond := .code yJx4a65c_add_9ea2d cJx4a65c_add_9ea2d 2 (some .boolean) :: ((wsJx4a65c_add_9ea2d_r1 ++ (wsJx4a65c_add_9ea2d_r2 ++ wsJx4a65c_add_9ea2d_r3)) ++ wsJx4a65c0)
def wsX4_keepRow_r1 : List Cond := [Cond.fieldLink RX4 26 "SpanRows" "keptRows" "Ljava/util/ArrayList;", Cond.classLink RX4 158 RX0, Cond.instantiable RX0 4, Cond.initialized RX0, Cond.fieldLink RX4 19 "SpanRows" "row" "LSpanRows$Row;", Cond.fieldLink RX4 10 "SpanRows" "names" "LSpanRows$Names;", Cond.methodLink RX4 109 yJx4a65c_size_8abf5, Cond.instanceMethod yJx4a65c_size_8abf5, Cond.selects RJx4a65c yJx4a65c_size_8abf5 yJx4a65c_size_8abf5, Cond.initialized RJx4a65c, Cond.code yJx4a65c_size_8abf5 cJx4a65c_size_8abf5 1 (some .int), Cond.fieldLink RJx4a65c 48 "java/util/ArrayList" "size" "I", Cond.methodLink RX4 194 yX0_init, Cond.instanceMethod yX0_init, Cond.code yX0_init cX0_init 5 none, Cond.methodLink RX0 3 objectInit, Cond.instanceMethod objectInit, Cond.code objectInit ⟨#[0xb1]⟩ 1 none, Cond.fieldLink RX0 9 "SpanRows$KeptRow" "kind" "I", Cond.fieldLink RX0 15 "SpanRows$KeptRow" "k" "J", Cond.fieldLink RX0 25 "SpanRows$Row" "length" "I", Cond.fieldLink RX0 34 "SpanRows$KeptRow" "places" "[I", Cond.fieldLink RX0 42 "SpanRows$KeptRow" "factors" "[J", Cond.methodLink RX0 28 yJ7_copyOf_59c91]
def wsX4_keepRow_r2 : List Cond := [Cond.static yJ7_copyOf_59c91, Cond.initialized RJ7, Cond.code yJ7_copyOf_59c91 cJ7_copyOf_59c91 3 (some (.array .int)), Cond.methodLink RJ7 316 ⟨"[I", "clone", "()Ljava/lang/Object;"⟩, Cond.sameMethod "[I" "java/lang/Object" "clone" "()Ljava/lang/Object;", Cond.native ⟨"java/lang/Object", "clone", "()Ljava/lang/Object;"⟩, Cond.instanceMethod ⟨"java/lang/Object", "clone", "()Ljava/lang/Object;"⟩, Cond.selects "[I" ⟨"[I", "clone", "()Ljava/lang/Object;"⟩ ⟨"java/lang/Object", "clone", "()Ljava/lang/Object;"⟩, Cond.classLink RJ7 317 "[I", Cond.arrayClass .int, Cond.methodLink RJ7 304 Lib.Math.min.name, Cond.static Lib.Math.min.name, Cond.initialized "java/lang/Math", Cond.code Lib.Math.min.name Lib.Math.min.code 2 (some .int), Cond.methodLink RJ7 150 arraycopyName, Cond.native arraycopyName, Cond.static arraycopyName, Cond.initialized "java/lang/System", Cond.methodLink RX0 39 yJ7_copyOf_c38d5, Cond.static yJ7_copyOf_c38d5, Cond.code yJ7_copyOf_c38d5 cJ7_copyOf_c38d5 3 (some (.array .long)), Cond.methodLink RJ7 319 ⟨"[J", "clone", "()Ljava/lang/Object;"⟩, Cond.sameMethod "[J" "java/lang/Object" "clone" "()Ljava/lang/Object;", Cond.selects "[J" ⟨"[J", "clone", "()Ljava/lang/Object;"⟩ ⟨"java/lang/Object", "clone", "()Ljava/lang/Object;"⟩]
def wsX4_keepRow_r3 : List Cond := [Cond.classLink RJ7 320 "[J", Cond.arrayClass .long, Cond.methodLink RX4 166 yX0_countFree, Cond.instanceMethod yX0_countFree, Cond.selects RX0 yX0_countFree yX0_countFree, Cond.code yX0_countFree cX0_countFree 4 (some .int), Cond.methodLink RX0 43 yX1_isKnown, Cond.instanceMethod yX1_isKnown, Cond.selects RX1 yX1_isKnown yX1_isKnown, Cond.initialized RX1, Cond.code yX1_isKnown cX1_isKnown 2 (some .boolean), Cond.fieldLink RX1 15 "SpanRows$Names" "known" "[Z", Cond.fieldLink RX1 9 "SpanRows$Names" "least" "[I", Cond.methodLink RX4 190 yX0_isSo, Cond.instanceMethod yX0_isSo, Cond.selects RX0 yX0_isSo yX0_isSo, Cond.code yX0_isSo cX0_isSo 2 (some .boolean), Cond.methodLink RX0 53 yX0_sum, Cond.instanceMethod yX0_sum, Cond.selects RX0 yX0_sum yX0_sum, Cond.code yX0_sum cX0_sum 5 (some .long), Cond.methodLink RX0 61 yX1_numberOf, Cond.instanceMethod yX1_numberOf, Cond.selects RX1 yX1_numberOf yX1_numberOf]
def wsX4_keepRow_r4 : List Cond := [Cond.code yX1_numberOf cX1_numberOf 2 (some .long), Cond.fieldLink RX1 19 "SpanRows$Names" "number" "[J", Cond.methodLink RX0 57 yX0_allUnlike, Cond.instanceMethod yX0_allUnlike, Cond.selects RX0 yX0_allUnlike yX0_allUnlike, Cond.code yX0_allUnlike cX0_allUnlike 6 (some .boolean), Cond.methodLink RX4 111 yJx4a65c_add_9ea2d, Cond.instanceMethod yJx4a65c_add_9ea2d, Cond.selects RJx4a65c yJx4a65c_add_9ea2d yJx4a65c_add_9ea2d, Cond.code yJx4a65c_add_9ea2d cJx4a65c_add_9ea2d 2 (some .boolean), Cond.fieldLink RJx4a65c 63 "java/util/ArrayList" "modCount" "I", Cond.sameField "java/util/ArrayList" "java/util/AbstractList" "modCount" "I", Cond.fieldLink RJx4a65c 9 "java/util/ArrayList" "elementData" "[Ljava/lang/Object;", Cond.methodLink RJx4a65c 131 yJx4a65c_add_72be8, Cond.instanceMethod yJx4a65c_add_72be8, Cond.selects RJx4a65c yJx4a65c_add_72be8 yJx4a65c_add_72be8, Cond.code yJx4a65c_add_72be8 cJx4a65c_add_72be8 4 none, Cond.methodLink RJx4a65c 129 yJx4a65c_grow_d5877, Cond.instanceMethod yJx4a65c_grow_d5877, Cond.selects RJx4a65c yJx4a65c_grow_d5877 yJx4a65c_grow_d5877, Cond.code yJx4a65c_grow_d5877 cJx4a65c_grow_d5877 1 (some (.array (.object "java/lang/Object"))), Cond.methodLink RJx4a65c 69 yJx4a65c_grow_92f84, Cond.instanceMethod yJx4a65c_grow_92f84, Cond.selects RJx4a65c yJx4a65c_grow_92f84 yJx4a65c_grow_92f84]
def wsX4_keepRow_r5 : List Cond := [Cond.code yJx4a65c_grow_92f84 cJx4a65c_grow_92f84 4 (some (.array (.object "java/lang/Object"))), Cond.fieldLink RJx4a65c 39 "java/util/ArrayList" "DEFAULTCAPACITY_EMPTY_ELEMENTDATA" "[Ljava/lang/Object;", Cond.methodLink RJx4a65c 79 Lib.Math.max.name, Cond.static Lib.Math.max.name, Cond.code Lib.Math.max.name Lib.Math.max.code 2 (some .int), Cond.classLink RJx4a65c 7 "java/lang/Object", Cond.methodLink RJx4a65c 73 yJ8_newLength_cabcc, Cond.static yJ8_newLength_cabcc, Cond.initialized RJ8, Cond.code yJ8_newLength_cabcc cJ8_newLength_cabcc 4 (some .int), Cond.methodLink RJ8 194 Lib.Math.max.name, Cond.constant RJ8 200 (2147483639), Cond.methodLink RJ8 201 yJ8_hugeLength_7cf53, Cond.static yJ8_hugeLength_7cf53, Cond.code yJ8_hugeLength_7cf53 cJ8_hugeLength_7cf53 3 (some .int), Cond.methodLink RJx4a65c 66 yJ7_copyOf_1904c, Cond.static yJ7_copyOf_1904c, Cond.code yJ7_copyOf_1904c cJ7_copyOf_1904c 2 (some (.array (.object "java/lang/Object"))), Cond.methodLink RJ7 86 ⟨"java/lang/Object", "getClass", "()Ljava/lang/Class;"⟩, Cond.selects "[Ljava/lang/Object;" ⟨"java/lang/Object", "getClass", "()Ljava/lang/Class;"⟩ ⟨"java/lang/Object", "getClass", "()Ljava/lang/Class;"⟩, Cond.instanceMethod ⟨"java/lang/Object", "getClass", "()Ljava/lang/Class;"⟩, Cond.native ⟨"java/lang/Object", "getClass", "()Ljava/lang/Class;"⟩, Cond.methodLink RJ7 300 yJ7_copyOf_6403c, Cond.static yJ7_copyOf_6403c]
def wsX4_keepRow_r6 : List Cond := [Cond.code yJ7_copyOf_6403c cJ7_copyOf_6403c 4 (some (.array (.object "java/lang/Object"))), Cond.classLink RJ7 110 "[Ljava/lang/Object;", Cond.classLink RJ7 2 "java/lang/Object"]
def wsX4_keepRow : List Cond := .code yX4_keepRow cX4_keepRow 5 (some .int) :: ((wsX4_keepRow_r1 ++ (wsX4_keepRow_r2 ++ (wsX4_keepRow_r3 ++ (wsX4_keepRow_r4 ++ (wsX4_keepRow_r5 ++ wsX4_keepRow_r6))))) ++ wsX40 ++ wsX00 ++ wsJx4a65c0 ++ wsX20 ++ wsX10)
def wsX4_keep_r1 : List Cond := [Cond.fieldLink RX4 33 "SpanRows" "search" "LSpanRows$Search;", Cond.fieldLink RX4 19 "SpanRows" "row" "LSpanRows$Row;", Cond.fieldLink RX4 78 "SpanRows$Row" "length" "I", Cond.methodLink RX4 51 yX3_endWays, Cond.instanceMethod yX3_endWays, Cond.selects RX3 yX3_endWays yX3_endWays, Cond.initialized RX3, Cond.code yX3_endWays cX3_endWays 1 none, Cond.fieldLink RX3 22 "SpanRows$Search" "freeCount" "I", Cond.fieldLink RX3 26 "SpanRows$Search" "wayCount" "I", Cond.methodLink RX4 85 yX4_keepRow, Cond.instanceMethod yX4_keepRow, Cond.selects RX4 yX4_keepRow yX4_keepRow, Cond.initialized RX4, Cond.code yX4_keepRow cX4_keepRow 5 (some .int), Cond.fieldLink RX4 26 "SpanRows" "keptRows" "Ljava/util/ArrayList;", Cond.classLink RX4 158 RX0, Cond.instantiable RX0 4, Cond.initialized RX0, Cond.fieldLink RX4 10 "SpanRows" "names" "LSpanRows$Names;", Cond.methodLink RX4 109 yJx4a65c_size_8abf5, Cond.instanceMethod yJx4a65c_size_8abf5, Cond.selects RJx4a65c yJx4a65c_size_8abf5 yJx4a65c_size_8abf5, Cond.initialized RJx4a65c]
def wsX4_keep_r2 : List Cond := [Cond.code yJx4a65c_size_8abf5 cJx4a65c_size_8abf5 1 (some .int), Cond.fieldLink RJx4a65c 48 "java/util/ArrayList" "size" "I", Cond.methodLink RX4 194 yX0_init, Cond.instanceMethod yX0_init, Cond.code yX0_init cX0_init 5 none, Cond.methodLink RX0 3 objectInit, Cond.instanceMethod objectInit, Cond.code objectInit ⟨#[0xb1]⟩ 1 none, Cond.fieldLink RX0 9 "SpanRows$KeptRow" "kind" "I", Cond.fieldLink RX0 15 "SpanRows$KeptRow" "k" "J", Cond.fieldLink RX0 25 "SpanRows$Row" "length" "I", Cond.fieldLink RX0 34 "SpanRows$KeptRow" "places" "[I", Cond.fieldLink RX0 42 "SpanRows$KeptRow" "factors" "[J", Cond.methodLink RX0 28 yJ7_copyOf_59c91, Cond.static yJ7_copyOf_59c91, Cond.initialized RJ7, Cond.code yJ7_copyOf_59c91 cJ7_copyOf_59c91 3 (some (.array .int)), Cond.methodLink RJ7 316 ⟨"[I", "clone", "()Ljava/lang/Object;"⟩, Cond.sameMethod "[I" "java/lang/Object" "clone" "()Ljava/lang/Object;", Cond.native ⟨"java/lang/Object", "clone", "()Ljava/lang/Object;"⟩, Cond.instanceMethod ⟨"java/lang/Object", "clone", "()Ljava/lang/Object;"⟩, Cond.selects "[I" ⟨"[I", "clone", "()Ljava/lang/Object;"⟩ ⟨"java/lang/Object", "clone", "()Ljava/lang/Object;"⟩, Cond.classLink RJ7 317 "[I", Cond.arrayClass .int]
def wsX4_keep_r3 : List Cond := [Cond.methodLink RJ7 304 Lib.Math.min.name, Cond.static Lib.Math.min.name, Cond.initialized "java/lang/Math", Cond.code Lib.Math.min.name Lib.Math.min.code 2 (some .int), Cond.methodLink RJ7 150 arraycopyName, Cond.native arraycopyName, Cond.static arraycopyName, Cond.initialized "java/lang/System", Cond.methodLink RX0 39 yJ7_copyOf_c38d5, Cond.static yJ7_copyOf_c38d5, Cond.code yJ7_copyOf_c38d5 cJ7_copyOf_c38d5 3 (some (.array .long)), Cond.methodLink RJ7 319 ⟨"[J", "clone", "()Ljava/lang/Object;"⟩, Cond.sameMethod "[J" "java/lang/Object" "clone" "()Ljava/lang/Object;", Cond.selects "[J" ⟨"[J", "clone", "()Ljava/lang/Object;"⟩ ⟨"java/lang/Object", "clone", "()Ljava/lang/Object;"⟩, Cond.classLink RJ7 320 "[J", Cond.arrayClass .long, Cond.methodLink RX4 166 yX0_countFree, Cond.instanceMethod yX0_countFree, Cond.selects RX0 yX0_countFree yX0_countFree, Cond.code yX0_countFree cX0_countFree 4 (some .int), Cond.methodLink RX0 43 yX1_isKnown, Cond.instanceMethod yX1_isKnown, Cond.selects RX1 yX1_isKnown yX1_isKnown, Cond.initialized RX1]
def wsX4_keep_r4 : List Cond := [Cond.code yX1_isKnown cX1_isKnown 2 (some .boolean), Cond.fieldLink RX1 15 "SpanRows$Names" "known" "[Z", Cond.fieldLink RX1 9 "SpanRows$Names" "least" "[I", Cond.methodLink RX4 190 yX0_isSo, Cond.instanceMethod yX0_isSo, Cond.selects RX0 yX0_isSo yX0_isSo, Cond.code yX0_isSo cX0_isSo 2 (some .boolean), Cond.methodLink RX0 53 yX0_sum, Cond.instanceMethod yX0_sum, Cond.selects RX0 yX0_sum yX0_sum, Cond.code yX0_sum cX0_sum 5 (some .long), Cond.methodLink RX0 61 yX1_numberOf, Cond.instanceMethod yX1_numberOf, Cond.selects RX1 yX1_numberOf yX1_numberOf, Cond.code yX1_numberOf cX1_numberOf 2 (some .long), Cond.fieldLink RX1 19 "SpanRows$Names" "number" "[J", Cond.methodLink RX0 57 yX0_allUnlike, Cond.instanceMethod yX0_allUnlike, Cond.selects RX0 yX0_allUnlike yX0_allUnlike, Cond.code yX0_allUnlike cX0_allUnlike 6 (some .boolean), Cond.methodLink RX4 111 yJx4a65c_add_9ea2d, Cond.instanceMethod yJx4a65c_add_9ea2d, Cond.selects RJx4a65c yJx4a65c_add_9ea2d yJx4a65c_add_9ea2d, Cond.code yJx4a65c_add_9ea2d cJx4a65c_add_9ea2d 2 (some .boolean)]
def wsX4_keep_r5 : List Cond := [Cond.fieldLink RJx4a65c 63 "java/util/ArrayList" "modCount" "I", Cond.sameField "java/util/ArrayList" "java/util/AbstractList" "modCount" "I", Cond.fieldLink RJx4a65c 9 "java/util/ArrayList" "elementData" "[Ljava/lang/Object;", Cond.methodLink RJx4a65c 131 yJx4a65c_add_72be8, Cond.instanceMethod yJx4a65c_add_72be8, Cond.selects RJx4a65c yJx4a65c_add_72be8 yJx4a65c_add_72be8, Cond.code yJx4a65c_add_72be8 cJx4a65c_add_72be8 4 none, Cond.methodLink RJx4a65c 129 yJx4a65c_grow_d5877, Cond.instanceMethod yJx4a65c_grow_d5877, Cond.selects RJx4a65c yJx4a65c_grow_d5877 yJx4a65c_grow_d5877, Cond.code yJx4a65c_grow_d5877 cJx4a65c_grow_d5877 1 (some (.array (.object "java/lang/Object"))), Cond.methodLink RJx4a65c 69 yJx4a65c_grow_92f84, Cond.instanceMethod yJx4a65c_grow_92f84, Cond.selects RJx4a65c yJx4a65c_grow_92f84 yJx4a65c_grow_92f84, Cond.code yJx4a65c_grow_92f84 cJx4a65c_grow_92f84 4 (some (.array (.object "java/lang/Object"))), Cond.fieldLink RJx4a65c 39 "java/util/ArrayList" "DEFAULTCAPACITY_EMPTY_ELEMENTDATA" "[Ljava/lang/Object;", Cond.methodLink RJx4a65c 79 Lib.Math.max.name, Cond.static Lib.Math.max.name, Cond.code Lib.Math.max.name Lib.Math.max.code 2 (some .int), Cond.classLink RJx4a65c 7 "java/lang/Object", Cond.methodLink RJx4a65c 73 yJ8_newLength_cabcc, Cond.static yJ8_newLength_cabcc, Cond.initialized RJ8, Cond.code yJ8_newLength_cabcc cJ8_newLength_cabcc 4 (some .int)]
def wsX4_keep_r6 : List Cond := [Cond.methodLink RJ8 194 Lib.Math.max.name, Cond.constant RJ8 200 (2147483639), Cond.methodLink RJ8 201 yJ8_hugeLength_7cf53, Cond.static yJ8_hugeLength_7cf53, Cond.code yJ8_hugeLength_7cf53 cJ8_hugeLength_7cf53 3 (some .int), Cond.methodLink RJx4a65c 66 yJ7_copyOf_1904c, Cond.static yJ7_copyOf_1904c, Cond.code yJ7_copyOf_1904c cJ7_copyOf_1904c 2 (some (.array (.object "java/lang/Object"))), Cond.methodLink RJ7 86 ⟨"java/lang/Object", "getClass", "()Ljava/lang/Class;"⟩, Cond.selects "[Ljava/lang/Object;" ⟨"java/lang/Object", "getClass", "()Ljava/lang/Class;"⟩ ⟨"java/lang/Object", "getClass", "()Ljava/lang/Class;"⟩, Cond.instanceMethod ⟨"java/lang/Object", "getClass", "()Ljava/lang/Class;"⟩, Cond.native ⟨"java/lang/Object", "getClass", "()Ljava/lang/Class;"⟩, Cond.methodLink RJ7 300 yJ7_copyOf_6403c, Cond.static yJ7_copyOf_6403c, Cond.code yJ7_copyOf_6403c cJ7_copyOf_6403c 4 (some (.array (.object "java/lang/Object"))), Cond.classLink RJ7 110 "[Ljava/lang/Object;", Cond.classLink RJ7 2 "java/lang/Object"]
def wsX4_keep : List Cond := .code yX4_keep cX4_keep 5 (some .int) :: ((wsX4_keep_r1 ++ (wsX4_keep_r2 ++ (wsX4_keep_r3 ++ (wsX4_keep_r4 ++ (wsX4_keep_r5 ++ wsX4_keep_r6))))) ++ wsX40 ++ wsX20 ++ wsX30 ++ wsX00 ++ wsJx4a65c0 ++ wsX10)
def wsX4_label_r1 : List Cond := [Cond.fieldLink RX4 33 "SpanRows" "search" "LSpanRows$Search;", Cond.fieldLink RX4 19 "SpanRows" "row" "LSpanRows$Row;", Cond.fieldLink RX4 10 "SpanRows" "names" "LSpanRows$Names;", Cond.fieldLink RX4 26 "SpanRows" "keptRows" "Ljava/util/ArrayList;", Cond.fieldLink RX4 78 "SpanRows$Row" "length" "I", Cond.methodLink RX4 89 yX3_run, Cond.instanceMethod yX3_run, Cond.selects RX3 yX3_run yX3_run, Cond.initialized RX3, Cond.code yX3_run cX3_run 5 (some .int), Cond.fieldLink RX3 36 "SpanRows$Search" "tried" "I", Cond.fieldLink RX3 26 "SpanRows$Search" "wayCount" "I", Cond.methodLink RX3 33 yX3_endWays, Cond.instanceMethod yX3_endWays, Cond.selects RX3 yX3_endWays yX3_endWays, Cond.code yX3_endWays cX3_endWays 1 none, Cond.fieldLink RX3 22 "SpanRows$Search" "freeCount" "I", Cond.methodLink RX3 39 yX3_gatherFree, Cond.instanceMethod yX3_gatherFree, Cond.selects RX3 yX3_gatherFree yX3_gatherFree, Cond.code yX3_gatherFree cX3_gatherFree 5 none, Cond.fieldLink RX3 55 "SpanRows$Row" "length" "I", Cond.fieldLink RX3 9 "SpanRows$Search" "free" "[I", Cond.methodLink RX3 63 yX1_leastOf]
def wsX4_label_r2 : List Cond := [Cond.instanceMethod yX1_leastOf, Cond.selects RX1 yX1_leastOf yX1_leastOf, Cond.initialized RX1, Cond.code yX1_leastOf cX1_leastOf 2 (some .int), Cond.fieldLink RX1 9 "SpanRows$Names" "least" "[I", Cond.methodLink RX3 68 yX1_isKnown, Cond.instanceMethod yX1_isKnown, Cond.selects RX1 yX1_isKnown yX1_isKnown, Cond.code yX1_isKnown cX1_isKnown 2 (some .boolean), Cond.fieldLink RX1 15 "SpanRows$Names" "known" "[Z", Cond.methodLink RX3 72 yX3_isFreeName, Cond.instanceMethod yX3_isFreeName, Cond.selects RX3 yX3_isFreeName yX3_isFreeName, Cond.code yX3_isFreeName cX3_isFreeName 2 (some .boolean), Cond.methodLink RX3 29 yX3_levelOf, Cond.instanceMethod yX3_levelOf, Cond.selects RX3 yX3_levelOf yX3_levelOf, Cond.code yX3_levelOf cX3_levelOf 3 (some .int), Cond.methodLink RX3 43 yX3_reasonNotToStart, Cond.instanceMethod yX3_reasonNotToStart, Cond.selects RX3 yX3_reasonNotToStart yX3_reasonNotToStart, Cond.code yX3_reasonNotToStart cX3_reasonNotToStart 3 (some .int), Cond.methodLink RX3 75 yX1_hasSpan, Cond.instanceMethod yX1_hasSpan]
def wsX4_label_r3 : List Cond := [Cond.selects RX1 yX1_hasSpan yX1_hasSpan, Cond.code yX1_hasSpan cX1_hasSpan 2 (some .boolean), Cond.fieldLink RX1 23 "SpanRows$Names" "spanned" "[Z", Cond.methodLink RX3 47 yX3_planLooks, Cond.instanceMethod yX3_planLooks, Cond.selects RX3 yX3_planLooks yX3_planLooks, Cond.code yX3_planLooks cX3_planLooks 4 none, Cond.fieldLink RX3 19 "SpanRows$Search" "lookAt" "[I", Cond.classLink RX3 88 "SpanRows$KeptRow", Cond.methodLink RX3 78 yJx4a65c_size_8abf5, Cond.instanceMethod yJx4a65c_size_8abf5, Cond.selects RJx4a65c yJx4a65c_size_8abf5 yJx4a65c_size_8abf5, Cond.initialized RJx4a65c, Cond.code yJx4a65c_size_8abf5 cJx4a65c_size_8abf5 1 (some .int), Cond.fieldLink RJx4a65c 48 "java/util/ArrayList" "size" "I", Cond.methodLink RX3 84 yJx4a65c_get_915e3, Cond.instanceMethod yJx4a65c_get_915e3, Cond.selects RJx4a65c yJx4a65c_get_915e3 yJx4a65c_get_915e3, Cond.code yJx4a65c_get_915e3 cJx4a65c_get_915e3 2 (some (.object "java/lang/Object")), Cond.methodLink RJx4a65c 118 yJ15_checkIndex_7cf53, Cond.static yJ15_checkIndex_7cf53, Cond.initialized RJ15, Cond.code yJ15_checkIndex_7cf53 cJ15_checkIndex_7cf53 2 (some .int), Cond.methodLink RJ15 105 yJ3_checkIndex_8e157]
def wsX4_label_r4 : List Cond := [Cond.static yJ3_checkIndex_8e157, Cond.initialized RJ3, Cond.code yJ3_checkIndex_8e157 cJ3_checkIndex_8e157 3 (some .int), Cond.methodLink RJx4a65c 123 yJx4a65c_elementData_915e3, Cond.instanceMethod yJx4a65c_elementData_915e3, Cond.selects RJx4a65c yJx4a65c_elementData_915e3 yJx4a65c_elementData_915e3, Cond.code yJx4a65c_elementData_915e3 cJx4a65c_elementData_915e3 2 (some (.object "java/lang/Object")), Cond.fieldLink RJx4a65c 9 "java/util/ArrayList" "elementData" "[Ljava/lang/Object;", Cond.methodLink RX3 90 yX0_levelOfLast, Cond.instanceMethod yX0_levelOfLast, Cond.selects RX0 yX0_levelOfLast yX0_levelOfLast, Cond.initialized RX0, Cond.code yX0_levelOfLast cX0_levelOfLast 6 (some .int), Cond.fieldLink RX0 34 "SpanRows$KeptRow" "places" "[I", Cond.methodLink RX0 70 Lib.Math.max.name, Cond.static Lib.Math.max.name, Cond.initialized "java/lang/Math", Cond.code Lib.Math.max.name Lib.Math.max.code 2 (some .int), Cond.methodLink RX0 43 yX1_isKnown, Cond.methodLink RX0 49 yX1_leastOf, Cond.methodLink RX0 65 yX3_levelOf, Cond.methodLink RX3 51 yX3_tryLevel, Cond.instanceMethod yX3_tryLevel, Cond.selects RX3 yX3_tryLevel yX3_tryLevel]
def wsX4_label_r5 : List Cond := [Cond.code yX3_tryLevel cX3_tryLevel 11 (some .int), Cond.methodLink RX3 94 yX3_addWay, Cond.instanceMethod yX3_addWay, Cond.selects RX3 yX3_addWay yX3_addWay, Cond.code yX3_addWay cX3_addWay 3 (some .int), Cond.fieldLink RX3 15 "SpanRows$Search" "ways" "[J", Cond.methodLink RX3 120 yX1_numberOf, Cond.instanceMethod yX1_numberOf, Cond.selects RX1 yX1_numberOf yX1_numberOf, Cond.code yX1_numberOf cX1_numberOf 2 (some .long), Cond.fieldLink RX1 19 "SpanRows$Names" "number" "[J", Cond.methodLink RX3 97 yX1_lowOf, Cond.instanceMethod yX1_lowOf, Cond.selects RX1 yX1_lowOf yX1_lowOf, Cond.code yX1_lowOf cX1_lowOf 2 (some .long), Cond.fieldLink RX1 26 "SpanRows$Names" "low" "[J", Cond.methodLink RX3 101 yX1_highOf, Cond.instanceMethod yX1_highOf, Cond.selects RX1 yX1_highOf yX1_highOf, Cond.code yX1_highOf cX1_highOf 2 (some .long), Cond.fieldLink RX1 29 "SpanRows$Names" "high" "[J", Cond.methodLink RX3 104 yX1_setNumber, Cond.instanceMethod yX1_setNumber, Cond.selects RX1 yX1_setNumber yX1_setNumber]
def wsX4_label_r6 : List Cond := [Cond.code yX1_setNumber cX1_setNumber 4 none, Cond.methodLink RX3 108 yX3_isGood, Cond.instanceMethod yX3_isGood, Cond.selects RX3 yX3_isGood yX3_isGood, Cond.code yX3_isGood cX3_isGood 5 (some .boolean), Cond.methodLink RX3 116 yX0_isSo, Cond.instanceMethod yX0_isSo, Cond.selects RX0 yX0_isSo yX0_isSo, Cond.code yX0_isSo cX0_isSo 2 (some .boolean), Cond.fieldLink RX0 9 "SpanRows$KeptRow" "kind" "I", Cond.fieldLink RX0 15 "SpanRows$KeptRow" "k" "J", Cond.methodLink RX0 53 yX0_sum, Cond.instanceMethod yX0_sum, Cond.selects RX0 yX0_sum yX0_sum, Cond.code yX0_sum cX0_sum 5 (some .long), Cond.fieldLink RX0 42 "SpanRows$KeptRow" "factors" "[J", Cond.methodLink RX0 61 yX1_numberOf, Cond.methodLink RX0 57 yX0_allUnlike, Cond.instanceMethod yX0_allUnlike, Cond.selects RX0 yX0_allUnlike yX0_allUnlike, Cond.code yX0_allUnlike cX0_allUnlike 6 (some .boolean), Cond.methodLink RX3 112 yX1_unsetNumber, Cond.instanceMethod yX1_unsetNumber, Cond.selects RX1 yX1_unsetNumber yX1_unsetNumber]
def wsX4_label_r7 : List Cond := [Cond.code yX1_unsetNumber cX1_unsetNumber 2 none]
def wsX4_label : List Cond := .code yX4_label cX4_label 2 (some .int) :: ((wsX4_label_r1 ++ (wsX4_label_r2 ++ (wsX4_label_r3 ++ (wsX4_label_r4 ++ (wsX4_label_r5 ++ (wsX4_label_r6 ++ wsX4_label_r7)))))) ++ wsX40 ++ wsX20 ++ wsX30 ++ wsX10 ++ wsJx4a65c0 ++ wsX00)
def wsX4_way : List Cond := .code yX4_way cX4_way 3 (some .long) :: ([.fieldLink RX4 33 "SpanRows" "search" "LSpanRows$Search;", .fieldLink RX4 96 "SpanRows$Search" "freeCount" "I", .methodLink RX4 93 yX3_hasWay, .instanceMethod yX3_hasWay, .selects RX3 yX3_hasWay yX3_hasWay, .initialized RX3, .code yX3_hasWay cX3_hasWay 2 (some .boolean), .fieldLink RX3 26 "SpanRows$Search" "wayCount" "I", .methodLink RX4 99 yX3_numberIn, .instanceMethod yX3_numberIn, .selects RX3 yX3_numberIn yX3_numberIn, .code yX3_numberIn cX3_numberIn 3 (some .long), .fieldLink RX3 15 "SpanRows$Search" "ways" "[J"] ++ wsX40 ++ wsX30)
def wsX4_take_r1 : List Cond := [Cond.fieldLink RX4 33 "SpanRows" "search" "LSpanRows$Search;", Cond.fieldLink RX4 96 "SpanRows$Search" "freeCount" "I", Cond.fieldLink RX4 10 "SpanRows" "names" "LSpanRows$Names;", Cond.fieldLink RX4 103 "SpanRows$Search" "free" "[I", Cond.methodLink RX4 93 yX3_hasWay, Cond.instanceMethod yX3_hasWay, Cond.selects RX3 yX3_hasWay yX3_hasWay, Cond.initialized RX3, Cond.code yX3_hasWay cX3_hasWay 2 (some .boolean), Cond.fieldLink RX3 26 "SpanRows$Search" "wayCount" "I", Cond.methodLink RX4 99 yX3_numberIn, Cond.instanceMethod yX3_numberIn, Cond.selects RX3 yX3_numberIn yX3_numberIn, Cond.code yX3_numberIn cX3_numberIn 3 (some .long), Cond.fieldLink RX3 15 "SpanRows$Search" "ways" "[J", Cond.methodLink RX4 106 yX1_setNumber, Cond.instanceMethod yX1_setNumber, Cond.selects RX1 yX1_setNumber yX1_setNumber, Cond.initialized RX1, Cond.code yX1_setNumber cX1_setNumber 4 none, Cond.fieldLink RX1 15 "SpanRows$Names" "known" "[Z", Cond.fieldLink RX1 9 "SpanRows$Names" "least" "[I", Cond.fieldLink RX1 19 "SpanRows$Names" "number" "[J", Cond.methodLink RX4 51 yX3_endWays]
def wsX4_take_r2 : List Cond := [Cond.instanceMethod yX3_endWays, Cond.selects RX3 yX3_endWays yX3_endWays, Cond.code yX3_endWays cX3_endWays 1 none, Cond.fieldLink RX3 22 "SpanRows$Search" "freeCount" "I"]
def wsX4_take : List Cond := .code yX4_take cX4_take 3 (some .boolean) :: ((wsX4_take_r1 ++ wsX4_take_r2) ++ wsX40 ++ wsX30 ++ wsX10)
def wsX4_mark_r1 : List Cond := [Cond.fieldLink RX4 44 "SpanRows" "markCount" "I", Cond.fieldLink RX4 37 "SpanRows" "savedNames" "Ljava/util/ArrayList;", Cond.classLink RX4 7 RX1, Cond.instantiable RX1 7, Cond.initialized RX1, Cond.classLink RX4 7 "SpanRows$Names", Cond.fieldLink RX4 10 "SpanRows" "names" "LSpanRows$Names;", Cond.fieldLink RX4 40 "SpanRows" "savedKept" "[I", Cond.fieldLink RX4 26 "SpanRows" "keptRows" "Ljava/util/ArrayList;", Cond.methodLink RX4 109 yJx4a65c_size_8abf5, Cond.instanceMethod yJx4a65c_size_8abf5, Cond.selects RJx4a65c yJx4a65c_size_8abf5 yJx4a65c_size_8abf5, Cond.initialized RJx4a65c, Cond.code yJx4a65c_size_8abf5 cJx4a65c_size_8abf5 1 (some .int), Cond.fieldLink RJx4a65c 48 "java/util/ArrayList" "size" "I", Cond.instanceMethod yX1_init, Cond.code yX1_init cX1_init 1 none, Cond.methodLink RX1 3 objectInit, Cond.instanceMethod objectInit, Cond.code objectInit ⟨#[0xb1]⟩ 1 none, Cond.arrayClass .int, Cond.fieldLink RX1 9 "SpanRows$Names" "least" "[I", Cond.arrayClass .boolean, Cond.fieldLink RX1 15 "SpanRows$Names" "known" "[Z"]
def wsX4_mark_r2 : List Cond := [Cond.arrayClass .long, Cond.fieldLink RX1 19 "SpanRows$Names" "number" "[J", Cond.fieldLink RX1 23 "SpanRows$Names" "spanned" "[Z", Cond.fieldLink RX1 26 "SpanRows$Names" "low" "[J", Cond.fieldLink RX1 29 "SpanRows$Names" "high" "[J", Cond.methodLink RX4 111 yJx4a65c_add_9ea2d, Cond.instanceMethod yJx4a65c_add_9ea2d, Cond.selects RJx4a65c yJx4a65c_add_9ea2d yJx4a65c_add_9ea2d, Cond.code yJx4a65c_add_9ea2d cJx4a65c_add_9ea2d 2 (some .boolean), Cond.fieldLink RJx4a65c 63 "java/util/ArrayList" "modCount" "I", Cond.sameField "java/util/ArrayList" "java/util/AbstractList" "modCount" "I", Cond.fieldLink RJx4a65c 9 "java/util/ArrayList" "elementData" "[Ljava/lang/Object;", Cond.methodLink RJx4a65c 131 yJx4a65c_add_72be8, Cond.instanceMethod yJx4a65c_add_72be8, Cond.selects RJx4a65c yJx4a65c_add_72be8 yJx4a65c_add_72be8, Cond.code yJx4a65c_add_72be8 cJx4a65c_add_72be8 4 none, Cond.methodLink RJx4a65c 129 yJx4a65c_grow_d5877, Cond.instanceMethod yJx4a65c_grow_d5877, Cond.selects RJx4a65c yJx4a65c_grow_d5877 yJx4a65c_grow_d5877, Cond.code yJx4a65c_grow_d5877 cJx4a65c_grow_d5877 1 (some (.array (.object "java/lang/Object"))), Cond.methodLink RJx4a65c 69 yJx4a65c_grow_92f84, Cond.instanceMethod yJx4a65c_grow_92f84, Cond.selects RJx4a65c yJx4a65c_grow_92f84 yJx4a65c_grow_92f84, Cond.code yJx4a65c_grow_92f84 cJx4a65c_grow_92f84 4 (some (.array (.object "java/lang/Object")))]
def wsX4_mark_r3 : List Cond := [Cond.fieldLink RJx4a65c 39 "java/util/ArrayList" "DEFAULTCAPACITY_EMPTY_ELEMENTDATA" "[Ljava/lang/Object;", Cond.methodLink RJx4a65c 79 Lib.Math.max.name, Cond.static Lib.Math.max.name, Cond.initialized "java/lang/Math", Cond.code Lib.Math.max.name Lib.Math.max.code 2 (some .int), Cond.classLink RJx4a65c 7 "java/lang/Object", Cond.methodLink RJx4a65c 73 yJ8_newLength_cabcc, Cond.static yJ8_newLength_cabcc, Cond.initialized RJ8, Cond.code yJ8_newLength_cabcc cJ8_newLength_cabcc 4 (some .int), Cond.methodLink RJ8 194 Lib.Math.max.name, Cond.constant RJ8 200 (2147483639), Cond.methodLink RJ8 201 yJ8_hugeLength_7cf53, Cond.static yJ8_hugeLength_7cf53, Cond.code yJ8_hugeLength_7cf53 cJ8_hugeLength_7cf53 3 (some .int), Cond.methodLink RJx4a65c 66 yJ7_copyOf_1904c, Cond.static yJ7_copyOf_1904c, Cond.initialized RJ7, Cond.code yJ7_copyOf_1904c cJ7_copyOf_1904c 2 (some (.array (.object "java/lang/Object"))), Cond.methodLink RJ7 86 ⟨"java/lang/Object", "getClass", "()Ljava/lang/Class;"⟩, Cond.selects "[Ljava/lang/Object;" ⟨"java/lang/Object", "getClass", "()Ljava/lang/Class;"⟩ ⟨"java/lang/Object", "getClass", "()Ljava/lang/Class;"⟩, Cond.instanceMethod ⟨"java/lang/Object", "getClass", "()Ljava/lang/Class;"⟩, Cond.native ⟨"java/lang/Object", "getClass", "()Ljava/lang/Class;"⟩, Cond.methodLink RJ7 300 yJ7_copyOf_6403c]
def wsX4_mark_r4 : List Cond := [Cond.static yJ7_copyOf_6403c, Cond.code yJ7_copyOf_6403c cJ7_copyOf_6403c 4 (some (.array (.object "java/lang/Object"))), Cond.classLink RJ7 110 "[Ljava/lang/Object;", Cond.classLink RJ7 2 "java/lang/Object", Cond.methodLink RJ7 304 Lib.Math.min.name, Cond.static Lib.Math.min.name, Cond.code Lib.Math.min.name Lib.Math.min.code 2 (some .int), Cond.methodLink RJ7 150 arraycopyName, Cond.native arraycopyName, Cond.static arraycopyName, Cond.initialized "java/lang/System", Cond.methodLink RX4 115 yJx4a65c_get_915e3, Cond.instanceMethod yJx4a65c_get_915e3, Cond.selects RJx4a65c yJx4a65c_get_915e3 yJx4a65c_get_915e3, Cond.code yJx4a65c_get_915e3 cJx4a65c_get_915e3 2 (some (.object "java/lang/Object")), Cond.methodLink RJx4a65c 118 yJ15_checkIndex_7cf53, Cond.static yJ15_checkIndex_7cf53, Cond.initialized RJ15, Cond.code yJ15_checkIndex_7cf53 cJ15_checkIndex_7cf53 2 (some .int), Cond.methodLink RJ15 105 yJ3_checkIndex_8e157, Cond.static yJ3_checkIndex_8e157, Cond.initialized RJ3, Cond.code yJ3_checkIndex_8e157 cJ3_checkIndex_8e157 3 (some .int), Cond.methodLink RJx4a65c 123 yJx4a65c_elementData_915e3]
def wsX4_mark_r5 : List Cond := [Cond.instanceMethod yJx4a65c_elementData_915e3, Cond.selects RJx4a65c yJx4a65c_elementData_915e3 yJx4a65c_elementData_915e3, Cond.code yJx4a65c_elementData_915e3 cJx4a65c_elementData_915e3 2 (some (.object "java/lang/Object")), Cond.methodLink RX4 119 yX1_copyFrom, Cond.instanceMethod yX1_copyFrom, Cond.selects RX1 yX1_copyFrom yX1_copyFrom, Cond.code yX1_copyFrom cX1_copyFrom 3 none, Cond.fieldLink RX1 32 "SpanRows$Names" "size" "I"]
def wsX4_mark : List Cond := .code yX4_mark cX4_mark 1 (some .int) :: ((wsX4_mark_r1 ++ (wsX4_mark_r2 ++ (wsX4_mark_r3 ++ (wsX4_mark_r4 ++ wsX4_mark_r5)))) ++ wsX40 ++ wsX10 ++ wsJx4a65c0)
def wsJx4a65c_fastRemove_b59b0 : List Cond := .code yJx4a65c_fastRemove_b59b0 cJx4a65c_fastRemove_b59b0 4 none :: ([.fieldLink RJx4a65c 63 "java/util/ArrayList" "modCount" "I", .sameField "java/util/ArrayList" "java/util/AbstractList" "modCount" "I", .fieldLink RJx4a65c 48 "java/util/ArrayList" "size" "I", .methodLink RJx4a65c 112 arraycopyName, .native arraycopyName, .static arraycopyName, .initialized "java/lang/System"] ++ wsJx4a65c0)
def wsJx4a65c_remove_915e3 : List Cond := .code yJx4a65c_remove_915e3 cJx4a65c_remove_915e3 4 (some (.object "java/lang/Object")) :: ([.fieldLink RJx4a65c 48 "java/util/ArrayList" "size" "I", .fieldLink RJx4a65c 9 "java/util/ArrayList" "elementData" "[Ljava/lang/Object;", .methodLink RJx4a65c 118 yJ15_checkIndex_7cf53, .static yJ15_checkIndex_7cf53, .initialized RJ15, .code yJ15_checkIndex_7cf53 cJ15_checkIndex_7cf53 2 (some .int), .methodLink RJ15 105 yJ3_checkIndex_8e157, .static yJ3_checkIndex_8e157, .initialized RJ3, .code yJ3_checkIndex_8e157 cJ3_checkIndex_8e157 3 (some .int), .methodLink RJx4a65c 144 yJx4a65c_fastRemove_b59b0, .instanceMethod yJx4a65c_fastRemove_b59b0, .selects RJx4a65c yJx4a65c_fastRemove_b59b0 yJx4a65c_fastRemove_b59b0, .initialized RJx4a65c, .code yJx4a65c_fastRemove_b59b0 cJx4a65c_fastRemove_b59b0 4 none, .fieldLink RJx4a65c 63 "java/util/ArrayList" "modCount" "I", .sameField "java/util/ArrayList" "java/util/AbstractList" "modCount" "I", .methodLink RJx4a65c 112 arraycopyName, .native arraycopyName, .static arraycopyName, .initialized "java/lang/System"] ++ wsJx4a65c0)
def wsX4_back_r1 : List Cond := [Cond.fieldLink RX4 44 "SpanRows" "markCount" "I", Cond.fieldLink RX4 37 "SpanRows" "savedNames" "Ljava/util/ArrayList;", Cond.fieldLink RX4 10 "SpanRows" "names" "LSpanRows$Names;", Cond.classLink RX4 7 "SpanRows$Names", Cond.fieldLink RX4 26 "SpanRows" "keptRows" "Ljava/util/ArrayList;", Cond.fieldLink RX4 40 "SpanRows" "savedKept" "[I", Cond.fieldLink RX4 19 "SpanRows" "row" "LSpanRows$Row;", Cond.fieldLink RX4 33 "SpanRows" "search" "LSpanRows$Search;", Cond.methodLink RX4 109 yJx4a65c_size_8abf5, Cond.instanceMethod yJx4a65c_size_8abf5, Cond.selects RJx4a65c yJx4a65c_size_8abf5 yJx4a65c_size_8abf5, Cond.initialized RJx4a65c, Cond.code yJx4a65c_size_8abf5 cJx4a65c_size_8abf5 1 (some .int), Cond.fieldLink RJx4a65c 48 "java/util/ArrayList" "size" "I", Cond.methodLink RX4 115 yJx4a65c_get_915e3, Cond.instanceMethod yJx4a65c_get_915e3, Cond.selects RJx4a65c yJx4a65c_get_915e3 yJx4a65c_get_915e3, Cond.code yJx4a65c_get_915e3 cJx4a65c_get_915e3 2 (some (.object "java/lang/Object")), Cond.methodLink RJx4a65c 118 yJ15_checkIndex_7cf53, Cond.static yJ15_checkIndex_7cf53, Cond.initialized RJ15, Cond.code yJ15_checkIndex_7cf53 cJ15_checkIndex_7cf53 2 (some .int), Cond.methodLink RJ15 105 yJ3_checkIndex_8e157, Cond.static yJ3_checkIndex_8e157]
def wsX4_back_r2 : List Cond := [Cond.initialized RJ3, Cond.code yJ3_checkIndex_8e157 cJ3_checkIndex_8e157 3 (some .int), Cond.methodLink RJx4a65c 123 yJx4a65c_elementData_915e3, Cond.instanceMethod yJx4a65c_elementData_915e3, Cond.selects RJx4a65c yJx4a65c_elementData_915e3 yJx4a65c_elementData_915e3, Cond.code yJx4a65c_elementData_915e3 cJx4a65c_elementData_915e3 2 (some (.object "java/lang/Object")), Cond.fieldLink RJx4a65c 9 "java/util/ArrayList" "elementData" "[Ljava/lang/Object;", Cond.methodLink RX4 119 yX1_copyFrom, Cond.instanceMethod yX1_copyFrom, Cond.selects RX1 yX1_copyFrom yX1_copyFrom, Cond.initialized RX1, Cond.code yX1_copyFrom cX1_copyFrom 3 none, Cond.fieldLink RX1 32 "SpanRows$Names" "size" "I", Cond.fieldLink RX1 9 "SpanRows$Names" "least" "[I", Cond.fieldLink RX1 15 "SpanRows$Names" "known" "[Z", Cond.fieldLink RX1 19 "SpanRows$Names" "number" "[J", Cond.fieldLink RX1 23 "SpanRows$Names" "spanned" "[Z", Cond.fieldLink RX1 26 "SpanRows$Names" "low" "[J", Cond.fieldLink RX1 29 "SpanRows$Names" "high" "[J", Cond.methodLink RX4 123 yJx4a65c_remove_915e3, Cond.instanceMethod yJx4a65c_remove_915e3, Cond.selects RJx4a65c yJx4a65c_remove_915e3 yJx4a65c_remove_915e3, Cond.code yJx4a65c_remove_915e3 cJx4a65c_remove_915e3 4 (some (.object "java/lang/Object")), Cond.methodLink RJx4a65c 144 yJx4a65c_fastRemove_b59b0]
def wsX4_back_r3 : List Cond := [Cond.instanceMethod yJx4a65c_fastRemove_b59b0, Cond.selects RJx4a65c yJx4a65c_fastRemove_b59b0 yJx4a65c_fastRemove_b59b0, Cond.code yJx4a65c_fastRemove_b59b0 cJx4a65c_fastRemove_b59b0 4 none, Cond.fieldLink RJx4a65c 63 "java/util/ArrayList" "modCount" "I", Cond.sameField "java/util/ArrayList" "java/util/AbstractList" "modCount" "I", Cond.methodLink RJx4a65c 112 arraycopyName, Cond.native arraycopyName, Cond.static arraycopyName, Cond.initialized "java/lang/System", Cond.methodLink RX4 126 yX2_cutAtFirstGone, Cond.instanceMethod yX2_cutAtFirstGone, Cond.selects RX2 yX2_cutAtFirstGone yX2_cutAtFirstGone, Cond.initialized RX2, Cond.code yX2_cutAtFirstGone cX2_cutAtFirstGone 3 none, Cond.fieldLink RX2 19 "SpanRows$Row" "length" "I", Cond.fieldLink RX2 9 "SpanRows$Row" "places" "[I", Cond.methodLink RX2 23 yX1_has, Cond.instanceMethod yX1_has, Cond.selects RX1 yX1_has yX1_has, Cond.code yX1_has cX1_has 2 (some .boolean), Cond.methodLink RX4 51 yX3_endWays, Cond.instanceMethod yX3_endWays, Cond.selects RX3 yX3_endWays yX3_endWays, Cond.initialized RX3]
def wsX4_back_r4 : List Cond := [Cond.code yX3_endWays cX3_endWays 1 none, Cond.fieldLink RX3 22 "SpanRows$Search" "freeCount" "I", Cond.fieldLink RX3 26 "SpanRows$Search" "wayCount" "I"]
def wsX4_back : List Cond := .code yX4_back cX4_back 2 (some .int) :: ((wsX4_back_r1 ++ (wsX4_back_r2 ++ (wsX4_back_r3 ++ wsX4_back_r4))) ++ wsX40 ++ wsJx4a65c0 ++ wsX10 ++ wsX20 ++ wsX30)
def wsX4_countRowsWith_r1 : List Cond := [Cond.fieldLink RX4 26 "SpanRows" "keptRows" "Ljava/util/ArrayList;", Cond.classLink RX4 158 "SpanRows$KeptRow", Cond.fieldLink RX4 10 "SpanRows" "names" "LSpanRows$Names;", Cond.methodLink RX4 109 yJx4a65c_size_8abf5, Cond.instanceMethod yJx4a65c_size_8abf5, Cond.selects RJx4a65c yJx4a65c_size_8abf5 yJx4a65c_size_8abf5, Cond.initialized RJx4a65c, Cond.code yJx4a65c_size_8abf5 cJx4a65c_size_8abf5 1 (some .int), Cond.fieldLink RJx4a65c 48 "java/util/ArrayList" "size" "I", Cond.methodLink RX4 115 yJx4a65c_get_915e3, Cond.instanceMethod yJx4a65c_get_915e3, Cond.selects RJx4a65c yJx4a65c_get_915e3 yJx4a65c_get_915e3, Cond.code yJx4a65c_get_915e3 cJx4a65c_get_915e3 2 (some (.object "java/lang/Object")), Cond.methodLink RJx4a65c 118 yJ15_checkIndex_7cf53, Cond.static yJ15_checkIndex_7cf53, Cond.initialized RJ15, Cond.code yJ15_checkIndex_7cf53 cJ15_checkIndex_7cf53 2 (some .int), Cond.methodLink RJ15 105 yJ3_checkIndex_8e157, Cond.static yJ3_checkIndex_8e157, Cond.initialized RJ3, Cond.code yJ3_checkIndex_8e157 cJ3_checkIndex_8e157 3 (some .int), Cond.methodLink RJx4a65c 123 yJx4a65c_elementData_915e3, Cond.instanceMethod yJx4a65c_elementData_915e3, Cond.selects RJx4a65c yJx4a65c_elementData_915e3 yJx4a65c_elementData_915e3]
def wsX4_countRowsWith_r2 : List Cond := [Cond.code yJx4a65c_elementData_915e3 cJx4a65c_elementData_915e3 2 (some (.object "java/lang/Object")), Cond.fieldLink RJx4a65c 9 "java/util/ArrayList" "elementData" "[Ljava/lang/Object;", Cond.methodLink RX4 197 yX0_holds, Cond.instanceMethod yX0_holds, Cond.selects RX0 yX0_holds yX0_holds, Cond.initialized RX0, Cond.code yX0_holds cX0_holds 4 (some .boolean), Cond.fieldLink RX0 34 "SpanRows$KeptRow" "places" "[I", Cond.methodLink RX0 49 yX1_leastOf, Cond.instanceMethod yX1_leastOf, Cond.selects RX1 yX1_leastOf yX1_leastOf, Cond.initialized RX1, Cond.code yX1_leastOf cX1_leastOf 2 (some .int), Cond.fieldLink RX1 9 "SpanRows$Names" "least" "[I"]
def wsX4_countRowsWith : List Cond := .code yX4_countRowsWith cX4_countRowsWith 4 (some .int) :: ((wsX4_countRowsWith_r1 ++ wsX4_countRowsWith_r2) ++ wsX40 ++ wsJx4a65c0 ++ wsX00 ++ wsX10)
def wsX4_about_r1 : List Cond := [Cond.fieldLink RX4 10 "SpanRows" "names" "LSpanRows$Names;", Cond.fieldLink RX4 33 "SpanRows" "search" "LSpanRows$Search;", Cond.methodLink RX4 58 yX1_has, Cond.instanceMethod yX1_has, Cond.selects RX1 yX1_has yX1_has, Cond.initialized RX1, Cond.code yX1_has cX1_has 2 (some .boolean), Cond.fieldLink RX1 32 "SpanRows$Names" "size" "I", Cond.methodLink RX4 129 yX1_freedom, Cond.instanceMethod yX1_freedom, Cond.selects RX1 yX1_freedom yX1_freedom, Cond.code yX1_freedom cX1_freedom 2 (some .int), Cond.methodLink RX1 49 yX1_isKnown, Cond.instanceMethod yX1_isKnown, Cond.selects RX1 yX1_isKnown yX1_isKnown, Cond.code yX1_isKnown cX1_isKnown 2 (some .boolean), Cond.fieldLink RX1 15 "SpanRows$Names" "known" "[Z", Cond.fieldLink RX1 9 "SpanRows$Names" "least" "[I", Cond.methodLink RX1 53 yX1_hasSpan, Cond.instanceMethod yX1_hasSpan, Cond.selects RX1 yX1_hasSpan yX1_hasSpan, Cond.code yX1_hasSpan cX1_hasSpan 2 (some .boolean), Cond.fieldLink RX1 23 "SpanRows$Names" "spanned" "[Z", Cond.methodLink RX4 133 yX1_leastOf]
def wsX4_about_r2 : List Cond := [Cond.instanceMethod yX1_leastOf, Cond.selects RX1 yX1_leastOf yX1_leastOf, Cond.code yX1_leastOf cX1_leastOf 2 (some .int), Cond.methodLink RX4 136 yX1_countOnes, Cond.instanceMethod yX1_countOnes, Cond.selects RX1 yX1_countOnes yX1_countOnes, Cond.code yX1_countOnes cX1_countOnes 4 (some .int), Cond.methodLink RX4 139 yX4_countRowsWith, Cond.instanceMethod yX4_countRowsWith, Cond.selects RX4 yX4_countRowsWith yX4_countRowsWith, Cond.initialized RX4, Cond.code yX4_countRowsWith cX4_countRowsWith 4 (some .int), Cond.fieldLink RX4 26 "SpanRows" "keptRows" "Ljava/util/ArrayList;", Cond.classLink RX4 158 "SpanRows$KeptRow", Cond.methodLink RX4 109 yJx4a65c_size_8abf5, Cond.instanceMethod yJx4a65c_size_8abf5, Cond.selects RJx4a65c yJx4a65c_size_8abf5 yJx4a65c_size_8abf5, Cond.initialized RJx4a65c, Cond.code yJx4a65c_size_8abf5 cJx4a65c_size_8abf5 1 (some .int), Cond.fieldLink RJx4a65c 48 "java/util/ArrayList" "size" "I", Cond.methodLink RX4 115 yJx4a65c_get_915e3, Cond.instanceMethod yJx4a65c_get_915e3, Cond.selects RJx4a65c yJx4a65c_get_915e3 yJx4a65c_get_915e3, Cond.code yJx4a65c_get_915e3 cJx4a65c_get_915e3 2 (some (.object "java/lang/Object"))]
def wsX4_about_r3 : List Cond := [Cond.methodLink RJx4a65c 118 yJ15_checkIndex_7cf53, Cond.static yJ15_checkIndex_7cf53, Cond.initialized RJ15, Cond.code yJ15_checkIndex_7cf53 cJ15_checkIndex_7cf53 2 (some .int), Cond.methodLink RJ15 105 yJ3_checkIndex_8e157, Cond.static yJ3_checkIndex_8e157, Cond.initialized RJ3, Cond.code yJ3_checkIndex_8e157 cJ3_checkIndex_8e157 3 (some .int), Cond.methodLink RJx4a65c 123 yJx4a65c_elementData_915e3, Cond.instanceMethod yJx4a65c_elementData_915e3, Cond.selects RJx4a65c yJx4a65c_elementData_915e3 yJx4a65c_elementData_915e3, Cond.code yJx4a65c_elementData_915e3 cJx4a65c_elementData_915e3 2 (some (.object "java/lang/Object")), Cond.fieldLink RJx4a65c 9 "java/util/ArrayList" "elementData" "[Ljava/lang/Object;", Cond.methodLink RX4 197 yX0_holds, Cond.instanceMethod yX0_holds, Cond.selects RX0 yX0_holds yX0_holds, Cond.initialized RX0, Cond.code yX0_holds cX0_holds 4 (some .boolean), Cond.fieldLink RX0 34 "SpanRows$KeptRow" "places" "[I", Cond.methodLink RX0 49 yX1_leastOf, Cond.methodLink RX4 142 yX3_isFreeName, Cond.instanceMethod yX3_isFreeName, Cond.selects RX3 yX3_isFreeName yX3_isFreeName, Cond.initialized RX3]
def wsX4_about_r4 : List Cond := [Cond.code yX3_isFreeName cX3_isFreeName 2 (some .boolean), Cond.methodLink RX3 29 yX3_levelOf, Cond.instanceMethod yX3_levelOf, Cond.selects RX3 yX3_levelOf yX3_levelOf, Cond.code yX3_levelOf cX3_levelOf 3 (some .int), Cond.fieldLink RX3 22 "SpanRows$Search" "freeCount" "I", Cond.fieldLink RX3 9 "SpanRows$Search" "free" "[I"]
def wsX4_about : List Cond := .code yX4_about cX4_about 3 (some .int) :: ((wsX4_about_r1 ++ (wsX4_about_r2 ++ (wsX4_about_r3 ++ wsX4_about_r4))) ++ wsX40 ++ wsX10 ++ wsJx4a65c0 ++ wsX00 ++ wsX30)
def wsX4_bound_r1 : List Cond := [Cond.fieldLink RX4 10 "SpanRows" "names" "LSpanRows$Names;", Cond.methodLink RX4 58 yX1_has, Cond.instanceMethod yX1_has, Cond.selects RX1 yX1_has yX1_has, Cond.initialized RX1, Cond.code yX1_has cX1_has 2 (some .boolean), Cond.fieldLink RX1 32 "SpanRows$Names" "size" "I", Cond.methodLink RX4 145 yX1_isKnown, Cond.instanceMethod yX1_isKnown, Cond.selects RX1 yX1_isKnown yX1_isKnown, Cond.code yX1_isKnown cX1_isKnown 2 (some .boolean), Cond.fieldLink RX1 15 "SpanRows$Names" "known" "[Z", Cond.fieldLink RX1 9 "SpanRows$Names" "least" "[I", Cond.methodLink RX4 148 yX1_numberOf, Cond.instanceMethod yX1_numberOf, Cond.selects RX1 yX1_numberOf yX1_numberOf, Cond.code yX1_numberOf cX1_numberOf 2 (some .long), Cond.fieldLink RX1 19 "SpanRows$Names" "number" "[J", Cond.methodLink RX4 152 yX1_highOf, Cond.instanceMethod yX1_highOf, Cond.selects RX1 yX1_highOf yX1_highOf, Cond.code yX1_highOf cX1_highOf 2 (some .long), Cond.fieldLink RX1 29 "SpanRows$Names" "high" "[J", Cond.methodLink RX4 155 yX1_lowOf]
def wsX4_bound_r2 : List Cond := [Cond.instanceMethod yX1_lowOf, Cond.selects RX1 yX1_lowOf yX1_lowOf, Cond.code yX1_lowOf cX1_lowOf 2 (some .long), Cond.fieldLink RX1 26 "SpanRows$Names" "low" "[J"]
def wsX4_bound : List Cond := .code yX4_bound cX4_bound 3 (some .long) :: ((wsX4_bound_r1 ++ wsX4_bound_r2) ++ wsX40 ++ wsX10)
def wsX4_kept_r1 : List Cond := [Cond.fieldLink RX4 26 "SpanRows" "keptRows" "Ljava/util/ArrayList;", Cond.classLink RX4 158 "SpanRows$KeptRow", Cond.fieldLink RX4 160 "SpanRows$KeptRow" "kind" "I", Cond.fieldLink RX4 163 "SpanRows$KeptRow" "places" "[I", Cond.fieldLink RX4 10 "SpanRows" "names" "LSpanRows$Names;", Cond.methodLink RX4 109 yJx4a65c_size_8abf5, Cond.instanceMethod yJx4a65c_size_8abf5, Cond.selects RJx4a65c yJx4a65c_size_8abf5 yJx4a65c_size_8abf5, Cond.initialized RJx4a65c, Cond.code yJx4a65c_size_8abf5 cJx4a65c_size_8abf5 1 (some .int), Cond.fieldLink RJx4a65c 48 "java/util/ArrayList" "size" "I", Cond.methodLink RX4 115 yJx4a65c_get_915e3, Cond.instanceMethod yJx4a65c_get_915e3, Cond.selects RJx4a65c yJx4a65c_get_915e3 yJx4a65c_get_915e3, Cond.code yJx4a65c_get_915e3 cJx4a65c_get_915e3 2 (some (.object "java/lang/Object")), Cond.methodLink RJx4a65c 118 yJ15_checkIndex_7cf53, Cond.static yJ15_checkIndex_7cf53, Cond.initialized RJ15, Cond.code yJ15_checkIndex_7cf53 cJ15_checkIndex_7cf53 2 (some .int), Cond.methodLink RJ15 105 yJ3_checkIndex_8e157, Cond.static yJ3_checkIndex_8e157, Cond.initialized RJ3, Cond.code yJ3_checkIndex_8e157 cJ3_checkIndex_8e157 3 (some .int), Cond.methodLink RJx4a65c 123 yJx4a65c_elementData_915e3]
def wsX4_kept_r2 : List Cond := [Cond.instanceMethod yJx4a65c_elementData_915e3, Cond.selects RJx4a65c yJx4a65c_elementData_915e3 yJx4a65c_elementData_915e3, Cond.code yJx4a65c_elementData_915e3 cJx4a65c_elementData_915e3 2 (some (.object "java/lang/Object")), Cond.fieldLink RJx4a65c 9 "java/util/ArrayList" "elementData" "[Ljava/lang/Object;", Cond.methodLink RX4 166 yX0_countFree, Cond.instanceMethod yX0_countFree, Cond.selects RX0 yX0_countFree yX0_countFree, Cond.initialized RX0, Cond.code yX0_countFree cX0_countFree 4 (some .int), Cond.fieldLink RX0 34 "SpanRows$KeptRow" "places" "[I", Cond.methodLink RX0 43 yX1_isKnown, Cond.instanceMethod yX1_isKnown, Cond.selects RX1 yX1_isKnown yX1_isKnown, Cond.initialized RX1, Cond.code yX1_isKnown cX1_isKnown 2 (some .boolean), Cond.fieldLink RX1 15 "SpanRows$Names" "known" "[Z", Cond.fieldLink RX1 9 "SpanRows$Names" "least" "[I"]
def wsX4_kept : List Cond := .code yX4_kept cX4_kept 4 (some .int) :: ((wsX4_kept_r1 ++ wsX4_kept_r2) ++ wsX40 ++ wsX00 ++ wsJx4a65c0 ++ wsX10)
def wsX4_count : List Cond := .code yX4_count cX4_count 2 (some .int) :: ([.fieldLink RX4 10 "SpanRows" "names" "LSpanRows$Names;", .fieldLink RX4 48 "SpanRows$Names" "size" "I", .fieldLink RX4 26 "SpanRows" "keptRows" "Ljava/util/ArrayList;", .fieldLink RX4 44 "SpanRows" "markCount" "I", .fieldLink RX4 19 "SpanRows" "row" "LSpanRows$Row;", .fieldLink RX4 78 "SpanRows$Row" "length" "I", .fieldLink RX4 33 "SpanRows" "search" "LSpanRows$Search;", .fieldLink RX4 170 "SpanRows$Search" "wayCount" "I", .fieldLink RX4 96 "SpanRows$Search" "freeCount" "I", .fieldLink RX4 173 "SpanRows$Search" "tried" "I", .methodLink RX4 109 yJx4a65c_size_8abf5, .instanceMethod yJx4a65c_size_8abf5, .selects RJx4a65c yJx4a65c_size_8abf5 yJx4a65c_size_8abf5, .initialized RJx4a65c, .code yJx4a65c_size_8abf5 cJx4a65c_size_8abf5 1 (some .int), .fieldLink RJx4a65c 48 "java/util/ArrayList" "size" "I"] ++ wsX40 ++ wsX10 ++ wsX20 ++ wsX30 ++ wsJx4a65c0)
def wsX5_init_r1 : List Cond := [Cond.methodLink RX5 1 objectInit, Cond.instanceMethod objectInit, Cond.code objectInit ⟨#[0xb1]⟩ 1 none, Cond.arrayClass .int, Cond.fieldLink RX5 9 "SpanRowsModel" "sort" "[I", Cond.fieldLink RX5 13 "SpanRowsModel" "of" "[I", Cond.fieldLink RX5 16 "SpanRowsModel" "with" "[I", Cond.arrayClass .long, Cond.fieldLink RX5 19 "SpanRowsModel" "from" "[J", Cond.fieldLink RX5 23 "SpanRowsModel" "to" "[J", Cond.fieldLink RX5 26 "SpanRowsModel" "rowName" "[I", Cond.fieldLink RX5 29 "SpanRowsModel" "rowBy" "[J", Cond.fieldLink RX5 32 "SpanRowsModel" "keptKind" "[I", Cond.fieldLink RX5 35 "SpanRowsModel" "keptMany" "[I", Cond.fieldLink RX5 38 "SpanRowsModel" "keptName" "[I", Cond.fieldLink RX5 41 "SpanRowsModel" "keptBy" "[J", Cond.fieldLink RX5 44 "SpanRowsModel" "keptSum" "[J", Cond.fieldLink RX5 47 "SpanRowsModel" "markNames" "[I", Cond.fieldLink RX5 50 "SpanRowsModel" "markTold" "[I", Cond.fieldLink RX5 53 "SpanRowsModel" "markKept" "[I", Cond.fieldLink RX5 56 "SpanRowsModel" "first" "[I", Cond.arrayClass .boolean, Cond.fieldLink RX5 59 "SpanRowsModel" "hasNumber" "[Z", Cond.fieldLink RX5 63 "SpanRowsModel" "hasSpan" "[Z"]
def wsX5_init_r2 : List Cond := [Cond.fieldLink RX5 66 "SpanRowsModel" "number" "[J", Cond.fieldLink RX5 69 "SpanRowsModel" "low" "[J", Cond.fieldLink RX5 72 "SpanRowsModel" "high" "[J", Cond.fieldLink RX5 75 "SpanRowsModel" "hasTried" "[Z", Cond.fieldLink RX5 78 "SpanRowsModel" "tried" "[J", Cond.fieldLink RX5 81 "SpanRowsModel" "free" "[I", Cond.fieldLink RX5 84 "SpanRowsModel" "way" "[J"]
def wsX5_init : List Cond := .code yX5_init cX5_init 1 none :: ((wsX5_init_r1 ++ wsX5_init_r2) ++ wsX50)
def wsX5_isName : List Cond := .code yX5_isName cX5_isName 2 (some .boolean) :: ([.fieldLink RX5 87 "SpanRowsModel" "names" "I"] ++ wsX50)
def wsX5_isKnown : List Cond := .code yX5_isKnown cX5_isKnown 2 (some .boolean) :: ([.fieldLink RX5 59 "SpanRowsModel" "hasNumber" "[Z", .fieldLink RX5 56 "SpanRowsModel" "first" "[I", .fieldLink RX5 75 "SpanRowsModel" "hasTried" "[Z"] ++ wsX50)
def wsX5_numberOf : List Cond := .code yX5_numberOf cX5_numberOf 2 (some .long) :: ([.fieldLink RX5 59 "SpanRowsModel" "hasNumber" "[Z", .fieldLink RX5 56 "SpanRowsModel" "first" "[I", .fieldLink RX5 66 "SpanRowsModel" "number" "[J", .fieldLink RX5 78 "SpanRowsModel" "tried" "[J"] ++ wsX50)
def wsX5_holds : List Cond := .code yX5_holds cX5_holds 6 (some .boolean) :: ([.fieldLink RX5 35 "SpanRowsModel" "keptMany" "[I", .fieldLink RX5 38 "SpanRowsModel" "keptName" "[I", .fieldLink RX5 41 "SpanRowsModel" "keptBy" "[J", .fieldLink RX5 32 "SpanRowsModel" "keptKind" "[I", .fieldLink RX5 44 "SpanRowsModel" "keptSum" "[J", .methodLink RX5 115 yX5_isKnown, .instanceMethod yX5_isKnown, .selects RX5 yX5_isKnown yX5_isKnown, .initialized RX5, .code yX5_isKnown cX5_isKnown 2 (some .boolean), .fieldLink RX5 59 "SpanRowsModel" "hasNumber" "[Z", .fieldLink RX5 56 "SpanRowsModel" "first" "[I", .fieldLink RX5 75 "SpanRowsModel" "hasTried" "[Z", .methodLink RX5 118 yX5_numberOf, .instanceMethod yX5_numberOf, .selects RX5 yX5_numberOf yX5_numberOf, .code yX5_numberOf cX5_numberOf 2 (some .long), .fieldLink RX5 66 "SpanRowsModel" "number" "[J", .fieldLink RX5 78 "SpanRowsModel" "tried" "[J"] ++ wsX50)
def wsX5_works_r1 : List Cond := [Cond.fieldLink RX5 87 "SpanRowsModel" "names" "I", Cond.fieldLink RX5 56 "SpanRowsModel" "first" "[I", Cond.fieldLink RX5 59 "SpanRowsModel" "hasNumber" "[Z", Cond.fieldLink RX5 63 "SpanRowsModel" "hasSpan" "[Z", Cond.fieldLink RX5 91 "SpanRowsModel" "told" "I", Cond.fieldLink RX5 9 "SpanRowsModel" "sort" "[I", Cond.fieldLink RX5 13 "SpanRowsModel" "of" "[I", Cond.fieldLink RX5 16 "SpanRowsModel" "with" "[I", Cond.methodLink RX5 94 Lib.Math.min.name, Cond.static Lib.Math.min.name, Cond.initialized "java/lang/Math", Cond.code Lib.Math.min.name Lib.Math.min.code 2 (some .int), Cond.methodLink RX5 100 Lib.Math.max.name, Cond.static Lib.Math.max.name, Cond.code Lib.Math.max.name Lib.Math.max.code 2 (some .int), Cond.fieldLink RX5 66 "SpanRowsModel" "number" "[J", Cond.fieldLink RX5 19 "SpanRowsModel" "from" "[J", Cond.fieldLink RX5 69 "SpanRowsModel" "low" "[J", Cond.methodLink RX5 103 Lib.MathLoose.max_long.x, Cond.static Lib.MathLoose.max_long.x, Cond.code Lib.MathLoose.max_long.x Lib.MathLoose.max_long.code 4 (some .long), Cond.fieldLink RX5 72 "SpanRowsModel" "high" "[J", Cond.fieldLink RX5 23 "SpanRowsModel" "to" "[J", Cond.methodLink RX5 106 Lib.MathLoose.min_long.x]
def wsX5_works_r2 : List Cond := [Cond.static Lib.MathLoose.min_long.x, Cond.code Lib.MathLoose.min_long.x Lib.MathLoose.min_long.code 4 (some .long), Cond.fieldLink RX5 108 "SpanRowsModel" "kept" "I", Cond.methodLink RX5 111 yX5_holds, Cond.instanceMethod yX5_holds, Cond.selects RX5 yX5_holds yX5_holds, Cond.initialized RX5, Cond.code yX5_holds cX5_holds 6 (some .boolean), Cond.fieldLink RX5 35 "SpanRowsModel" "keptMany" "[I", Cond.fieldLink RX5 38 "SpanRowsModel" "keptName" "[I", Cond.fieldLink RX5 41 "SpanRowsModel" "keptBy" "[J", Cond.fieldLink RX5 32 "SpanRowsModel" "keptKind" "[I", Cond.fieldLink RX5 44 "SpanRowsModel" "keptSum" "[J", Cond.methodLink RX5 115 yX5_isKnown, Cond.instanceMethod yX5_isKnown, Cond.selects RX5 yX5_isKnown yX5_isKnown, Cond.code yX5_isKnown cX5_isKnown 2 (some .boolean), Cond.fieldLink RX5 75 "SpanRowsModel" "hasTried" "[Z", Cond.methodLink RX5 118 yX5_numberOf, Cond.instanceMethod yX5_numberOf, Cond.selects RX5 yX5_numberOf yX5_numberOf, Cond.code yX5_numberOf cX5_numberOf 2 (some .long), Cond.fieldLink RX5 78 "SpanRowsModel" "tried" "[J"]
def wsX5_works : List Cond := .code yX5_works cX5_works 5 (some .boolean) :: ((wsX5_works_r1 ++ wsX5_works_r2) ++ wsX50)
def wsX5_forget : List Cond := .code yX5_forget cX5_forget 1 none :: ([.fieldLink RX5 139 "SpanRowsModel" "isThere" "Z", .fieldLink RX5 143 "SpanRowsModel" "ways" "I", .fieldLink RX5 146 "SpanRowsModel" "frees" "I"] ++ wsX50)
def wsX5_tells_r1 : List Cond := [Cond.fieldLink RX5 9 "SpanRowsModel" "sort" "[I", Cond.fieldLink RX5 91 "SpanRowsModel" "told" "I", Cond.fieldLink RX5 13 "SpanRowsModel" "of" "[I", Cond.fieldLink RX5 16 "SpanRowsModel" "with" "[I", Cond.fieldLink RX5 19 "SpanRowsModel" "from" "[J", Cond.fieldLink RX5 23 "SpanRowsModel" "to" "[J", Cond.methodLink RX5 122 yX5_works, Cond.instanceMethod yX5_works, Cond.selects RX5 yX5_works yX5_works, Cond.initialized RX5, Cond.code yX5_works cX5_works 5 (some .boolean), Cond.fieldLink RX5 87 "SpanRowsModel" "names" "I", Cond.fieldLink RX5 56 "SpanRowsModel" "first" "[I", Cond.fieldLink RX5 59 "SpanRowsModel" "hasNumber" "[Z", Cond.fieldLink RX5 63 "SpanRowsModel" "hasSpan" "[Z", Cond.methodLink RX5 94 Lib.Math.min.name, Cond.static Lib.Math.min.name, Cond.initialized "java/lang/Math", Cond.code Lib.Math.min.name Lib.Math.min.code 2 (some .int), Cond.methodLink RX5 100 Lib.Math.max.name, Cond.static Lib.Math.max.name, Cond.code Lib.Math.max.name Lib.Math.max.code 2 (some .int), Cond.fieldLink RX5 66 "SpanRowsModel" "number" "[J", Cond.fieldLink RX5 69 "SpanRowsModel" "low" "[J"]
def wsX5_tells_r2 : List Cond := [Cond.methodLink RX5 103 Lib.MathLoose.max_long.x, Cond.static Lib.MathLoose.max_long.x, Cond.code Lib.MathLoose.max_long.x Lib.MathLoose.max_long.code 4 (some .long), Cond.fieldLink RX5 72 "SpanRowsModel" "high" "[J", Cond.methodLink RX5 106 Lib.MathLoose.min_long.x, Cond.static Lib.MathLoose.min_long.x, Cond.code Lib.MathLoose.min_long.x Lib.MathLoose.min_long.code 4 (some .long), Cond.fieldLink RX5 108 "SpanRowsModel" "kept" "I", Cond.methodLink RX5 111 yX5_holds, Cond.instanceMethod yX5_holds, Cond.selects RX5 yX5_holds yX5_holds, Cond.code yX5_holds cX5_holds 6 (some .boolean), Cond.fieldLink RX5 35 "SpanRowsModel" "keptMany" "[I", Cond.fieldLink RX5 38 "SpanRowsModel" "keptName" "[I", Cond.fieldLink RX5 41 "SpanRowsModel" "keptBy" "[J", Cond.fieldLink RX5 32 "SpanRowsModel" "keptKind" "[I", Cond.fieldLink RX5 44 "SpanRowsModel" "keptSum" "[J", Cond.methodLink RX5 115 yX5_isKnown, Cond.instanceMethod yX5_isKnown, Cond.selects RX5 yX5_isKnown yX5_isKnown, Cond.code yX5_isKnown cX5_isKnown 2 (some .boolean), Cond.fieldLink RX5 75 "SpanRowsModel" "hasTried" "[Z", Cond.methodLink RX5 118 yX5_numberOf, Cond.instanceMethod yX5_numberOf]
def wsX5_tells_r3 : List Cond := [Cond.selects RX5 yX5_numberOf yX5_numberOf, Cond.code yX5_numberOf cX5_numberOf 2 (some .long), Cond.fieldLink RX5 78 "SpanRowsModel" "tried" "[J", Cond.methodLink RX5 126 yX5_forget, Cond.instanceMethod yX5_forget, Cond.selects RX5 yX5_forget yX5_forget, Cond.code yX5_forget cX5_forget 1 none, Cond.fieldLink RX5 139 "SpanRowsModel" "isThere" "Z", Cond.fieldLink RX5 143 "SpanRowsModel" "ways" "I", Cond.fieldLink RX5 146 "SpanRowsModel" "frees" "I"]
def wsX5_tells : List Cond := .code yX5_tells cX5_tells 9 (some .boolean) :: ((wsX5_tells_r1 ++ (wsX5_tells_r2 ++ wsX5_tells_r3)) ++ wsX50)
def wsX5_name_r1 : List Cond := [Cond.fieldLink RX5 87 "SpanRowsModel" "names" "I", Cond.methodLink RX5 122 yX5_works, Cond.instanceMethod yX5_works, Cond.selects RX5 yX5_works yX5_works, Cond.initialized RX5, Cond.code yX5_works cX5_works 5 (some .boolean), Cond.fieldLink RX5 56 "SpanRowsModel" "first" "[I", Cond.fieldLink RX5 59 "SpanRowsModel" "hasNumber" "[Z", Cond.fieldLink RX5 63 "SpanRowsModel" "hasSpan" "[Z", Cond.fieldLink RX5 91 "SpanRowsModel" "told" "I", Cond.fieldLink RX5 9 "SpanRowsModel" "sort" "[I", Cond.fieldLink RX5 13 "SpanRowsModel" "of" "[I", Cond.fieldLink RX5 16 "SpanRowsModel" "with" "[I", Cond.methodLink RX5 94 Lib.Math.min.name, Cond.static Lib.Math.min.name, Cond.initialized "java/lang/Math", Cond.code Lib.Math.min.name Lib.Math.min.code 2 (some .int), Cond.methodLink RX5 100 Lib.Math.max.name, Cond.static Lib.Math.max.name, Cond.code Lib.Math.max.name Lib.Math.max.code 2 (some .int), Cond.fieldLink RX5 66 "SpanRowsModel" "number" "[J", Cond.fieldLink RX5 19 "SpanRowsModel" "from" "[J", Cond.fieldLink RX5 69 "SpanRowsModel" "low" "[J", Cond.methodLink RX5 103 Lib.MathLoose.max_long.x]
def wsX5_name_r2 : List Cond := [Cond.static Lib.MathLoose.max_long.x, Cond.code Lib.MathLoose.max_long.x Lib.MathLoose.max_long.code 4 (some .long), Cond.fieldLink RX5 72 "SpanRowsModel" "high" "[J", Cond.fieldLink RX5 23 "SpanRowsModel" "to" "[J", Cond.methodLink RX5 106 Lib.MathLoose.min_long.x, Cond.static Lib.MathLoose.min_long.x, Cond.code Lib.MathLoose.min_long.x Lib.MathLoose.min_long.code 4 (some .long), Cond.fieldLink RX5 108 "SpanRowsModel" "kept" "I", Cond.methodLink RX5 111 yX5_holds, Cond.instanceMethod yX5_holds, Cond.selects RX5 yX5_holds yX5_holds, Cond.code yX5_holds cX5_holds 6 (some .boolean), Cond.fieldLink RX5 35 "SpanRowsModel" "keptMany" "[I", Cond.fieldLink RX5 38 "SpanRowsModel" "keptName" "[I", Cond.fieldLink RX5 41 "SpanRowsModel" "keptBy" "[J", Cond.fieldLink RX5 32 "SpanRowsModel" "keptKind" "[I", Cond.fieldLink RX5 44 "SpanRowsModel" "keptSum" "[J", Cond.methodLink RX5 115 yX5_isKnown, Cond.instanceMethod yX5_isKnown, Cond.selects RX5 yX5_isKnown yX5_isKnown, Cond.code yX5_isKnown cX5_isKnown 2 (some .boolean), Cond.fieldLink RX5 75 "SpanRowsModel" "hasTried" "[Z", Cond.methodLink RX5 118 yX5_numberOf, Cond.instanceMethod yX5_numberOf]
def wsX5_name_r3 : List Cond := [Cond.selects RX5 yX5_numberOf yX5_numberOf, Cond.code yX5_numberOf cX5_numberOf 2 (some .long), Cond.fieldLink RX5 78 "SpanRowsModel" "tried" "[J", Cond.methodLink RX5 126 yX5_forget, Cond.instanceMethod yX5_forget, Cond.selects RX5 yX5_forget yX5_forget, Cond.code yX5_forget cX5_forget 1 none, Cond.fieldLink RX5 139 "SpanRowsModel" "isThere" "Z", Cond.fieldLink RX5 143 "SpanRowsModel" "ways" "I", Cond.fieldLink RX5 146 "SpanRowsModel" "frees" "I"]
def wsX5_name : List Cond := .code yX5_name cX5_name 2 (some .int) :: ((wsX5_name_r1 ++ (wsX5_name_r2 ++ wsX5_name_r3)) ++ wsX50)
def wsX5_span_r1 : List Cond := [Cond.methodLink RX5 129 yX5_isName, Cond.instanceMethod yX5_isName, Cond.selects RX5 yX5_isName yX5_isName, Cond.initialized RX5, Cond.code yX5_isName cX5_isName 2 (some .boolean), Cond.fieldLink RX5 87 "SpanRowsModel" "names" "I", Cond.methodLink RX5 132 yX5_tells, Cond.instanceMethod yX5_tells, Cond.selects RX5 yX5_tells yX5_tells, Cond.code yX5_tells cX5_tells 9 (some .boolean), Cond.fieldLink RX5 9 "SpanRowsModel" "sort" "[I", Cond.fieldLink RX5 91 "SpanRowsModel" "told" "I", Cond.fieldLink RX5 13 "SpanRowsModel" "of" "[I", Cond.fieldLink RX5 16 "SpanRowsModel" "with" "[I", Cond.fieldLink RX5 19 "SpanRowsModel" "from" "[J", Cond.fieldLink RX5 23 "SpanRowsModel" "to" "[J", Cond.methodLink RX5 122 yX5_works, Cond.instanceMethod yX5_works, Cond.selects RX5 yX5_works yX5_works, Cond.code yX5_works cX5_works 5 (some .boolean), Cond.fieldLink RX5 56 "SpanRowsModel" "first" "[I", Cond.fieldLink RX5 59 "SpanRowsModel" "hasNumber" "[Z", Cond.fieldLink RX5 63 "SpanRowsModel" "hasSpan" "[Z", Cond.methodLink RX5 94 Lib.Math.min.name]
def wsX5_span_r2 : List Cond := [Cond.static Lib.Math.min.name, Cond.initialized "java/lang/Math", Cond.code Lib.Math.min.name Lib.Math.min.code 2 (some .int), Cond.methodLink RX5 100 Lib.Math.max.name, Cond.static Lib.Math.max.name, Cond.code Lib.Math.max.name Lib.Math.max.code 2 (some .int), Cond.fieldLink RX5 66 "SpanRowsModel" "number" "[J", Cond.fieldLink RX5 69 "SpanRowsModel" "low" "[J", Cond.methodLink RX5 103 Lib.MathLoose.max_long.x, Cond.static Lib.MathLoose.max_long.x, Cond.code Lib.MathLoose.max_long.x Lib.MathLoose.max_long.code 4 (some .long), Cond.fieldLink RX5 72 "SpanRowsModel" "high" "[J", Cond.methodLink RX5 106 Lib.MathLoose.min_long.x, Cond.static Lib.MathLoose.min_long.x, Cond.code Lib.MathLoose.min_long.x Lib.MathLoose.min_long.code 4 (some .long), Cond.fieldLink RX5 108 "SpanRowsModel" "kept" "I", Cond.methodLink RX5 111 yX5_holds, Cond.instanceMethod yX5_holds, Cond.selects RX5 yX5_holds yX5_holds, Cond.code yX5_holds cX5_holds 6 (some .boolean), Cond.fieldLink RX5 35 "SpanRowsModel" "keptMany" "[I", Cond.fieldLink RX5 38 "SpanRowsModel" "keptName" "[I", Cond.fieldLink RX5 41 "SpanRowsModel" "keptBy" "[J", Cond.fieldLink RX5 32 "SpanRowsModel" "keptKind" "[I"]
def wsX5_span_r3 : List Cond := [Cond.fieldLink RX5 44 "SpanRowsModel" "keptSum" "[J", Cond.methodLink RX5 115 yX5_isKnown, Cond.instanceMethod yX5_isKnown, Cond.selects RX5 yX5_isKnown yX5_isKnown, Cond.code yX5_isKnown cX5_isKnown 2 (some .boolean), Cond.fieldLink RX5 75 "SpanRowsModel" "hasTried" "[Z", Cond.methodLink RX5 118 yX5_numberOf, Cond.instanceMethod yX5_numberOf, Cond.selects RX5 yX5_numberOf yX5_numberOf, Cond.code yX5_numberOf cX5_numberOf 2 (some .long), Cond.fieldLink RX5 78 "SpanRowsModel" "tried" "[J", Cond.methodLink RX5 126 yX5_forget, Cond.instanceMethod yX5_forget, Cond.selects RX5 yX5_forget yX5_forget, Cond.code yX5_forget cX5_forget 1 none, Cond.fieldLink RX5 139 "SpanRowsModel" "isThere" "Z", Cond.fieldLink RX5 143 "SpanRowsModel" "ways" "I", Cond.fieldLink RX5 146 "SpanRowsModel" "frees" "I"]
def wsX5_span : List Cond := .code yX5_span cX5_span 6 (some .boolean) :: ((wsX5_span_r1 ++ (wsX5_span_r2 ++ wsX5_span_r3)) ++ wsX50)
def wsX5_give_r1 : List Cond := [Cond.methodLink RX5 129 yX5_isName, Cond.instanceMethod yX5_isName, Cond.selects RX5 yX5_isName yX5_isName, Cond.initialized RX5, Cond.code yX5_isName cX5_isName 2 (some .boolean), Cond.fieldLink RX5 87 "SpanRowsModel" "names" "I", Cond.methodLink RX5 132 yX5_tells, Cond.instanceMethod yX5_tells, Cond.selects RX5 yX5_tells yX5_tells, Cond.code yX5_tells cX5_tells 9 (some .boolean), Cond.fieldLink RX5 9 "SpanRowsModel" "sort" "[I", Cond.fieldLink RX5 91 "SpanRowsModel" "told" "I", Cond.fieldLink RX5 13 "SpanRowsModel" "of" "[I", Cond.fieldLink RX5 16 "SpanRowsModel" "with" "[I", Cond.fieldLink RX5 19 "SpanRowsModel" "from" "[J", Cond.fieldLink RX5 23 "SpanRowsModel" "to" "[J", Cond.methodLink RX5 122 yX5_works, Cond.instanceMethod yX5_works, Cond.selects RX5 yX5_works yX5_works, Cond.code yX5_works cX5_works 5 (some .boolean), Cond.fieldLink RX5 56 "SpanRowsModel" "first" "[I", Cond.fieldLink RX5 59 "SpanRowsModel" "hasNumber" "[Z", Cond.fieldLink RX5 63 "SpanRowsModel" "hasSpan" "[Z", Cond.methodLink RX5 94 Lib.Math.min.name]
def wsX5_give_r2 : List Cond := [Cond.static Lib.Math.min.name, Cond.initialized "java/lang/Math", Cond.code Lib.Math.min.name Lib.Math.min.code 2 (some .int), Cond.methodLink RX5 100 Lib.Math.max.name, Cond.static Lib.Math.max.name, Cond.code Lib.Math.max.name Lib.Math.max.code 2 (some .int), Cond.fieldLink RX5 66 "SpanRowsModel" "number" "[J", Cond.fieldLink RX5 69 "SpanRowsModel" "low" "[J", Cond.methodLink RX5 103 Lib.MathLoose.max_long.x, Cond.static Lib.MathLoose.max_long.x, Cond.code Lib.MathLoose.max_long.x Lib.MathLoose.max_long.code 4 (some .long), Cond.fieldLink RX5 72 "SpanRowsModel" "high" "[J", Cond.methodLink RX5 106 Lib.MathLoose.min_long.x, Cond.static Lib.MathLoose.min_long.x, Cond.code Lib.MathLoose.min_long.x Lib.MathLoose.min_long.code 4 (some .long), Cond.fieldLink RX5 108 "SpanRowsModel" "kept" "I", Cond.methodLink RX5 111 yX5_holds, Cond.instanceMethod yX5_holds, Cond.selects RX5 yX5_holds yX5_holds, Cond.code yX5_holds cX5_holds 6 (some .boolean), Cond.fieldLink RX5 35 "SpanRowsModel" "keptMany" "[I", Cond.fieldLink RX5 38 "SpanRowsModel" "keptName" "[I", Cond.fieldLink RX5 41 "SpanRowsModel" "keptBy" "[J", Cond.fieldLink RX5 32 "SpanRowsModel" "keptKind" "[I"]
def wsX5_give_r3 : List Cond := [Cond.fieldLink RX5 44 "SpanRowsModel" "keptSum" "[J", Cond.methodLink RX5 115 yX5_isKnown, Cond.instanceMethod yX5_isKnown, Cond.selects RX5 yX5_isKnown yX5_isKnown, Cond.code yX5_isKnown cX5_isKnown 2 (some .boolean), Cond.fieldLink RX5 75 "SpanRowsModel" "hasTried" "[Z", Cond.methodLink RX5 118 yX5_numberOf, Cond.instanceMethod yX5_numberOf, Cond.selects RX5 yX5_numberOf yX5_numberOf, Cond.code yX5_numberOf cX5_numberOf 2 (some .long), Cond.fieldLink RX5 78 "SpanRowsModel" "tried" "[J", Cond.methodLink RX5 126 yX5_forget, Cond.instanceMethod yX5_forget, Cond.selects RX5 yX5_forget yX5_forget, Cond.code yX5_forget cX5_forget 1 none, Cond.fieldLink RX5 139 "SpanRowsModel" "isThere" "Z", Cond.fieldLink RX5 143 "SpanRowsModel" "ways" "I", Cond.fieldLink RX5 146 "SpanRowsModel" "frees" "I"]
def wsX5_give : List Cond := .code yX5_give cX5_give 4 (some .boolean) :: ((wsX5_give_r1 ++ (wsX5_give_r2 ++ wsX5_give_r3)) ++ wsX50)
def wsX5_equal_r1 : List Cond := [Cond.methodLink RX5 129 yX5_isName, Cond.instanceMethod yX5_isName, Cond.selects RX5 yX5_isName yX5_isName, Cond.initialized RX5, Cond.code yX5_isName cX5_isName 2 (some .boolean), Cond.fieldLink RX5 87 "SpanRowsModel" "names" "I", Cond.methodLink RX5 132 yX5_tells, Cond.instanceMethod yX5_tells, Cond.selects RX5 yX5_tells yX5_tells, Cond.code yX5_tells cX5_tells 9 (some .boolean), Cond.fieldLink RX5 9 "SpanRowsModel" "sort" "[I", Cond.fieldLink RX5 91 "SpanRowsModel" "told" "I", Cond.fieldLink RX5 13 "SpanRowsModel" "of" "[I", Cond.fieldLink RX5 16 "SpanRowsModel" "with" "[I", Cond.fieldLink RX5 19 "SpanRowsModel" "from" "[J", Cond.fieldLink RX5 23 "SpanRowsModel" "to" "[J", Cond.methodLink RX5 122 yX5_works, Cond.instanceMethod yX5_works, Cond.selects RX5 yX5_works yX5_works, Cond.code yX5_works cX5_works 5 (some .boolean), Cond.fieldLink RX5 56 "SpanRowsModel" "first" "[I", Cond.fieldLink RX5 59 "SpanRowsModel" "hasNumber" "[Z", Cond.fieldLink RX5 63 "SpanRowsModel" "hasSpan" "[Z", Cond.methodLink RX5 94 Lib.Math.min.name]
def wsX5_equal_r2 : List Cond := [Cond.static Lib.Math.min.name, Cond.initialized "java/lang/Math", Cond.code Lib.Math.min.name Lib.Math.min.code 2 (some .int), Cond.methodLink RX5 100 Lib.Math.max.name, Cond.static Lib.Math.max.name, Cond.code Lib.Math.max.name Lib.Math.max.code 2 (some .int), Cond.fieldLink RX5 66 "SpanRowsModel" "number" "[J", Cond.fieldLink RX5 69 "SpanRowsModel" "low" "[J", Cond.methodLink RX5 103 Lib.MathLoose.max_long.x, Cond.static Lib.MathLoose.max_long.x, Cond.code Lib.MathLoose.max_long.x Lib.MathLoose.max_long.code 4 (some .long), Cond.fieldLink RX5 72 "SpanRowsModel" "high" "[J", Cond.methodLink RX5 106 Lib.MathLoose.min_long.x, Cond.static Lib.MathLoose.min_long.x, Cond.code Lib.MathLoose.min_long.x Lib.MathLoose.min_long.code 4 (some .long), Cond.fieldLink RX5 108 "SpanRowsModel" "kept" "I", Cond.methodLink RX5 111 yX5_holds, Cond.instanceMethod yX5_holds, Cond.selects RX5 yX5_holds yX5_holds, Cond.code yX5_holds cX5_holds 6 (some .boolean), Cond.fieldLink RX5 35 "SpanRowsModel" "keptMany" "[I", Cond.fieldLink RX5 38 "SpanRowsModel" "keptName" "[I", Cond.fieldLink RX5 41 "SpanRowsModel" "keptBy" "[J", Cond.fieldLink RX5 32 "SpanRowsModel" "keptKind" "[I"]
def wsX5_equal_r3 : List Cond := [Cond.fieldLink RX5 44 "SpanRowsModel" "keptSum" "[J", Cond.methodLink RX5 115 yX5_isKnown, Cond.instanceMethod yX5_isKnown, Cond.selects RX5 yX5_isKnown yX5_isKnown, Cond.code yX5_isKnown cX5_isKnown 2 (some .boolean), Cond.fieldLink RX5 75 "SpanRowsModel" "hasTried" "[Z", Cond.methodLink RX5 118 yX5_numberOf, Cond.instanceMethod yX5_numberOf, Cond.selects RX5 yX5_numberOf yX5_numberOf, Cond.code yX5_numberOf cX5_numberOf 2 (some .long), Cond.fieldLink RX5 78 "SpanRowsModel" "tried" "[J", Cond.methodLink RX5 126 yX5_forget, Cond.instanceMethod yX5_forget, Cond.selects RX5 yX5_forget yX5_forget, Cond.code yX5_forget cX5_forget 1 none, Cond.fieldLink RX5 139 "SpanRowsModel" "isThere" "Z", Cond.fieldLink RX5 143 "SpanRowsModel" "ways" "I", Cond.fieldLink RX5 146 "SpanRowsModel" "frees" "I"]
def wsX5_equal : List Cond := .code yX5_equal cX5_equal 3 (some .boolean) :: ((wsX5_equal_r1 ++ (wsX5_equal_r2 ++ wsX5_equal_r3)) ++ wsX50)
def wsX5_put : List Cond := .code yX5_put cX5_put 4 (some .int) :: ([.fieldLink RX5 136 "SpanRowsModel" "row" "I", .fieldLink RX5 26 "SpanRowsModel" "rowName" "[I", .fieldLink RX5 29 "SpanRowsModel" "rowBy" "[J", .methodLink RX5 129 yX5_isName, .instanceMethod yX5_isName, .selects RX5 yX5_isName yX5_isName, .initialized RX5, .code yX5_isName cX5_isName 2 (some .boolean), .fieldLink RX5 87 "SpanRowsModel" "names" "I"] ++ wsX50)
def wsX5_keep_r1 : List Cond := [Cond.fieldLink RX5 136 "SpanRowsModel" "row" "I", Cond.fieldLink RX5 108 "SpanRowsModel" "kept" "I", Cond.fieldLink RX5 32 "SpanRowsModel" "keptKind" "[I", Cond.fieldLink RX5 35 "SpanRowsModel" "keptMany" "[I", Cond.fieldLink RX5 44 "SpanRowsModel" "keptSum" "[J", Cond.fieldLink RX5 38 "SpanRowsModel" "keptName" "[I", Cond.fieldLink RX5 26 "SpanRowsModel" "rowName" "[I", Cond.fieldLink RX5 41 "SpanRowsModel" "keptBy" "[J", Cond.fieldLink RX5 29 "SpanRowsModel" "rowBy" "[J", Cond.methodLink RX5 126 yX5_forget, Cond.instanceMethod yX5_forget, Cond.selects RX5 yX5_forget yX5_forget, Cond.initialized RX5, Cond.code yX5_forget cX5_forget 1 none, Cond.fieldLink RX5 139 "SpanRowsModel" "isThere" "Z", Cond.fieldLink RX5 143 "SpanRowsModel" "ways" "I", Cond.fieldLink RX5 146 "SpanRowsModel" "frees" "I", Cond.methodLink RX5 111 yX5_holds, Cond.instanceMethod yX5_holds, Cond.selects RX5 yX5_holds yX5_holds, Cond.code yX5_holds cX5_holds 6 (some .boolean), Cond.methodLink RX5 115 yX5_isKnown, Cond.instanceMethod yX5_isKnown, Cond.selects RX5 yX5_isKnown yX5_isKnown]
def wsX5_keep_r2 : List Cond := [Cond.code yX5_isKnown cX5_isKnown 2 (some .boolean), Cond.fieldLink RX5 59 "SpanRowsModel" "hasNumber" "[Z", Cond.fieldLink RX5 56 "SpanRowsModel" "first" "[I", Cond.fieldLink RX5 75 "SpanRowsModel" "hasTried" "[Z", Cond.methodLink RX5 118 yX5_numberOf, Cond.instanceMethod yX5_numberOf, Cond.selects RX5 yX5_numberOf yX5_numberOf, Cond.code yX5_numberOf cX5_numberOf 2 (some .long), Cond.fieldLink RX5 66 "SpanRowsModel" "number" "[J", Cond.fieldLink RX5 78 "SpanRowsModel" "tried" "[J"]
def wsX5_keep : List Cond := .code yX5_keep cX5_keep 6 (some .int) :: ((wsX5_keep_r1 ++ wsX5_keep_r2) ++ wsX50)
def wsX5_collect : List Cond := .code yX5_collect cX5_collect 7 (some .int) :: ([.fieldLink RX5 136 "SpanRowsModel" "row" "I", .fieldLink RX5 56 "SpanRowsModel" "first" "[I", .fieldLink RX5 26 "SpanRowsModel" "rowName" "[I", .fieldLink RX5 59 "SpanRowsModel" "hasNumber" "[Z", .fieldLink RX5 81 "SpanRowsModel" "free" "[I", .fieldLink RX5 63 "SpanRowsModel" "hasSpan" "[Z"] ++ wsX50)
def wsX5_tries_r1 : List Cond := [Cond.fieldLink RX5 78 "SpanRowsModel" "tried" "[J", Cond.fieldLink RX5 81 "SpanRowsModel" "free" "[I", Cond.fieldLink RX5 69 "SpanRowsModel" "low" "[J", Cond.fieldLink RX5 149 "SpanRowsModel" "tries" "I", Cond.fieldLink RX5 75 "SpanRowsModel" "hasTried" "[Z", Cond.fieldLink RX5 108 "SpanRowsModel" "kept" "I", Cond.fieldLink RX5 84 "SpanRowsModel" "way" "[J", Cond.fieldLink RX5 72 "SpanRowsModel" "high" "[J", Cond.methodLink RX5 111 yX5_holds, Cond.instanceMethod yX5_holds, Cond.selects RX5 yX5_holds yX5_holds, Cond.initialized RX5, Cond.code yX5_holds cX5_holds 6 (some .boolean), Cond.fieldLink RX5 35 "SpanRowsModel" "keptMany" "[I", Cond.fieldLink RX5 38 "SpanRowsModel" "keptName" "[I", Cond.fieldLink RX5 41 "SpanRowsModel" "keptBy" "[J", Cond.fieldLink RX5 32 "SpanRowsModel" "keptKind" "[I", Cond.fieldLink RX5 44 "SpanRowsModel" "keptSum" "[J", Cond.methodLink RX5 115 yX5_isKnown, Cond.instanceMethod yX5_isKnown, Cond.selects RX5 yX5_isKnown yX5_isKnown, Cond.code yX5_isKnown cX5_isKnown 2 (some .boolean), Cond.fieldLink RX5 59 "SpanRowsModel" "hasNumber" "[Z", Cond.fieldLink RX5 56 "SpanRowsModel" "first" "[I"]
def wsX5_tries_r2 : List Cond := [Cond.methodLink RX5 118 yX5_numberOf, Cond.instanceMethod yX5_numberOf, Cond.selects RX5 yX5_numberOf yX5_numberOf, Cond.code yX5_numberOf cX5_numberOf 2 (some .long), Cond.fieldLink RX5 66 "SpanRowsModel" "number" "[J"]
def wsX5_tries : List Cond := .code yX5_tries cX5_tries 7 (some .int) :: ((wsX5_tries_r1 ++ wsX5_tries_r2) ++ wsX50)
def wsX5_label_r1 : List Cond := [Cond.fieldLink RX5 149 "SpanRowsModel" "tries" "I", Cond.fieldLink RX5 136 "SpanRowsModel" "row" "I", Cond.fieldLink RX5 75 "SpanRowsModel" "hasTried" "[Z", Cond.fieldLink RX5 81 "SpanRowsModel" "free" "[I", Cond.fieldLink RX5 143 "SpanRowsModel" "ways" "I", Cond.fieldLink RX5 146 "SpanRowsModel" "frees" "I", Cond.fieldLink RX5 139 "SpanRowsModel" "isThere" "Z", Cond.methodLink RX5 126 yX5_forget, Cond.instanceMethod yX5_forget, Cond.selects RX5 yX5_forget yX5_forget, Cond.initialized RX5, Cond.code yX5_forget cX5_forget 1 none, Cond.methodLink RX5 152 yX5_collect, Cond.instanceMethod yX5_collect, Cond.selects RX5 yX5_collect yX5_collect, Cond.code yX5_collect cX5_collect 7 (some .int), Cond.fieldLink RX5 56 "SpanRowsModel" "first" "[I", Cond.fieldLink RX5 26 "SpanRowsModel" "rowName" "[I", Cond.fieldLink RX5 59 "SpanRowsModel" "hasNumber" "[Z", Cond.fieldLink RX5 63 "SpanRowsModel" "hasSpan" "[Z", Cond.methodLink RX5 156 yX5_tries, Cond.instanceMethod yX5_tries, Cond.selects RX5 yX5_tries yX5_tries, Cond.code yX5_tries cX5_tries 7 (some .int)]
def wsX5_label_r2 : List Cond := [Cond.fieldLink RX5 78 "SpanRowsModel" "tried" "[J", Cond.fieldLink RX5 69 "SpanRowsModel" "low" "[J", Cond.fieldLink RX5 108 "SpanRowsModel" "kept" "I", Cond.fieldLink RX5 84 "SpanRowsModel" "way" "[J", Cond.fieldLink RX5 72 "SpanRowsModel" "high" "[J", Cond.methodLink RX5 111 yX5_holds, Cond.instanceMethod yX5_holds, Cond.selects RX5 yX5_holds yX5_holds, Cond.code yX5_holds cX5_holds 6 (some .boolean), Cond.fieldLink RX5 35 "SpanRowsModel" "keptMany" "[I", Cond.fieldLink RX5 38 "SpanRowsModel" "keptName" "[I", Cond.fieldLink RX5 41 "SpanRowsModel" "keptBy" "[J", Cond.fieldLink RX5 32 "SpanRowsModel" "keptKind" "[I", Cond.fieldLink RX5 44 "SpanRowsModel" "keptSum" "[J", Cond.methodLink RX5 115 yX5_isKnown, Cond.instanceMethod yX5_isKnown, Cond.selects RX5 yX5_isKnown yX5_isKnown, Cond.code yX5_isKnown cX5_isKnown 2 (some .boolean), Cond.methodLink RX5 118 yX5_numberOf, Cond.instanceMethod yX5_numberOf, Cond.selects RX5 yX5_numberOf yX5_numberOf, Cond.code yX5_numberOf cX5_numberOf 2 (some .long), Cond.fieldLink RX5 66 "SpanRowsModel" "number" "[J"]
def wsX5_label : List Cond := .code yX5_label cX5_label 4 (some .int) :: ((wsX5_label_r1 ++ wsX5_label_r2) ++ wsX50)
def wsX5_isWay : List Cond := .code yX5_isWay cX5_isWay 2 (some .boolean) :: ([.fieldLink RX5 139 "SpanRowsModel" "isThere" "Z", .fieldLink RX5 143 "SpanRowsModel" "ways" "I"] ++ wsX50)
def wsX5_way : List Cond := .code yX5_way cX5_way 3 (some .long) :: ([.fieldLink RX5 146 "SpanRowsModel" "frees" "I", .fieldLink RX5 84 "SpanRowsModel" "way" "[J", .methodLink RX5 159 yX5_isWay, .instanceMethod yX5_isWay, .selects RX5 yX5_isWay yX5_isWay, .initialized RX5, .code yX5_isWay cX5_isWay 2 (some .boolean), .fieldLink RX5 139 "SpanRowsModel" "isThere" "Z", .fieldLink RX5 143 "SpanRowsModel" "ways" "I"] ++ wsX50)
def wsX5_take_r1 : List Cond := [Cond.fieldLink RX5 146 "SpanRowsModel" "frees" "I", Cond.fieldLink RX5 9 "SpanRowsModel" "sort" "[I", Cond.fieldLink RX5 91 "SpanRowsModel" "told" "I", Cond.fieldLink RX5 13 "SpanRowsModel" "of" "[I", Cond.fieldLink RX5 81 "SpanRowsModel" "free" "[I", Cond.fieldLink RX5 16 "SpanRowsModel" "with" "[I", Cond.fieldLink RX5 19 "SpanRowsModel" "from" "[J", Cond.fieldLink RX5 84 "SpanRowsModel" "way" "[J", Cond.methodLink RX5 159 yX5_isWay, Cond.instanceMethod yX5_isWay, Cond.selects RX5 yX5_isWay yX5_isWay, Cond.initialized RX5, Cond.code yX5_isWay cX5_isWay 2 (some .boolean), Cond.fieldLink RX5 139 "SpanRowsModel" "isThere" "Z", Cond.fieldLink RX5 143 "SpanRowsModel" "ways" "I", Cond.methodLink RX5 122 yX5_works, Cond.instanceMethod yX5_works, Cond.selects RX5 yX5_works yX5_works, Cond.code yX5_works cX5_works 5 (some .boolean), Cond.fieldLink RX5 87 "SpanRowsModel" "names" "I", Cond.fieldLink RX5 56 "SpanRowsModel" "first" "[I", Cond.fieldLink RX5 59 "SpanRowsModel" "hasNumber" "[Z", Cond.fieldLink RX5 63 "SpanRowsModel" "hasSpan" "[Z", Cond.methodLink RX5 94 Lib.Math.min.name]
def wsX5_take_r2 : List Cond := [Cond.static Lib.Math.min.name, Cond.initialized "java/lang/Math", Cond.code Lib.Math.min.name Lib.Math.min.code 2 (some .int), Cond.methodLink RX5 100 Lib.Math.max.name, Cond.static Lib.Math.max.name, Cond.code Lib.Math.max.name Lib.Math.max.code 2 (some .int), Cond.fieldLink RX5 66 "SpanRowsModel" "number" "[J", Cond.fieldLink RX5 69 "SpanRowsModel" "low" "[J", Cond.methodLink RX5 103 Lib.MathLoose.max_long.x, Cond.static Lib.MathLoose.max_long.x, Cond.code Lib.MathLoose.max_long.x Lib.MathLoose.max_long.code 4 (some .long), Cond.fieldLink RX5 72 "SpanRowsModel" "high" "[J", Cond.fieldLink RX5 23 "SpanRowsModel" "to" "[J", Cond.methodLink RX5 106 Lib.MathLoose.min_long.x, Cond.static Lib.MathLoose.min_long.x, Cond.code Lib.MathLoose.min_long.x Lib.MathLoose.min_long.code 4 (some .long), Cond.fieldLink RX5 108 "SpanRowsModel" "kept" "I", Cond.methodLink RX5 111 yX5_holds, Cond.instanceMethod yX5_holds, Cond.selects RX5 yX5_holds yX5_holds, Cond.code yX5_holds cX5_holds 6 (some .boolean), Cond.fieldLink RX5 35 "SpanRowsModel" "keptMany" "[I", Cond.fieldLink RX5 38 "SpanRowsModel" "keptName" "[I", Cond.fieldLink RX5 41 "SpanRowsModel" "keptBy" "[J"]
def wsX5_take_r3 : List Cond := [Cond.fieldLink RX5 32 "SpanRowsModel" "keptKind" "[I", Cond.fieldLink RX5 44 "SpanRowsModel" "keptSum" "[J", Cond.methodLink RX5 115 yX5_isKnown, Cond.instanceMethod yX5_isKnown, Cond.selects RX5 yX5_isKnown yX5_isKnown, Cond.code yX5_isKnown cX5_isKnown 2 (some .boolean), Cond.fieldLink RX5 75 "SpanRowsModel" "hasTried" "[Z", Cond.methodLink RX5 118 yX5_numberOf, Cond.instanceMethod yX5_numberOf, Cond.selects RX5 yX5_numberOf yX5_numberOf, Cond.code yX5_numberOf cX5_numberOf 2 (some .long), Cond.fieldLink RX5 78 "SpanRowsModel" "tried" "[J", Cond.methodLink RX5 126 yX5_forget, Cond.instanceMethod yX5_forget, Cond.selects RX5 yX5_forget yX5_forget, Cond.code yX5_forget cX5_forget 1 none]
def wsX5_take : List Cond := .code yX5_take cX5_take 4 (some .boolean) :: ((wsX5_take_r1 ++ (wsX5_take_r2 ++ wsX5_take_r3)) ++ wsX50)
def wsX5_mark : List Cond := .code yX5_mark cX5_mark 1 (some .int) :: ([.fieldLink RX5 162 "SpanRowsModel" "marks" "I", .fieldLink RX5 47 "SpanRowsModel" "markNames" "[I", .fieldLink RX5 87 "SpanRowsModel" "names" "I", .fieldLink RX5 50 "SpanRowsModel" "markTold" "[I", .fieldLink RX5 91 "SpanRowsModel" "told" "I", .fieldLink RX5 53 "SpanRowsModel" "markKept" "[I", .fieldLink RX5 108 "SpanRowsModel" "kept" "I"] ++ wsX50)
def wsX5_back_r1 : List Cond := [Cond.fieldLink RX5 162 "SpanRowsModel" "marks" "I", Cond.fieldLink RX5 47 "SpanRowsModel" "markNames" "[I", Cond.fieldLink RX5 87 "SpanRowsModel" "names" "I", Cond.fieldLink RX5 50 "SpanRowsModel" "markTold" "[I", Cond.fieldLink RX5 91 "SpanRowsModel" "told" "I", Cond.fieldLink RX5 53 "SpanRowsModel" "markKept" "[I", Cond.fieldLink RX5 108 "SpanRowsModel" "kept" "I", Cond.fieldLink RX5 136 "SpanRowsModel" "row" "I", Cond.fieldLink RX5 26 "SpanRowsModel" "rowName" "[I", Cond.methodLink RX5 122 yX5_works, Cond.instanceMethod yX5_works, Cond.selects RX5 yX5_works yX5_works, Cond.initialized RX5, Cond.code yX5_works cX5_works 5 (some .boolean), Cond.fieldLink RX5 56 "SpanRowsModel" "first" "[I", Cond.fieldLink RX5 59 "SpanRowsModel" "hasNumber" "[Z", Cond.fieldLink RX5 63 "SpanRowsModel" "hasSpan" "[Z", Cond.fieldLink RX5 9 "SpanRowsModel" "sort" "[I", Cond.fieldLink RX5 13 "SpanRowsModel" "of" "[I", Cond.fieldLink RX5 16 "SpanRowsModel" "with" "[I", Cond.methodLink RX5 94 Lib.Math.min.name, Cond.static Lib.Math.min.name, Cond.initialized "java/lang/Math", Cond.code Lib.Math.min.name Lib.Math.min.code 2 (some .int)]
def wsX5_back_r2 : List Cond := [Cond.methodLink RX5 100 Lib.Math.max.name, Cond.static Lib.Math.max.name, Cond.code Lib.Math.max.name Lib.Math.max.code 2 (some .int), Cond.fieldLink RX5 66 "SpanRowsModel" "number" "[J", Cond.fieldLink RX5 19 "SpanRowsModel" "from" "[J", Cond.fieldLink RX5 69 "SpanRowsModel" "low" "[J", Cond.methodLink RX5 103 Lib.MathLoose.max_long.x, Cond.static Lib.MathLoose.max_long.x, Cond.code Lib.MathLoose.max_long.x Lib.MathLoose.max_long.code 4 (some .long), Cond.fieldLink RX5 72 "SpanRowsModel" "high" "[J", Cond.fieldLink RX5 23 "SpanRowsModel" "to" "[J", Cond.methodLink RX5 106 Lib.MathLoose.min_long.x, Cond.static Lib.MathLoose.min_long.x, Cond.code Lib.MathLoose.min_long.x Lib.MathLoose.min_long.code 4 (some .long), Cond.methodLink RX5 111 yX5_holds, Cond.instanceMethod yX5_holds, Cond.selects RX5 yX5_holds yX5_holds, Cond.code yX5_holds cX5_holds 6 (some .boolean), Cond.fieldLink RX5 35 "SpanRowsModel" "keptMany" "[I", Cond.fieldLink RX5 38 "SpanRowsModel" "keptName" "[I", Cond.fieldLink RX5 41 "SpanRowsModel" "keptBy" "[J", Cond.fieldLink RX5 32 "SpanRowsModel" "keptKind" "[I", Cond.fieldLink RX5 44 "SpanRowsModel" "keptSum" "[J", Cond.methodLink RX5 115 yX5_isKnown]
def wsX5_back_r3 : List Cond := [Cond.instanceMethod yX5_isKnown, Cond.selects RX5 yX5_isKnown yX5_isKnown, Cond.code yX5_isKnown cX5_isKnown 2 (some .boolean), Cond.fieldLink RX5 75 "SpanRowsModel" "hasTried" "[Z", Cond.methodLink RX5 118 yX5_numberOf, Cond.instanceMethod yX5_numberOf, Cond.selects RX5 yX5_numberOf yX5_numberOf, Cond.code yX5_numberOf cX5_numberOf 2 (some .long), Cond.fieldLink RX5 78 "SpanRowsModel" "tried" "[J", Cond.methodLink RX5 126 yX5_forget, Cond.instanceMethod yX5_forget, Cond.selects RX5 yX5_forget yX5_forget, Cond.code yX5_forget cX5_forget 1 none, Cond.fieldLink RX5 139 "SpanRowsModel" "isThere" "Z", Cond.fieldLink RX5 143 "SpanRowsModel" "ways" "I", Cond.fieldLink RX5 146 "SpanRowsModel" "frees" "I"]
def wsX5_back : List Cond := .code yX5_back cX5_back 3 (some .int) :: ((wsX5_back_r1 ++ (wsX5_back_r2 ++ wsX5_back_r3)) ++ wsX50)
def wsX5_about : List Cond := .code yX5_about cX5_about 7 (some .int) :: ([.fieldLink RX5 59 "SpanRowsModel" "hasNumber" "[Z", .fieldLink RX5 56 "SpanRowsModel" "first" "[I", .fieldLink RX5 63 "SpanRowsModel" "hasSpan" "[Z", .fieldLink RX5 87 "SpanRowsModel" "names" "I", .fieldLink RX5 108 "SpanRowsModel" "kept" "I", .fieldLink RX5 35 "SpanRowsModel" "keptMany" "[I", .fieldLink RX5 38 "SpanRowsModel" "keptName" "[I", .fieldLink RX5 146 "SpanRowsModel" "frees" "I", .fieldLink RX5 139 "SpanRowsModel" "isThere" "Z", .fieldLink RX5 81 "SpanRowsModel" "free" "[I", .methodLink RX5 129 yX5_isName, .instanceMethod yX5_isName, .selects RX5 yX5_isName yX5_isName, .initialized RX5, .code yX5_isName cX5_isName 2 (some .boolean)] ++ wsX50)
def wsX5_bound : List Cond := .code yX5_bound cX5_bound 4 (some .long) :: ([.fieldLink RX5 56 "SpanRowsModel" "first" "[I", .fieldLink RX5 59 "SpanRowsModel" "hasNumber" "[Z", .fieldLink RX5 66 "SpanRowsModel" "number" "[J", .fieldLink RX5 63 "SpanRowsModel" "hasSpan" "[Z", .fieldLink RX5 72 "SpanRowsModel" "high" "[J", .fieldLink RX5 69 "SpanRowsModel" "low" "[J", .constantLong RX5 167 (9223372036854775807), .constantLong RX5 169 (-9223372036854775808), .methodLink RX5 129 yX5_isName, .instanceMethod yX5_isName, .selects RX5 yX5_isName yX5_isName, .initialized RX5, .code yX5_isName cX5_isName 2 (some .boolean), .fieldLink RX5 87 "SpanRowsModel" "names" "I"] ++ wsX50)
def wsX5_kept : List Cond := .code yX5_kept cX5_kept 5 (some .int) :: ([.fieldLink RX5 108 "SpanRowsModel" "kept" "I", .fieldLink RX5 32 "SpanRowsModel" "keptKind" "[I", .fieldLink RX5 35 "SpanRowsModel" "keptMany" "[I", .fieldLink RX5 59 "SpanRowsModel" "hasNumber" "[Z", .fieldLink RX5 56 "SpanRowsModel" "first" "[I", .fieldLink RX5 38 "SpanRowsModel" "keptName" "[I"] ++ wsX50)
def wsX5_count : List Cond := .code yX5_count cX5_count 2 (some .int) :: ([.fieldLink RX5 87 "SpanRowsModel" "names" "I", .fieldLink RX5 108 "SpanRowsModel" "kept" "I", .fieldLink RX5 162 "SpanRowsModel" "marks" "I", .fieldLink RX5 136 "SpanRowsModel" "row" "I", .fieldLink RX5 143 "SpanRowsModel" "ways" "I", .fieldLink RX5 146 "SpanRowsModel" "frees" "I", .fieldLink RX5 149 "SpanRowsModel" "tries" "I"] ++ wsX50)
def wsJ9_max_7cf53 : List Cond := .code yJ9_max_7cf53 cJ9_max_7cf53 2 (some .int) :: ([])
def wsJ9_max_f86c9 : List Cond := .code yJ9_max_f86c9 cJ9_max_f86c9 4 (some .long) :: ([])
def wsJ9_min_7cf53 : List Cond := .code yJ9_min_7cf53 cJ9_min_7cf53 2 (some .int) :: ([])
def wsJ9_min_f86c9 : List Cond := .code yJ9_min_f86c9 cJ9_min_f86c9 4 (some .long) :: ([])
def wsL_law_r1 : List Cond := [Cond.classLink RL 7 RX4, Cond.instantiable RX4 7, Cond.initialized RX4, Cond.classLink RL 10 RX5, Cond.instantiable RX5 34, Cond.initialized RX5, Cond.constantLong RL 18 (4294967295), Cond.methodLink RL 9 yX4_init, Cond.instanceMethod yX4_init, Cond.code yX4_init cX4_init 1 none, Cond.methodLink RX4 1 objectInit, Cond.instanceMethod objectInit, Cond.code objectInit ⟨#[0xb1]⟩ 1 none, Cond.classLink RX4 7 RX1, Cond.instantiable RX1 7, Cond.initialized RX1, Cond.fieldLink RX4 10 "SpanRows" "names" "LSpanRows$Names;", Cond.classLink RX4 16 RX2, Cond.instantiable RX2 3, Cond.initialized RX2, Cond.fieldLink RX4 19 "SpanRows" "row" "LSpanRows$Row;", Cond.classLink RX4 23 RJx4a65c, Cond.instantiable RJx4a65c 3, Cond.initialized RJx4a65c]
def wsL_law_r2 : List Cond := [Cond.fieldLink RX4 26 "SpanRows" "keptRows" "Ljava/util/ArrayList;", Cond.classLink RX4 30 RX3, Cond.instantiable RX3 6, Cond.initialized RX3, Cond.fieldLink RX4 33 "SpanRows" "search" "LSpanRows$Search;", Cond.fieldLink RX4 37 "SpanRows" "savedNames" "Ljava/util/ArrayList;", Cond.arrayClass .int, Cond.fieldLink RX4 40 "SpanRows" "savedKept" "[I", Cond.fieldLink RX4 44 "SpanRows" "markCount" "I", Cond.instanceMethod yX1_init, Cond.code yX1_init cX1_init 1 none, Cond.methodLink RX1 3 objectInit, Cond.fieldLink RX1 9 "SpanRows$Names" "least" "[I", Cond.arrayClass .boolean, Cond.fieldLink RX1 15 "SpanRows$Names" "known" "[Z", Cond.arrayClass .long, Cond.fieldLink RX1 19 "SpanRows$Names" "number" "[J", Cond.fieldLink RX1 23 "SpanRows$Names" "spanned" "[Z", Cond.fieldLink RX1 26 "SpanRows$Names" "low" "[J", Cond.fieldLink RX1 29 "SpanRows$Names" "high" "[J", Cond.instanceMethod yX2_init, Cond.code yX2_init cX2_init 1 none, Cond.methodLink RX2 3 objectInit, Cond.fieldLink RX2 9 "SpanRows$Row" "places" "[I"]
def wsL_law_r3 : List Cond := [Cond.fieldLink RX2 15 "SpanRows$Row" "factors" "[J", Cond.methodLink RX4 25 yJx4a65c_init_da8c8, Cond.instanceMethod yJx4a65c_init_da8c8, Cond.code yJx4a65c_init_da8c8 cJx4a65c_init_da8c8 1 none, Cond.fieldLink RJx4a65c 39 "java/util/ArrayList" "DEFAULTCAPACITY_EMPTY_ELEMENTDATA" "[Ljava/lang/Object;", Cond.fieldLink RJx4a65c 9 "java/util/ArrayList" "elementData" "[Ljava/lang/Object;", Cond.methodLink RJx4a65c 1 yJxc12de_init_da8c8, Cond.instanceMethod yJxc12de_init_da8c8, Cond.initialized RJxc12de, Cond.code yJxc12de_init_da8c8 cJxc12de_init_da8c8 1 none, Cond.fieldLink RJxc12de 7 "java/util/AbstractList" "modCount" "I", Cond.methodLink RJxc12de 1 yJxa1e45_init_da8c8, Cond.instanceMethod yJxa1e45_init_da8c8, Cond.initialized RJxa1e45, Cond.code yJxa1e45_init_da8c8 cJxa1e45_init_da8c8 1 none, Cond.methodLink RJxa1e45 1 objectInit, Cond.instanceMethod yX3_init, Cond.code yX3_init cX3_init 1 none, Cond.methodLink RX3 3 objectInit, Cond.fieldLink RX3 9 "SpanRows$Search" "free" "[I", Cond.fieldLink RX3 15 "SpanRows$Search" "ways" "[J", Cond.fieldLink RX3 19 "SpanRows$Search" "lookAt" "[I", Cond.methodLink RL 12 yX5_init, Cond.instanceMethod yX5_init]
def wsL_law_r4 : List Cond := [Cond.code yX5_init cX5_init 1 none, Cond.methodLink RX5 1 objectInit, Cond.fieldLink RX5 9 "SpanRowsModel" "sort" "[I", Cond.fieldLink RX5 13 "SpanRowsModel" "of" "[I", Cond.fieldLink RX5 16 "SpanRowsModel" "with" "[I", Cond.fieldLink RX5 19 "SpanRowsModel" "from" "[J", Cond.fieldLink RX5 23 "SpanRowsModel" "to" "[J", Cond.fieldLink RX5 26 "SpanRowsModel" "rowName" "[I", Cond.fieldLink RX5 29 "SpanRowsModel" "rowBy" "[J", Cond.fieldLink RX5 32 "SpanRowsModel" "keptKind" "[I", Cond.fieldLink RX5 35 "SpanRowsModel" "keptMany" "[I", Cond.fieldLink RX5 38 "SpanRowsModel" "keptName" "[I", Cond.fieldLink RX5 41 "SpanRowsModel" "keptBy" "[J", Cond.fieldLink RX5 44 "SpanRowsModel" "keptSum" "[J", Cond.fieldLink RX5 47 "SpanRowsModel" "markNames" "[I", Cond.fieldLink RX5 50 "SpanRowsModel" "markTold" "[I", Cond.fieldLink RX5 53 "SpanRowsModel" "markKept" "[I", Cond.fieldLink RX5 56 "SpanRowsModel" "first" "[I", Cond.fieldLink RX5 59 "SpanRowsModel" "hasNumber" "[Z", Cond.fieldLink RX5 63 "SpanRowsModel" "hasSpan" "[Z", Cond.fieldLink RX5 66 "SpanRowsModel" "number" "[J", Cond.fieldLink RX5 69 "SpanRowsModel" "low" "[J", Cond.fieldLink RX5 72 "SpanRowsModel" "high" "[J", Cond.fieldLink RX5 75 "SpanRowsModel" "hasTried" "[Z"]
def wsL_law_r5 : List Cond := [Cond.fieldLink RX5 78 "SpanRowsModel" "tried" "[J", Cond.fieldLink RX5 81 "SpanRowsModel" "free" "[I", Cond.fieldLink RX5 84 "SpanRowsModel" "way" "[J", Cond.methodLink RL 13 yX4_name, Cond.instanceMethod yX4_name, Cond.selects RX4 yX4_name yX4_name, Cond.code yX4_name cX4_name 1 (some .int), Cond.fieldLink RX4 48 "SpanRows$Names" "size" "I", Cond.methodLink RX4 51 yX3_endWays, Cond.instanceMethod yX3_endWays, Cond.selects RX3 yX3_endWays yX3_endWays, Cond.code yX3_endWays cX3_endWays 1 none, Cond.fieldLink RX3 22 "SpanRows$Search" "freeCount" "I", Cond.fieldLink RX3 26 "SpanRows$Search" "wayCount" "I", Cond.methodLink RX4 54 yX1_addFree, Cond.instanceMethod yX1_addFree, Cond.selects RX1 yX1_addFree yX1_addFree, Cond.code yX1_addFree cX1_addFree 2 (some .int), Cond.fieldLink RX1 32 "SpanRows$Names" "size" "I", Cond.constantLong RX1 38 (-9223372036854775808), Cond.constantLong RX1 40 (9223372036854775807), Cond.methodLink RL 17 yX5_name, Cond.instanceMethod yX5_name, Cond.selects RX5 yX5_name yX5_name]
def wsL_law_r6 : List Cond := [Cond.code yX5_name cX5_name 2 (some .int), Cond.fieldLink RX5 87 "SpanRowsModel" "names" "I", Cond.methodLink RX5 122 yX5_works, Cond.instanceMethod yX5_works, Cond.selects RX5 yX5_works yX5_works, Cond.code yX5_works cX5_works 5 (some .boolean), Cond.fieldLink RX5 91 "SpanRowsModel" "told" "I", Cond.methodLink RX5 94 Lib.Math.min.name, Cond.static Lib.Math.min.name, Cond.initialized "java/lang/Math", Cond.code Lib.Math.min.name Lib.Math.min.code 2 (some .int), Cond.methodLink RX5 100 Lib.Math.max.name, Cond.static Lib.Math.max.name, Cond.code Lib.Math.max.name Lib.Math.max.code 2 (some .int), Cond.methodLink RX5 103 Lib.MathLoose.max_long.x, Cond.static Lib.MathLoose.max_long.x, Cond.code Lib.MathLoose.max_long.x Lib.MathLoose.max_long.code 4 (some .long), Cond.methodLink RX5 106 Lib.MathLoose.min_long.x, Cond.static Lib.MathLoose.min_long.x, Cond.code Lib.MathLoose.min_long.x Lib.MathLoose.min_long.code 4 (some .long), Cond.fieldLink RX5 108 "SpanRowsModel" "kept" "I", Cond.methodLink RX5 111 yX5_holds, Cond.instanceMethod yX5_holds, Cond.selects RX5 yX5_holds yX5_holds]
def wsL_law_r7 : List Cond := [Cond.code yX5_holds cX5_holds 6 (some .boolean), Cond.methodLink RX5 115 yX5_isKnown, Cond.instanceMethod yX5_isKnown, Cond.selects RX5 yX5_isKnown yX5_isKnown, Cond.code yX5_isKnown cX5_isKnown 2 (some .boolean), Cond.methodLink RX5 118 yX5_numberOf, Cond.instanceMethod yX5_numberOf, Cond.selects RX5 yX5_numberOf yX5_numberOf, Cond.code yX5_numberOf cX5_numberOf 2 (some .long), Cond.methodLink RX5 126 yX5_forget, Cond.instanceMethod yX5_forget, Cond.selects RX5 yX5_forget yX5_forget, Cond.code yX5_forget cX5_forget 1 none, Cond.fieldLink RX5 139 "SpanRowsModel" "isThere" "Z", Cond.fieldLink RX5 143 "SpanRowsModel" "ways" "I", Cond.fieldLink RX5 146 "SpanRowsModel" "frees" "I", Cond.methodLink RL 20 yX4_span, Cond.instanceMethod yX4_span, Cond.selects RX4 yX4_span yX4_span, Cond.code yX4_span cX4_span 6 (some .boolean), Cond.methodLink RX4 58 yX1_has, Cond.instanceMethod yX1_has, Cond.selects RX1 yX1_has yX1_has, Cond.code yX1_has cX1_has 2 (some .boolean)]
def wsL_law_r8 : List Cond := [Cond.methodLink RX4 62 yX1_narrow, Cond.instanceMethod yX1_narrow, Cond.selects RX1 yX1_narrow yX1_narrow, Cond.code yX1_narrow cX1_narrow 11 (some .boolean), Cond.methodLink RX1 59 Lib.MathLoose.max_long.x, Cond.methodLink RX1 65 Lib.MathLoose.min_long.x, Cond.methodLink RX1 49 yX1_isKnown, Cond.instanceMethod yX1_isKnown, Cond.selects RX1 yX1_isKnown yX1_isKnown, Cond.code yX1_isKnown cX1_isKnown 2 (some .boolean), Cond.methodLink RX1 56 yX1_numberOf, Cond.instanceMethod yX1_numberOf, Cond.selects RX1 yX1_numberOf yX1_numberOf, Cond.code yX1_numberOf cX1_numberOf 2 (some .long), Cond.methodLink RX1 42 yX1_lowOf, Cond.instanceMethod yX1_lowOf, Cond.selects RX1 yX1_lowOf yX1_lowOf, Cond.code yX1_lowOf cX1_lowOf 2 (some .long), Cond.methodLink RX1 46 yX1_highOf, Cond.instanceMethod yX1_highOf, Cond.selects RX1 yX1_highOf yX1_highOf, Cond.code yX1_highOf cX1_highOf 2 (some .long), Cond.methodLink RL 24 yX5_span, Cond.instanceMethod yX5_span]
def wsL_law_r9 : List Cond := [Cond.selects RX5 yX5_span yX5_span, Cond.code yX5_span cX5_span 6 (some .boolean), Cond.methodLink RX5 129 yX5_isName, Cond.instanceMethod yX5_isName, Cond.selects RX5 yX5_isName yX5_isName, Cond.code yX5_isName cX5_isName 2 (some .boolean), Cond.methodLink RX5 132 yX5_tells, Cond.instanceMethod yX5_tells, Cond.selects RX5 yX5_tells yX5_tells, Cond.code yX5_tells cX5_tells 9 (some .boolean), Cond.methodLink RL 25 yX4_give, Cond.instanceMethod yX4_give, Cond.selects RX4 yX4_give yX4_give, Cond.code yX4_give cX4_give 4 (some .boolean), Cond.methodLink RX4 66 yX4_settle, Cond.instanceMethod yX4_settle, Cond.selects RX4 yX4_settle yX4_settle, Cond.code yX4_settle cX4_settle 4 (some .boolean), Cond.methodLink RX4 145 yX1_isKnown, Cond.methodLink RX4 148 yX1_numberOf, Cond.methodLink RX4 176 yX1_liesInSpan, Cond.instanceMethod yX1_liesInSpan, Cond.selects RX1 yX1_liesInSpan yX1_liesInSpan, Cond.code yX1_liesInSpan cX1_liesInSpan 4 (some .boolean)]
def wsL_law_r10 : List Cond := [Cond.methodLink RX4 106 yX1_setNumber, Cond.instanceMethod yX1_setNumber, Cond.selects RX1 yX1_setNumber yX1_setNumber, Cond.code yX1_setNumber cX1_setNumber 4 none, Cond.methodLink RX4 179 yX4_allCompleteAreSo, Cond.instanceMethod yX4_allCompleteAreSo, Cond.selects RX4 yX4_allCompleteAreSo yX4_allCompleteAreSo, Cond.code yX4_allCompleteAreSo cX4_allCompleteAreSo 3 (some .boolean), Cond.classLink RX4 158 "SpanRows$KeptRow", Cond.methodLink RX4 109 yJx4a65c_size_8abf5, Cond.instanceMethod yJx4a65c_size_8abf5, Cond.selects RJx4a65c yJx4a65c_size_8abf5 yJx4a65c_size_8abf5, Cond.code yJx4a65c_size_8abf5 cJx4a65c_size_8abf5 1 (some .int), Cond.fieldLink RJx4a65c 48 "java/util/ArrayList" "size" "I", Cond.methodLink RX4 115 yJx4a65c_get_915e3, Cond.instanceMethod yJx4a65c_get_915e3, Cond.selects RJx4a65c yJx4a65c_get_915e3 yJx4a65c_get_915e3, Cond.code yJx4a65c_get_915e3 cJx4a65c_get_915e3 2 (some (.object "java/lang/Object")), Cond.methodLink RJx4a65c 118 yJ15_checkIndex_7cf53, Cond.static yJ15_checkIndex_7cf53, Cond.initialized RJ15, Cond.code yJ15_checkIndex_7cf53 cJ15_checkIndex_7cf53 2 (some .int), Cond.methodLink RJ15 105 yJ3_checkIndex_8e157, Cond.static yJ3_checkIndex_8e157]
def wsL_law_r11 : List Cond := [Cond.initialized RJ3, Cond.code yJ3_checkIndex_8e157 cJ3_checkIndex_8e157 3 (some .int), Cond.methodLink RJx4a65c 123 yJx4a65c_elementData_915e3, Cond.instanceMethod yJx4a65c_elementData_915e3, Cond.selects RJx4a65c yJx4a65c_elementData_915e3 yJx4a65c_elementData_915e3, Cond.code yJx4a65c_elementData_915e3 cJx4a65c_elementData_915e3 2 (some (.object "java/lang/Object")), Cond.methodLink RX4 166 yX0_countFree, Cond.instanceMethod yX0_countFree, Cond.selects RX0 yX0_countFree yX0_countFree, Cond.initialized RX0, Cond.code yX0_countFree cX0_countFree 4 (some .int), Cond.fieldLink RX0 34 "SpanRows$KeptRow" "places" "[I", Cond.methodLink RX0 43 yX1_isKnown, Cond.methodLink RX4 190 yX0_isSo, Cond.instanceMethod yX0_isSo, Cond.selects RX0 yX0_isSo yX0_isSo, Cond.code yX0_isSo cX0_isSo 2 (some .boolean), Cond.fieldLink RX0 9 "SpanRows$KeptRow" "kind" "I", Cond.fieldLink RX0 15 "SpanRows$KeptRow" "k" "J", Cond.methodLink RX0 53 yX0_sum, Cond.instanceMethod yX0_sum, Cond.selects RX0 yX0_sum yX0_sum, Cond.code yX0_sum cX0_sum 5 (some .long), Cond.fieldLink RX0 42 "SpanRows$KeptRow" "factors" "[J"]
def wsL_law_r12 : List Cond := [Cond.methodLink RX0 61 yX1_numberOf, Cond.methodLink RX0 57 yX0_allUnlike, Cond.instanceMethod yX0_allUnlike, Cond.selects RX0 yX0_allUnlike yX0_allUnlike, Cond.code yX0_allUnlike cX0_allUnlike 6 (some .boolean), Cond.methodLink RX4 183 yX1_unsetNumber, Cond.instanceMethod yX1_unsetNumber, Cond.selects RX1 yX1_unsetNumber yX1_unsetNumber, Cond.code yX1_unsetNumber cX1_unsetNumber 2 none, Cond.methodLink RL 29 yX5_give, Cond.instanceMethod yX5_give, Cond.selects RX5 yX5_give yX5_give, Cond.code yX5_give cX5_give 4 (some .boolean), Cond.methodLink RL 30 yX4_equal, Cond.instanceMethod yX4_equal, Cond.selects RX4 yX4_equal yX4_equal, Cond.code yX4_equal cX4_equal 3 (some .boolean), Cond.methodLink RX4 70 yX4_agree, Cond.instanceMethod yX4_agree, Cond.selects RX4 yX4_agree yX4_agree, Cond.code yX4_agree cX4_agree 3 (some .boolean), Cond.methodLink RX4 187 yX1_shareSpans, Cond.instanceMethod yX1_shareSpans, Cond.selects RX1 yX1_shareSpans yX1_shareSpans]
def wsL_law_r13 : List Cond := [Cond.code yX1_shareSpans cX1_shareSpans 3 (some .boolean), Cond.methodLink RX1 53 yX1_hasSpan, Cond.instanceMethod yX1_hasSpan, Cond.selects RX1 yX1_hasSpan yX1_hasSpan, Cond.code yX1_hasSpan cX1_hasSpan 2 (some .boolean), Cond.methodLink RX1 68 yX1_narrow, Cond.methodLink RX4 74 yX1_join, Cond.instanceMethod yX1_join, Cond.selects RX1 yX1_join yX1_join, Cond.code yX1_join cX1_join 6 none, Cond.methodLink RX1 72 Lib.Math.min.name, Cond.methodLink RX1 75 Lib.Math.max.name, Cond.methodLink RL 34 yX5_equal, Cond.instanceMethod yX5_equal, Cond.selects RX5 yX5_equal yX5_equal, Cond.code yX5_equal cX5_equal 3 (some .boolean), Cond.methodLink RL 35 yX4_put, Cond.instanceMethod yX4_put, Cond.selects RX4 yX4_put yX4_put, Cond.code yX4_put cX4_put 4 (some .int), Cond.fieldLink RX4 78 "SpanRows$Row" "length" "I", Cond.methodLink RX4 81 yX2_append, Cond.instanceMethod yX2_append, Cond.selects RX2 yX2_append yX2_append]
def wsL_law_r14 : List Cond := [Cond.code yX2_append cX2_append 4 none, Cond.fieldLink RX2 19 "SpanRows$Row" "length" "I", Cond.methodLink RL 39 yX5_put, Cond.instanceMethod yX5_put, Cond.selects RX5 yX5_put yX5_put, Cond.code yX5_put cX5_put 4 (some .int), Cond.fieldLink RX5 136 "SpanRowsModel" "row" "I", Cond.methodLink RL 40 yX4_keep, Cond.instanceMethod yX4_keep, Cond.selects RX4 yX4_keep yX4_keep, Cond.code yX4_keep cX4_keep 5 (some .int), Cond.methodLink RX4 85 yX4_keepRow, Cond.instanceMethod yX4_keepRow, Cond.selects RX4 yX4_keepRow yX4_keepRow, Cond.code yX4_keepRow cX4_keepRow 5 (some .int), Cond.classLink RX4 158 RX0, Cond.instantiable RX0 4, Cond.methodLink RX4 194 yX0_init, Cond.instanceMethod yX0_init, Cond.code yX0_init cX0_init 5 none, Cond.methodLink RX0 3 objectInit, Cond.fieldLink RX0 25 "SpanRows$Row" "length" "I", Cond.methodLink RX0 28 yJ7_copyOf_59c91, Cond.static yJ7_copyOf_59c91]
def wsL_law_r15 : List Cond := [Cond.initialized RJ7, Cond.code yJ7_copyOf_59c91 cJ7_copyOf_59c91 3 (some (.array .int)), Cond.methodLink RJ7 316 ⟨"[I", "clone", "()Ljava/lang/Object;"⟩, Cond.sameMethod "[I" "java/lang/Object" "clone" "()Ljava/lang/Object;", Cond.native ⟨"java/lang/Object", "clone", "()Ljava/lang/Object;"⟩, Cond.instanceMethod ⟨"java/lang/Object", "clone", "()Ljava/lang/Object;"⟩, Cond.selects "[I" ⟨"[I", "clone", "()Ljava/lang/Object;"⟩ ⟨"java/lang/Object", "clone", "()Ljava/lang/Object;"⟩, Cond.classLink RJ7 317 "[I", Cond.methodLink RJ7 304 Lib.Math.min.name, Cond.methodLink RJ7 150 arraycopyName, Cond.native arraycopyName, Cond.static arraycopyName, Cond.initialized "java/lang/System", Cond.methodLink RX0 39 yJ7_copyOf_c38d5, Cond.static yJ7_copyOf_c38d5, Cond.code yJ7_copyOf_c38d5 cJ7_copyOf_c38d5 3 (some (.array .long)), Cond.methodLink RJ7 319 ⟨"[J", "clone", "()Ljava/lang/Object;"⟩, Cond.sameMethod "[J" "java/lang/Object" "clone" "()Ljava/lang/Object;", Cond.selects "[J" ⟨"[J", "clone", "()Ljava/lang/Object;"⟩ ⟨"java/lang/Object", "clone", "()Ljava/lang/Object;"⟩, Cond.classLink RJ7 320 "[J", Cond.methodLink RX4 111 yJx4a65c_add_9ea2d, Cond.instanceMethod yJx4a65c_add_9ea2d, Cond.selects RJx4a65c yJx4a65c_add_9ea2d yJx4a65c_add_9ea2d, Cond.code yJx4a65c_add_9ea2d cJx4a65c_add_9ea2d 2 (some .boolean)]
def wsL_law_r16 : List Cond := [Cond.fieldLink RJx4a65c 63 "java/util/ArrayList" "modCount" "I", Cond.sameField "java/util/ArrayList" "java/util/AbstractList" "modCount" "I", Cond.methodLink RJx4a65c 131 yJx4a65c_add_72be8, Cond.instanceMethod yJx4a65c_add_72be8, Cond.selects RJx4a65c yJx4a65c_add_72be8 yJx4a65c_add_72be8, Cond.code yJx4a65c_add_72be8 cJx4a65c_add_72be8 4 none, Cond.methodLink RJx4a65c 129 yJx4a65c_grow_d5877, Cond.instanceMethod yJx4a65c_grow_d5877, Cond.selects RJx4a65c yJx4a65c_grow_d5877 yJx4a65c_grow_d5877, Cond.code yJx4a65c_grow_d5877 cJx4a65c_grow_d5877 1 (some (.array (.object "java/lang/Object"))), Cond.methodLink RJx4a65c 69 yJx4a65c_grow_92f84, Cond.instanceMethod yJx4a65c_grow_92f84, Cond.selects RJx4a65c yJx4a65c_grow_92f84 yJx4a65c_grow_92f84, Cond.code yJx4a65c_grow_92f84 cJx4a65c_grow_92f84 4 (some (.array (.object "java/lang/Object"))), Cond.methodLink RJx4a65c 79 Lib.Math.max.name, Cond.classLink RJx4a65c 7 "java/lang/Object", Cond.methodLink RJx4a65c 73 yJ8_newLength_cabcc, Cond.static yJ8_newLength_cabcc, Cond.initialized RJ8, Cond.code yJ8_newLength_cabcc cJ8_newLength_cabcc 4 (some .int), Cond.methodLink RJ8 194 Lib.Math.max.name, Cond.constant RJ8 200 (2147483639), Cond.methodLink RJ8 201 yJ8_hugeLength_7cf53, Cond.static yJ8_hugeLength_7cf53]
def wsL_law_r17 : List Cond := [Cond.code yJ8_hugeLength_7cf53 cJ8_hugeLength_7cf53 3 (some .int), Cond.methodLink RJx4a65c 66 yJ7_copyOf_1904c, Cond.static yJ7_copyOf_1904c, Cond.code yJ7_copyOf_1904c cJ7_copyOf_1904c 2 (some (.array (.object "java/lang/Object"))), Cond.methodLink RJ7 86 ⟨"java/lang/Object", "getClass", "()Ljava/lang/Class;"⟩, Cond.selects "[Ljava/lang/Object;" ⟨"java/lang/Object", "getClass", "()Ljava/lang/Class;"⟩ ⟨"java/lang/Object", "getClass", "()Ljava/lang/Class;"⟩, Cond.instanceMethod ⟨"java/lang/Object", "getClass", "()Ljava/lang/Class;"⟩, Cond.native ⟨"java/lang/Object", "getClass", "()Ljava/lang/Class;"⟩, Cond.methodLink RJ7 300 yJ7_copyOf_6403c, Cond.static yJ7_copyOf_6403c, Cond.code yJ7_copyOf_6403c cJ7_copyOf_6403c 4 (some (.array (.object "java/lang/Object"))), Cond.classLink RJ7 110 "[Ljava/lang/Object;", Cond.classLink RJ7 2 "java/lang/Object", Cond.methodLink RL 43 yX5_keep, Cond.instanceMethod yX5_keep, Cond.selects RX5 yX5_keep yX5_keep, Cond.code yX5_keep cX5_keep 6 (some .int), Cond.methodLink RL 44 yX4_label, Cond.instanceMethod yX4_label, Cond.selects RX4 yX4_label yX4_label, Cond.code yX4_label cX4_label 2 (some .int), Cond.methodLink RX4 89 yX3_run, Cond.instanceMethod yX3_run, Cond.selects RX3 yX3_run yX3_run]
def wsL_law_r18 : List Cond := [Cond.code yX3_run cX3_run 5 (some .int), Cond.fieldLink RX3 36 "SpanRows$Search" "tried" "I", Cond.methodLink RX3 33 yX3_endWays, Cond.methodLink RX3 39 yX3_gatherFree, Cond.instanceMethod yX3_gatherFree, Cond.selects RX3 yX3_gatherFree yX3_gatherFree, Cond.code yX3_gatherFree cX3_gatherFree 5 none, Cond.fieldLink RX3 55 "SpanRows$Row" "length" "I", Cond.methodLink RX3 63 yX1_leastOf, Cond.instanceMethod yX1_leastOf, Cond.selects RX1 yX1_leastOf yX1_leastOf, Cond.code yX1_leastOf cX1_leastOf 2 (some .int), Cond.methodLink RX3 68 yX1_isKnown, Cond.methodLink RX3 72 yX3_isFreeName, Cond.instanceMethod yX3_isFreeName, Cond.selects RX3 yX3_isFreeName yX3_isFreeName, Cond.code yX3_isFreeName cX3_isFreeName 2 (some .boolean), Cond.methodLink RX3 29 yX3_levelOf, Cond.instanceMethod yX3_levelOf, Cond.selects RX3 yX3_levelOf yX3_levelOf, Cond.code yX3_levelOf cX3_levelOf 3 (some .int), Cond.methodLink RX3 43 yX3_reasonNotToStart, Cond.instanceMethod yX3_reasonNotToStart, Cond.selects RX3 yX3_reasonNotToStart yX3_reasonNotToStart]
def wsL_law_r19 : List Cond := [Cond.code yX3_reasonNotToStart cX3_reasonNotToStart 3 (some .int), Cond.methodLink RX3 75 yX1_hasSpan, Cond.methodLink RX3 47 yX3_planLooks, Cond.instanceMethod yX3_planLooks, Cond.selects RX3 yX3_planLooks yX3_planLooks, Cond.code yX3_planLooks cX3_planLooks 4 none, Cond.classLink RX3 88 "SpanRows$KeptRow", Cond.methodLink RX3 78 yJx4a65c_size_8abf5, Cond.methodLink RX3 84 yJx4a65c_get_915e3, Cond.methodLink RX3 90 yX0_levelOfLast, Cond.instanceMethod yX0_levelOfLast, Cond.selects RX0 yX0_levelOfLast yX0_levelOfLast, Cond.code yX0_levelOfLast cX0_levelOfLast 6 (some .int), Cond.methodLink RX0 70 Lib.Math.max.name, Cond.methodLink RX0 49 yX1_leastOf, Cond.methodLink RX0 65 yX3_levelOf, Cond.methodLink RX3 51 yX3_tryLevel, Cond.instanceMethod yX3_tryLevel, Cond.selects RX3 yX3_tryLevel yX3_tryLevel, Cond.code yX3_tryLevel cX3_tryLevel 11 (some .int), Cond.methodLink RX3 94 yX3_addWay, Cond.instanceMethod yX3_addWay, Cond.selects RX3 yX3_addWay yX3_addWay, Cond.code yX3_addWay cX3_addWay 3 (some .int)]
def wsL_law_r20 : List Cond := [Cond.methodLink RX3 120 yX1_numberOf, Cond.methodLink RX3 97 yX1_lowOf, Cond.methodLink RX3 101 yX1_highOf, Cond.methodLink RX3 104 yX1_setNumber, Cond.methodLink RX3 108 yX3_isGood, Cond.instanceMethod yX3_isGood, Cond.selects RX3 yX3_isGood yX3_isGood, Cond.code yX3_isGood cX3_isGood 5 (some .boolean), Cond.methodLink RX3 116 yX0_isSo, Cond.methodLink RX3 112 yX1_unsetNumber, Cond.methodLink RL 47 yX5_label, Cond.instanceMethod yX5_label, Cond.selects RX5 yX5_label yX5_label, Cond.code yX5_label cX5_label 4 (some .int), Cond.fieldLink RX5 149 "SpanRowsModel" "tries" "I", Cond.methodLink RX5 152 yX5_collect, Cond.instanceMethod yX5_collect, Cond.selects RX5 yX5_collect yX5_collect, Cond.code yX5_collect cX5_collect 7 (some .int), Cond.methodLink RX5 156 yX5_tries, Cond.instanceMethod yX5_tries, Cond.selects RX5 yX5_tries yX5_tries, Cond.code yX5_tries cX5_tries 7 (some .int), Cond.methodLink RL 48 yX4_way]
def wsL_law_r21 : List Cond := [Cond.instanceMethod yX4_way, Cond.selects RX4 yX4_way yX4_way, Cond.code yX4_way cX4_way 3 (some .long), Cond.fieldLink RX4 96 "SpanRows$Search" "freeCount" "I", Cond.methodLink RX4 93 yX3_hasWay, Cond.instanceMethod yX3_hasWay, Cond.selects RX3 yX3_hasWay yX3_hasWay, Cond.code yX3_hasWay cX3_hasWay 2 (some .boolean), Cond.methodLink RX4 99 yX3_numberIn, Cond.instanceMethod yX3_numberIn, Cond.selects RX3 yX3_numberIn yX3_numberIn, Cond.code yX3_numberIn cX3_numberIn 3 (some .long), Cond.methodLink RL 52 yX5_way, Cond.instanceMethod yX5_way, Cond.selects RX5 yX5_way yX5_way, Cond.code yX5_way cX5_way 3 (some .long), Cond.methodLink RX5 159 yX5_isWay, Cond.instanceMethod yX5_isWay, Cond.selects RX5 yX5_isWay yX5_isWay, Cond.code yX5_isWay cX5_isWay 2 (some .boolean), Cond.methodLink RL 53 yX4_take, Cond.instanceMethod yX4_take, Cond.selects RX4 yX4_take yX4_take, Cond.code yX4_take cX4_take 3 (some .boolean)]
def wsL_law_r22 : List Cond := [Cond.fieldLink RX4 103 "SpanRows$Search" "free" "[I", Cond.methodLink RL 57 yX5_take, Cond.instanceMethod yX5_take, Cond.selects RX5 yX5_take yX5_take, Cond.code yX5_take cX5_take 4 (some .boolean), Cond.methodLink RL 58 yX4_mark, Cond.instanceMethod yX4_mark, Cond.selects RX4 yX4_mark yX4_mark, Cond.code yX4_mark cX4_mark 1 (some .int), Cond.classLink RX4 7 "SpanRows$Names", Cond.methodLink RX4 119 yX1_copyFrom, Cond.instanceMethod yX1_copyFrom, Cond.selects RX1 yX1_copyFrom yX1_copyFrom, Cond.code yX1_copyFrom cX1_copyFrom 3 none, Cond.methodLink RL 61 yX5_mark, Cond.instanceMethod yX5_mark, Cond.selects RX5 yX5_mark yX5_mark, Cond.code yX5_mark cX5_mark 1 (some .int), Cond.fieldLink RX5 162 "SpanRowsModel" "marks" "I", Cond.methodLink RL 62 yX4_back, Cond.instanceMethod yX4_back, Cond.selects RX4 yX4_back yX4_back, Cond.code yX4_back cX4_back 2 (some .int), Cond.methodLink RX4 123 yJx4a65c_remove_915e3]
def wsL_law_r23 : List Cond := [Cond.instanceMethod yJx4a65c_remove_915e3, Cond.selects RJx4a65c yJx4a65c_remove_915e3 yJx4a65c_remove_915e3, Cond.code yJx4a65c_remove_915e3 cJx4a65c_remove_915e3 4 (some (.object "java/lang/Object")), Cond.methodLink RJx4a65c 144 yJx4a65c_fastRemove_b59b0, Cond.instanceMethod yJx4a65c_fastRemove_b59b0, Cond.selects RJx4a65c yJx4a65c_fastRemove_b59b0 yJx4a65c_fastRemove_b59b0, Cond.code yJx4a65c_fastRemove_b59b0 cJx4a65c_fastRemove_b59b0 4 none, Cond.methodLink RJx4a65c 112 arraycopyName, Cond.methodLink RX4 126 yX2_cutAtFirstGone, Cond.instanceMethod yX2_cutAtFirstGone, Cond.selects RX2 yX2_cutAtFirstGone yX2_cutAtFirstGone, Cond.code yX2_cutAtFirstGone cX2_cutAtFirstGone 3 none, Cond.methodLink RX2 23 yX1_has, Cond.methodLink RL 65 yX5_back, Cond.instanceMethod yX5_back, Cond.selects RX5 yX5_back yX5_back, Cond.code yX5_back cX5_back 3 (some .int), Cond.methodLink RL 66 yX4_about, Cond.instanceMethod yX4_about, Cond.selects RX4 yX4_about yX4_about, Cond.code yX4_about cX4_about 3 (some .int), Cond.methodLink RX4 129 yX1_freedom, Cond.instanceMethod yX1_freedom, Cond.selects RX1 yX1_freedom yX1_freedom]
def wsL_law_r24 : List Cond := [Cond.code yX1_freedom cX1_freedom 2 (some .int), Cond.methodLink RX4 133 yX1_leastOf, Cond.methodLink RX4 136 yX1_countOnes, Cond.instanceMethod yX1_countOnes, Cond.selects RX1 yX1_countOnes yX1_countOnes, Cond.code yX1_countOnes cX1_countOnes 4 (some .int), Cond.methodLink RX4 139 yX4_countRowsWith, Cond.instanceMethod yX4_countRowsWith, Cond.selects RX4 yX4_countRowsWith yX4_countRowsWith, Cond.code yX4_countRowsWith cX4_countRowsWith 4 (some .int), Cond.methodLink RX4 197 yX0_holds, Cond.instanceMethod yX0_holds, Cond.selects RX0 yX0_holds yX0_holds, Cond.code yX0_holds cX0_holds 4 (some .boolean), Cond.methodLink RX4 142 yX3_isFreeName, Cond.methodLink RL 70 yX5_about, Cond.instanceMethod yX5_about, Cond.selects RX5 yX5_about yX5_about, Cond.code yX5_about cX5_about 7 (some .int), Cond.methodLink RL 71 yX4_bound, Cond.instanceMethod yX4_bound, Cond.selects RX4 yX4_bound yX4_bound, Cond.code yX4_bound cX4_bound 3 (some .long), Cond.methodLink RX4 152 yX1_highOf]
def wsL_law_r25 : List Cond := [Cond.methodLink RX4 155 yX1_lowOf, Cond.methodLink RL 75 yX5_bound, Cond.instanceMethod yX5_bound, Cond.selects RX5 yX5_bound yX5_bound, Cond.code yX5_bound cX5_bound 4 (some .long), Cond.constantLong RX5 167 (9223372036854775807), Cond.constantLong RX5 169 (-9223372036854775808), Cond.methodLink RL 76 yX4_kept, Cond.instanceMethod yX4_kept, Cond.selects RX4 yX4_kept yX4_kept, Cond.code yX4_kept cX4_kept 4 (some .int), Cond.fieldLink RX4 160 "SpanRows$KeptRow" "kind" "I", Cond.fieldLink RX4 163 "SpanRows$KeptRow" "places" "[I", Cond.methodLink RL 79 yX5_kept, Cond.instanceMethod yX5_kept, Cond.selects RX5 yX5_kept yX5_kept, Cond.code yX5_kept cX5_kept 5 (some .int), Cond.methodLink RL 80 yX4_count, Cond.instanceMethod yX4_count, Cond.selects RX4 yX4_count yX4_count, Cond.code yX4_count cX4_count 2 (some .int), Cond.fieldLink RX4 170 "SpanRows$Search" "wayCount" "I", Cond.fieldLink RX4 173 "SpanRows$Search" "tried" "I", Cond.methodLink RL 84 yX5_count]
def wsL_law_r26 : List Cond := [Cond.instanceMethod yX5_count, Cond.selects RX5 yX5_count yX5_count, Cond.code yX5_count cX5_count 2 (some .int)]
def wsL_law : List Cond := (wsL_law_r1 ++ (wsL_law_r2 ++ (wsL_law_r3 ++ (wsL_law_r4 ++ (wsL_law_r5 ++ (wsL_law_r6 ++ (wsL_law_r7 ++ (wsL_law_r8 ++ (wsL_law_r9 ++ (wsL_law_r10 ++ (wsL_law_r11 ++ (wsL_law_r12 ++ (wsL_law_r13 ++ (wsL_law_r14 ++ (wsL_law_r15 ++ (wsL_law_r16 ++ (wsL_law_r17 ++ (wsL_law_r18 ++ (wsL_law_r19 ++ (wsL_law_r20 ++ (wsL_law_r21 ++ (wsL_law_r22 ++ (wsL_law_r23 ++ (wsL_law_r24 ++ (wsL_law_r25 ++ wsL_law_r26))))))))))))))))))))))))) ++ wsX40 ++ wsX50 ++ wsX10 ++ wsX20 ++ wsJx4a65c0 ++ wsX30 ++ wsX00 ++ ([] : List Cond)
end
section
theorem inlX0 : ∀ w ∈ wsX00, w ∈ wsL_law := fun _ h => List.mem_append_left _ (List.mem_append_right _ h)
theorem inlX1 : ∀ w ∈ wsX10, w ∈ wsL_law := fun _ h => List.mem_append_left _ (List.mem_append_left _ (List.mem_append_left _ (List.mem_append_left _ (List.mem_append_left _ (List.mem_append_right _ h)))))
theorem inlX2 : ∀ w ∈ wsX20, w ∈ wsL_law := fun _ h => List.mem_append_left _ (List.mem_append_left _ (List.mem_append_left _ (List.mem_append_left _ (List.mem_append_right _ h))))
theorem inlX3 : ∀ w ∈ wsX30, w ∈ wsL_law := fun _ h => List.mem_append_left _ (List.mem_append_left _ (List.mem_append_right _ h))
theorem inlX4 : ∀ w ∈ wsX40, w ∈ wsL_law := fun _ h => List.mem_append_left _ (List.mem_append_left _ (List.mem_append_left _ (List.mem_append_left _ (List.mem_append_left _ (List.mem_append_left _ (List.mem_append_left _ (List.mem_append_right _ h)))))))
theorem inlX5 : ∀ w ∈ wsX50, w ∈ wsL_law := fun _ h => List.mem_append_left _ (List.mem_append_left _ (List.mem_append_left _ (List.mem_append_left _ (List.mem_append_left _ (List.mem_append_left _ (List.mem_append_right _ h))))))
theorem inJx145de : ∀ w ∈ wsJx145de0, w ∈ lw_tbl := by decide +kernel
theorem inJx8e188 : ∀ w ∈ wsJx8e1880, w ∈ lw_tbl := by decide +kernel
theorem inJxab1ab : ∀ w ∈ wsJxab1ab0, w ∈ lw_tbl := by decide +kernel
theorem inJ9 : ∀ w ∈ wsJ90, w ∈ lw_tbl := by decide +kernel
theorem inJ10 : ∀ w ∈ wsJ100, w ∈ lw_tbl := by decide +kernel
theorem inJxa1e45 : ∀ w ∈ wsJxa1e450, w ∈ lw_tbl := by decide +kernel
theorem inJxc12de : ∀ w ∈ wsJxc12de0, w ∈ lw_tbl := by decide +kernel
theorem inlJx4a65c : ∀ w ∈ wsJx4a65c0, w ∈ wsL_law := fun _ h => List.mem_append_left _ (List.mem_append_left _ (List.mem_append_left _ (List.mem_append_right _ h)))
theorem inJ7 : ∀ w ∈ wsJ70, w ∈ lw_tbl := by decide +kernel
theorem inJx5ef63 : ∀ w ∈ wsJx5ef630, w ∈ lw_tbl := by decide +kernel
theorem inJxbd725 : ∀ w ∈ wsJxbd7250, w ∈ lw_tbl := by decide +kernel
theorem inJ15 : ∀ w ∈ wsJ150, w ∈ lw_tbl := by decide +kernel
theorem inJxf0a74 : ∀ w ∈ wsJxf0a740, w ∈ lw_tbl := by decide +kernel
theorem inJxa66e6 : ∀ w ∈ wsJxa66e60, w ∈ lw_tbl := by decide +kernel
theorem inJ8 : ∀ w ∈ wsJ80, w ∈ lw_tbl := by decide +kernel
theorem inJ3 : ∀ w ∈ wsJ30, w ∈ lw_tbl := by decide +kernel
set_option maxRecDepth 20000 in
theorem ggX0_init_J7_copyOf_59c91 : GoodIn wsX0_init wsJ7_copyOf_59c91 := goodIn_r _ [12, 13, 14, 15, 16, 17, 18, 19, 20, 21, 22, 23, 24, 25, 26, 27] (by decide +kernel) (by decide +kernel)
set_option maxRecDepth 20000 in
theorem gX0_init_J7_copyOf_59c91 : GoodIn wsX0_init (va_wsS RX0 28 yJ7_copyOf_59c91 wsJ7_copyOf_59c91) := goodIn_app (goodIn_of _ (by decide +kernel)) ggX0_init_J7_copyOf_59c91
set_option maxRecDepth 20000 in
theorem ggX0_init_J7_copyOf_c38d5 : GoodIn wsX0_init wsJ7_copyOf_c38d5 := goodIn_r _ [30, 31, 32, 15, 16, 33, 34, 35, 20, 21, 22, 23, 24, 25, 26, 27] (by decide +kernel) (by decide +kernel)
set_option maxRecDepth 20000 in
theorem gX0_init_J7_copyOf_c38d5 : GoodIn wsX0_init (va_wsS RX0 39 yJ7_copyOf_c38d5 wsJ7_copyOf_c38d5) := goodIn_app (goodIn_of _ (by decide +kernel)) ggX0_init_J7_copyOf_c38d5
theorem dX0_init_0 : decode cX0_init 0 = .ok (.aload_n 0, 1) := by decide +kernel
theorem dX0_init_1 : decode cX0_init 1 = .ok (.invokespecial 3, 3) := by decide +kernel
theorem dX0_init_4 : decode cX0_init 4 = .ok (.aload_n 0, 1) := by decide +kernel
theorem dX0_init_5 : decode cX0_init 5 = .ok (.iload_n 1, 1) := by decide +kernel
theorem dX0_init_6 : decode cX0_init 6 = .ok (.putfield 9, 3) := by decide +kernel
theorem dX0_init_9 : decode cX0_init 9 = .ok (.aload_n 0, 1) := by decide +kernel
theorem dX0_init_10 : decode cX0_init 10 = .ok (.lload_n 2, 1) := by decide +kernel
theorem dX0_init_11 : decode cX0_init 11 = .ok (.putfield 15, 3) := by decide +kernel
theorem dX0_init_14 : decode cX0_init 14 = .ok (.aload_n 0, 1) := by decide +kernel
theorem dX0_init_15 : decode cX0_init 15 = .ok (.aload 4, 2) := by decide +kernel
theorem dX0_init_17 : decode cX0_init 17 = .ok (.getfield 19, 3) := by decide +kernel
theorem dX0_init_20 : decode cX0_init 20 = .ok (.aload 4, 2) := by decide +kernel
theorem dX0_init_22 : decode cX0_init 22 = .ok (.getfield 25, 3) := by decide +kernel
theorem dX0_init_25 : decode cX0_init 25 = .ok (.invokestatic 28, 3) := by decide +kernel
theorem dX0_init_28 : decode cX0_init 28 = .ok (.putfield 34, 3) := by decide +kernel
theorem dX0_init_31 : decode cX0_init 31 = .ok (.aload_n 0, 1) := by decide +kernel
theorem dX0_init_32 : decode cX0_init 32 = .ok (.aload 4, 2) := by decide +kernel
theorem dX0_init_34 : decode cX0_init 34 = .ok (.getfield 35, 3) := by decide +kernel
theorem dX0_init_37 : decode cX0_init 37 = .ok (.aload 4, 2) := by decide +kernel
theorem dX0_init_39 : decode cX0_init 39 = .ok (.getfield 25, 3) := by decide +kernel
theorem dX0_init_42 : decode cX0_init 42 = .ok (.invokestatic 39, 3) := by decide +kernel
theorem dX0_init_45 : decode cX0_init 45 = .ok (.putfield 42, 3) := by decide +kernel
theorem dX0_init_48 : decode cX0_init 48 = .ok (.return_, 1) := by decide +kernel
set_option maxRecDepth 20000 in
theorem ggX0_countFree_X1_isKnown : GoodIn wsX0_countFree wsX1_isKnown := goodIn_r _ [6, 7, 8, 13, 14, 15, 16, 17, 18, 19] (by decide +kernel) (by decide +kernel)
set_option maxRecDepth 20000 in
theorem gX0_countFree_X1_isKnown : GoodIn wsX0_countFree (wsV RX0 43 RX1 yX1_isKnown wsX1_isKnown) := goodIn_app (goodIn_of _ (by decide +kernel)) ggX0_countFree_X1_isKnown
theorem dX0_countFree_0 : decode cX0_countFree 0 = .ok (.iconst 0, 1) := by decide +kernel
theorem dX0_countFree_1 : decode cX0_countFree 1 = .ok (.istore_n 2, 1) := by decide +kernel
theorem dX0_countFree_2 : decode cX0_countFree 2 = .ok (.iconst 0, 1) := by decide +kernel
theorem dX0_countFree_3 : decode cX0_countFree 3 = .ok (.istore_n 3, 1) := by decide +kernel
theorem dX0_countFree_4 : decode cX0_countFree 4 = .ok (.iload_n 3, 1) := by decide +kernel
theorem dX0_countFree_5 : decode cX0_countFree 5 = .ok (.aload_n 0, 1) := by decide +kernel
theorem dX0_countFree_6 : decode cX0_countFree 6 = .ok (.getfield 34, 3) := by decide +kernel
theorem dX0_countFree_9 : decode cX0_countFree 9 = .ok (.arraylength, 1) := by decide +kernel
theorem dX0_countFree_10 : decode cX0_countFree 10 = .ok (.if_icmp .ge 25, 3) := by decide +kernel
theorem dX0_countFree_13 : decode cX0_countFree 13 = .ok (.aload_n 1, 1) := by decide +kernel
theorem dX0_countFree_14 : decode cX0_countFree 14 = .ok (.aload_n 0, 1) := by decide +kernel
theorem dX0_countFree_15 : decode cX0_countFree 15 = .ok (.getfield 34, 3) := by decide +kernel
theorem dX0_countFree_18 : decode cX0_countFree 18 = .ok (.iload_n 3, 1) := by decide +kernel
theorem dX0_countFree_19 : decode cX0_countFree 19 = .ok (.iaload, 1) := by decide +kernel
theorem dX0_countFree_20 : decode cX0_countFree 20 = .ok (.invokevirtual 43, 3) := by decide +kernel
theorem dX0_countFree_23 : decode cX0_countFree 23 = .ok (.ifCond .ne 6, 3) := by decide +kernel
theorem dX0_countFree_26 : decode cX0_countFree 26 = .ok (.iinc 2 1, 3) := by decide +kernel
theorem dX0_countFree_29 : decode cX0_countFree 29 = .ok (.iinc 3 1, 3) := by decide +kernel
theorem dX0_countFree_32 : decode cX0_countFree 32 = .ok (.goto (-28), 3) := by decide +kernel
theorem dX0_countFree_35 : decode cX0_countFree 35 = .ok (.iload_n 2, 1) := by decide +kernel
theorem dX0_countFree_36 : decode cX0_countFree 36 = .ok (.ireturn, 1) := by decide +kernel
set_option maxRecDepth 20000 in
theorem ggX0_holds_X1_leastOf : GoodIn wsX0_holds wsX1_leastOf := goodIn_r _ [6, 7, 12, 13, 14, 15, 16, 17, 18] (by decide +kernel) (by decide +kernel)
set_option maxRecDepth 20000 in
theorem gX0_holds_X1_leastOf : GoodIn wsX0_holds (wsV RX0 49 RX1 yX1_leastOf wsX1_leastOf) := goodIn_app (goodIn_of _ (by decide +kernel)) ggX0_holds_X1_leastOf
theorem dX0_holds_0 : decode cX0_holds 0 = .ok (.iconst 0, 1) := by decide +kernel
theorem dX0_holds_1 : decode cX0_holds 1 = .ok (.istore_n 3, 1) := by decide +kernel
theorem dX0_holds_2 : decode cX0_holds 2 = .ok (.iload_n 3, 1) := by decide +kernel
theorem dX0_holds_3 : decode cX0_holds 3 = .ok (.aload_n 0, 1) := by decide +kernel
theorem dX0_holds_4 : decode cX0_holds 4 = .ok (.getfield 34, 3) := by decide +kernel
theorem dX0_holds_7 : decode cX0_holds 7 = .ok (.arraylength, 1) := by decide +kernel
theorem dX0_holds_8 : decode cX0_holds 8 = .ok (.if_icmp .ge 29, 3) := by decide +kernel
theorem dX0_holds_11 : decode cX0_holds 11 = .ok (.aload_n 2, 1) := by decide +kernel
theorem dX0_holds_12 : decode cX0_holds 12 = .ok (.aload_n 0, 1) := by decide +kernel
theorem dX0_holds_13 : decode cX0_holds 13 = .ok (.getfield 34, 3) := by decide +kernel
theorem dX0_holds_16 : decode cX0_holds 16 = .ok (.iload_n 3, 1) := by decide +kernel
theorem dX0_holds_17 : decode cX0_holds 17 = .ok (.iaload, 1) := by decide +kernel
theorem dX0_holds_18 : decode cX0_holds 18 = .ok (.invokevirtual 49, 3) := by decide +kernel
theorem dX0_holds_21 : decode cX0_holds 21 = .ok (.aload_n 2, 1) := by decide +kernel
theorem dX0_holds_22 : decode cX0_holds 22 = .ok (.iload_n 1, 1) := by decide +kernel
theorem dX0_holds_23 : decode cX0_holds 23 = .ok (.invokevirtual 49, 3) := by decide +kernel
theorem dX0_holds_26 : decode cX0_holds 26 = .ok (.if_icmp .ne 5, 3) := by decide +kernel
theorem dX0_holds_29 : decode cX0_holds 29 = .ok (.iconst 1, 1) := by decide +kernel
theorem dX0_holds_30 : decode cX0_holds 30 = .ok (.ireturn, 1) := by decide +kernel
theorem dX0_holds_31 : decode cX0_holds 31 = .ok (.iinc 3 1, 3) := by decide +kernel
theorem dX0_holds_34 : decode cX0_holds 34 = .ok (.goto (-32), 3) := by decide +kernel
theorem dX0_holds_37 : decode cX0_holds 37 = .ok (.iconst 0, 1) := by decide +kernel
theorem dX0_holds_38 : decode cX0_holds 38 = .ok (.ireturn, 1) := by decide +kernel
set_option maxRecDepth 20000 in
theorem ggX0_isSo_X0_sum : GoodIn wsX0_isSo wsX0_sum := goodIn_r _ [7, 8, 9, 10, 11, 12, 13, 14, 15, 16, 21, 22, 23, 24, 25, 26, 27, 28, 29, 30, 31] (by decide +kernel) (by decide +kernel)
set_option maxRecDepth 20000 in
theorem gX0_isSo_X0_sum : GoodIn wsX0_isSo (wsV RX0 53 RX0 yX0_sum wsX0_sum) := goodIn_app (goodIn_of _ (by decide +kernel)) ggX0_isSo_X0_sum
set_option maxRecDepth 20000 in
theorem ggX0_isSo_X0_allUnlike : GoodIn wsX0_isSo wsX0_allUnlike := goodIn_r _ [20, 8, 10, 11, 12, 13, 14, 15, 16, 21, 22, 23, 24, 25, 26, 27, 28, 29, 30, 31] (by decide +kernel) (by decide +kernel)
set_option maxRecDepth 20000 in
theorem gX0_isSo_X0_allUnlike : GoodIn wsX0_isSo (wsV RX0 57 RX0 yX0_allUnlike wsX0_allUnlike) := goodIn_app (goodIn_of _ (by decide +kernel)) ggX0_isSo_X0_allUnlike
theorem dX0_isSo_0 : decode cX0_isSo 0 = .ok (.aload_n 0, 1) := by decide +kernel
theorem dX0_isSo_1 : decode cX0_isSo 1 = .ok (.getfield 9, 3) := by decide +kernel
theorem dX0_isSo_4 : decode cX0_isSo 4 = .ok (.lookupswitch 66 #[(0, 28), (1, 47)], 28) := by decide +kernel
theorem dX0_isSo_32 : decode cX0_isSo 32 = .ok (.aload_n 0, 1) := by decide +kernel
theorem dX0_isSo_33 : decode cX0_isSo 33 = .ok (.aload_n 1, 1) := by decide +kernel
theorem dX0_isSo_34 : decode cX0_isSo 34 = .ok (.invokevirtual 53, 3) := by decide +kernel
theorem dX0_isSo_37 : decode cX0_isSo 37 = .ok (.aload_n 0, 1) := by decide +kernel
theorem dX0_isSo_38 : decode cX0_isSo 38 = .ok (.getfield 15, 3) := by decide +kernel
theorem dX0_isSo_41 : decode cX0_isSo 41 = .ok (.lcmp, 1) := by decide +kernel
theorem dX0_isSo_42 : decode cX0_isSo 42 = .ok (.ifCond .gt 7, 3) := by decide +kernel
theorem dX0_isSo_45 : decode cX0_isSo 45 = .ok (.iconst 1, 1) := by decide +kernel
theorem dX0_isSo_46 : decode cX0_isSo 46 = .ok (.goto 4, 3) := by decide +kernel
theorem dX0_isSo_49 : decode cX0_isSo 49 = .ok (.iconst 0, 1) := by decide +kernel
theorem dX0_isSo_50 : decode cX0_isSo 50 = .ok (.ireturn, 1) := by decide +kernel
theorem dX0_isSo_51 : decode cX0_isSo 51 = .ok (.aload_n 0, 1) := by decide +kernel
theorem dX0_isSo_52 : decode cX0_isSo 52 = .ok (.aload_n 1, 1) := by decide +kernel
theorem dX0_isSo_53 : decode cX0_isSo 53 = .ok (.invokevirtual 53, 3) := by decide +kernel
theorem dX0_isSo_56 : decode cX0_isSo 56 = .ok (.aload_n 0, 1) := by decide +kernel
theorem dX0_isSo_57 : decode cX0_isSo 57 = .ok (.getfield 15, 3) := by decide +kernel
theorem dX0_isSo_60 : decode cX0_isSo 60 = .ok (.lcmp, 1) := by decide +kernel
theorem dX0_isSo_61 : decode cX0_isSo 61 = .ok (.ifCond .ne 7, 3) := by decide +kernel
theorem dX0_isSo_64 : decode cX0_isSo 64 = .ok (.iconst 1, 1) := by decide +kernel
theorem dX0_isSo_65 : decode cX0_isSo 65 = .ok (.goto 4, 3) := by decide +kernel
theorem dX0_isSo_68 : decode cX0_isSo 68 = .ok (.iconst 0, 1) := by decide +kernel
theorem dX0_isSo_69 : decode cX0_isSo 69 = .ok (.ireturn, 1) := by decide +kernel
theorem dX0_isSo_70 : decode cX0_isSo 70 = .ok (.aload_n 0, 1) := by decide +kernel
theorem dX0_isSo_71 : decode cX0_isSo 71 = .ok (.aload_n 1, 1) := by decide +kernel
theorem dX0_isSo_72 : decode cX0_isSo 72 = .ok (.invokevirtual 57, 3) := by decide +kernel
theorem dX0_isSo_75 : decode cX0_isSo 75 = .ok (.ireturn, 1) := by decide +kernel
set_option maxRecDepth 20000 in
theorem ggX0_sum_X1_numberOf : GoodIn wsX0_sum wsX1_numberOf := goodIn_r _ [7, 8, 9, 14, 15, 16, 17, 18, 19, 20] (by decide +kernel) (by decide +kernel)
set_option maxRecDepth 20000 in
theorem gX0_sum_X1_numberOf : GoodIn wsX0_sum (wsV RX0 61 RX1 yX1_numberOf wsX1_numberOf) := goodIn_app (goodIn_of _ (by decide +kernel)) ggX0_sum_X1_numberOf
theorem dX0_sum_0 : decode cX0_sum 0 = .ok (.lconst 0, 1) := by decide +kernel
theorem dX0_sum_1 : decode cX0_sum 1 = .ok (.lstore_n 2, 1) := by decide +kernel
theorem dX0_sum_2 : decode cX0_sum 2 = .ok (.iconst 0, 1) := by decide +kernel
theorem dX0_sum_3 : decode cX0_sum 3 = .ok (.istore 4, 2) := by decide +kernel
theorem dX0_sum_5 : decode cX0_sum 5 = .ok (.iload 4, 2) := by decide +kernel
theorem dX0_sum_7 : decode cX0_sum 7 = .ok (.aload_n 0, 1) := by decide +kernel
theorem dX0_sum_8 : decode cX0_sum 8 = .ok (.getfield 34, 3) := by decide +kernel
theorem dX0_sum_11 : decode cX0_sum 11 = .ok (.arraylength, 1) := by decide +kernel
theorem dX0_sum_12 : decode cX0_sum 12 = .ok (.if_icmp .ge 31, 3) := by decide +kernel
theorem dX0_sum_15 : decode cX0_sum 15 = .ok (.lload_n 2, 1) := by decide +kernel
theorem dX0_sum_16 : decode cX0_sum 16 = .ok (.aload_n 0, 1) := by decide +kernel
theorem dX0_sum_17 : decode cX0_sum 17 = .ok (.getfield 42, 3) := by decide +kernel
theorem dX0_sum_20 : decode cX0_sum 20 = .ok (.iload 4, 2) := by decide +kernel
theorem dX0_sum_22 : decode cX0_sum 22 = .ok (.laload, 1) := by decide +kernel
theorem dX0_sum_23 : decode cX0_sum 23 = .ok (.aload_n 1, 1) := by decide +kernel
theorem dX0_sum_24 : decode cX0_sum 24 = .ok (.aload_n 0, 1) := by decide +kernel
theorem dX0_sum_25 : decode cX0_sum 25 = .ok (.getfield 34, 3) := by decide +kernel
theorem dX0_sum_28 : decode cX0_sum 28 = .ok (.iload 4, 2) := by decide +kernel
theorem dX0_sum_30 : decode cX0_sum 30 = .ok (.iaload, 1) := by decide +kernel
theorem dX0_sum_31 : decode cX0_sum 31 = .ok (.invokevirtual 61, 3) := by decide +kernel
theorem dX0_sum_34 : decode cX0_sum 34 = .ok (.lmul, 1) := by decide +kernel
theorem dX0_sum_35 : decode cX0_sum 35 = .ok (.ladd, 1) := by decide +kernel
theorem dX0_sum_36 : decode cX0_sum 36 = .ok (.lstore_n 2, 1) := by decide +kernel
theorem dX0_sum_37 : decode cX0_sum 37 = .ok (.iinc 4 1, 3) := by decide +kernel
theorem dX0_sum_40 : decode cX0_sum 40 = .ok (.goto (-35), 3) := by decide +kernel
theorem dX0_sum_43 : decode cX0_sum 43 = .ok (.lload_n 2, 1) := by decide +kernel
theorem dX0_sum_44 : decode cX0_sum 44 = .ok (.lreturn, 1) := by decide +kernel
set_option maxRecDepth 20000 in
theorem ggX0_allUnlike_X1_numberOf : GoodIn wsX0_allUnlike wsX1_numberOf := goodIn_r _ [6, 7, 8, 13, 14, 15, 16, 17, 18, 19] (by decide +kernel) (by decide +kernel)
set_option maxRecDepth 20000 in
theorem gX0_allUnlike_X1_numberOf : GoodIn wsX0_allUnlike (wsV RX0 61 RX1 yX1_numberOf wsX1_numberOf) := goodIn_app (goodIn_of _ (by decide +kernel)) ggX0_allUnlike_X1_numberOf
theorem dX0_allUnlike_0 : decode cX0_allUnlike 0 = .ok (.iconst 1, 1) := by decide +kernel
theorem dX0_allUnlike_1 : decode cX0_allUnlike 1 = .ok (.istore_n 2, 1) := by decide +kernel
theorem dX0_allUnlike_2 : decode cX0_allUnlike 2 = .ok (.iload_n 2, 1) := by decide +kernel
theorem dX0_allUnlike_3 : decode cX0_allUnlike 3 = .ok (.aload_n 0, 1) := by decide +kernel
theorem dX0_allUnlike_4 : decode cX0_allUnlike 4 = .ok (.getfield 34, 3) := by decide +kernel
theorem dX0_allUnlike_7 : decode cX0_allUnlike 7 = .ok (.arraylength, 1) := by decide +kernel
theorem dX0_allUnlike_8 : decode cX0_allUnlike 8 = .ok (.if_icmp .ge 53, 3) := by decide +kernel
theorem dX0_allUnlike_11 : decode cX0_allUnlike 11 = .ok (.aload_n 1, 1) := by decide +kernel
theorem dX0_allUnlike_12 : decode cX0_allUnlike 12 = .ok (.aload_n 0, 1) := by decide +kernel
theorem dX0_allUnlike_13 : decode cX0_allUnlike 13 = .ok (.getfield 34, 3) := by decide +kernel
theorem dX0_allUnlike_16 : decode cX0_allUnlike 16 = .ok (.iload_n 2, 1) := by decide +kernel
theorem dX0_allUnlike_17 : decode cX0_allUnlike 17 = .ok (.iaload, 1) := by decide +kernel
theorem dX0_allUnlike_18 : decode cX0_allUnlike 18 = .ok (.invokevirtual 61, 3) := by decide +kernel
theorem dX0_allUnlike_21 : decode cX0_allUnlike 21 = .ok (.lstore_n 3, 1) := by decide +kernel
theorem dX0_allUnlike_22 : decode cX0_allUnlike 22 = .ok (.iconst 0, 1) := by decide +kernel
theorem dX0_allUnlike_23 : decode cX0_allUnlike 23 = .ok (.istore 5, 2) := by decide +kernel
theorem dX0_allUnlike_25 : decode cX0_allUnlike 25 = .ok (.iload 5, 2) := by decide +kernel
theorem dX0_allUnlike_27 : decode cX0_allUnlike 27 = .ok (.iload_n 2, 1) := by decide +kernel
theorem dX0_allUnlike_28 : decode cX0_allUnlike 28 = .ok (.if_icmp .ge 27, 3) := by decide +kernel
theorem dX0_allUnlike_31 : decode cX0_allUnlike 31 = .ok (.aload_n 1, 1) := by decide +kernel
theorem dX0_allUnlike_32 : decode cX0_allUnlike 32 = .ok (.aload_n 0, 1) := by decide +kernel
theorem dX0_allUnlike_33 : decode cX0_allUnlike 33 = .ok (.getfield 34, 3) := by decide +kernel
theorem dX0_allUnlike_36 : decode cX0_allUnlike 36 = .ok (.iload 5, 2) := by decide +kernel
theorem dX0_allUnlike_38 : decode cX0_allUnlike 38 = .ok (.iaload, 1) := by decide +kernel
theorem dX0_allUnlike_39 : decode cX0_allUnlike 39 = .ok (.invokevirtual 61, 3) := by decide +kernel
theorem dX0_allUnlike_42 : decode cX0_allUnlike 42 = .ok (.lload_n 3, 1) := by decide +kernel
theorem dX0_allUnlike_43 : decode cX0_allUnlike 43 = .ok (.lcmp, 1) := by decide +kernel
theorem dX0_allUnlike_44 : decode cX0_allUnlike 44 = .ok (.ifCond .ne 5, 3) := by decide +kernel
theorem dX0_allUnlike_47 : decode cX0_allUnlike 47 = .ok (.iconst 0, 1) := by decide +kernel
theorem dX0_allUnlike_48 : decode cX0_allUnlike 48 = .ok (.ireturn, 1) := by decide +kernel
theorem dX0_allUnlike_49 : decode cX0_allUnlike 49 = .ok (.iinc 5 1, 3) := by decide +kernel
theorem dX0_allUnlike_52 : decode cX0_allUnlike 52 = .ok (.goto (-27), 3) := by decide +kernel
theorem dX0_allUnlike_55 : decode cX0_allUnlike 55 = .ok (.iinc 2 1, 3) := by decide +kernel
theorem dX0_allUnlike_58 : decode cX0_allUnlike 58 = .ok (.goto (-56), 3) := by decide +kernel
theorem dX0_allUnlike_61 : decode cX0_allUnlike 61 = .ok (.iconst 1, 1) := by decide +kernel
theorem dX0_allUnlike_62 : decode cX0_allUnlike 62 = .ok (.ireturn, 1) := by decide +kernel
set_option maxRecDepth 20000 in
theorem ggX0_levelOfLast_X1_isKnown : GoodIn wsX0_levelOfLast wsX1_isKnown := goodIn_r _ [10, 11, 12, 28, 29, 30, 31, 32, 33, 34] (by decide +kernel) (by decide +kernel)
set_option maxRecDepth 20000 in
theorem gX0_levelOfLast_X1_isKnown : GoodIn wsX0_levelOfLast (wsV RX0 43 RX1 yX1_isKnown wsX1_isKnown) := goodIn_app (goodIn_of _ (by decide +kernel)) ggX0_levelOfLast_X1_isKnown
set_option maxRecDepth 20000 in
theorem ggX0_levelOfLast_X1_leastOf : GoodIn wsX0_levelOfLast wsX1_leastOf := goodIn_r _ [16, 12, 28, 29, 30, 31, 32, 33, 34] (by decide +kernel) (by decide +kernel)
set_option maxRecDepth 20000 in
theorem gX0_levelOfLast_X1_leastOf : GoodIn wsX0_levelOfLast (wsV RX0 49 RX1 yX1_leastOf wsX1_leastOf) := goodIn_app (goodIn_of _ (by decide +kernel)) ggX0_levelOfLast_X1_leastOf
set_option maxRecDepth 20000 in
theorem ggX0_levelOfLast_X3_levelOf : GoodIn wsX0_levelOfLast wsX3_levelOf := goodIn_r _ [21, 22, 23, 35, 36, 37, 38, 39, 40] (by decide +kernel) (by decide +kernel)
set_option maxRecDepth 20000 in
theorem gX0_levelOfLast_X3_levelOf : GoodIn wsX0_levelOfLast (wsV RX0 65 RX3 yX3_levelOf wsX3_levelOf) := goodIn_app (goodIn_of _ (by decide +kernel)) ggX0_levelOfLast_X3_levelOf
theorem dX0_levelOfLast_0 : decode cX0_levelOfLast 0 = .ok (.iconst (-1), 1) := by decide +kernel
theorem dX0_levelOfLast_1 : decode cX0_levelOfLast 1 = .ok (.istore_n 3, 1) := by decide +kernel
theorem dX0_levelOfLast_2 : decode cX0_levelOfLast 2 = .ok (.iconst 0, 1) := by decide +kernel
theorem dX0_levelOfLast_3 : decode cX0_levelOfLast 3 = .ok (.istore 4, 2) := by decide +kernel
theorem dX0_levelOfLast_5 : decode cX0_levelOfLast 5 = .ok (.iload 4, 2) := by decide +kernel
theorem dX0_levelOfLast_7 : decode cX0_levelOfLast 7 = .ok (.aload_n 0, 1) := by decide +kernel
theorem dX0_levelOfLast_8 : decode cX0_levelOfLast 8 = .ok (.getfield 34, 3) := by decide +kernel
theorem dX0_levelOfLast_11 : decode cX0_levelOfLast 11 = .ok (.arraylength, 1) := by decide +kernel
theorem dX0_levelOfLast_12 : decode cX0_levelOfLast 12 = .ok (.if_icmp .ge 58, 3) := by decide +kernel
theorem dX0_levelOfLast_15 : decode cX0_levelOfLast 15 = .ok (.aload_n 1, 1) := by decide +kernel
theorem dX0_levelOfLast_16 : decode cX0_levelOfLast 16 = .ok (.aload_n 0, 1) := by decide +kernel
theorem dX0_levelOfLast_17 : decode cX0_levelOfLast 17 = .ok (.getfield 34, 3) := by decide +kernel
theorem dX0_levelOfLast_20 : decode cX0_levelOfLast 20 = .ok (.iload 4, 2) := by decide +kernel
theorem dX0_levelOfLast_22 : decode cX0_levelOfLast 22 = .ok (.iaload, 1) := by decide +kernel
theorem dX0_levelOfLast_23 : decode cX0_levelOfLast 23 = .ok (.invokevirtual 43, 3) := by decide +kernel
theorem dX0_levelOfLast_26 : decode cX0_levelOfLast 26 = .ok (.ifCond .ne 38, 3) := by decide +kernel
theorem dX0_levelOfLast_29 : decode cX0_levelOfLast 29 = .ok (.aload_n 2, 1) := by decide +kernel
theorem dX0_levelOfLast_30 : decode cX0_levelOfLast 30 = .ok (.aload_n 1, 1) := by decide +kernel
theorem dX0_levelOfLast_31 : decode cX0_levelOfLast 31 = .ok (.aload_n 0, 1) := by decide +kernel
theorem dX0_levelOfLast_32 : decode cX0_levelOfLast 32 = .ok (.getfield 34, 3) := by decide +kernel
theorem dX0_levelOfLast_35 : decode cX0_levelOfLast 35 = .ok (.iload 4, 2) := by decide +kernel
theorem dX0_levelOfLast_37 : decode cX0_levelOfLast 37 = .ok (.iaload, 1) := by decide +kernel
theorem dX0_levelOfLast_38 : decode cX0_levelOfLast 38 = .ok (.invokevirtual 49, 3) := by decide +kernel
theorem dX0_levelOfLast_41 : decode cX0_levelOfLast 41 = .ok (.invokevirtual 65, 3) := by decide +kernel
theorem dX0_levelOfLast_44 : decode cX0_levelOfLast 44 = .ok (.istore 5, 2) := by decide +kernel
theorem dX0_levelOfLast_46 : decode cX0_levelOfLast 46 = .ok (.iload_n 3, 1) := by decide +kernel
theorem dX0_levelOfLast_47 : decode cX0_levelOfLast 47 = .ok (.iload 5, 2) := by decide +kernel
theorem dX0_levelOfLast_49 : decode cX0_levelOfLast 49 = .ok (.iconst (-1), 1) := by decide +kernel
theorem dX0_levelOfLast_50 : decode cX0_levelOfLast 50 = .ok (.if_icmp .ne 8, 3) := by decide +kernel
theorem dX0_levelOfLast_53 : decode cX0_levelOfLast 53 = .ok (.bipush 8, 2) := by decide +kernel
theorem dX0_levelOfLast_55 : decode cX0_levelOfLast 55 = .ok (.goto 5, 3) := by decide +kernel
theorem dX0_levelOfLast_58 : decode cX0_levelOfLast 58 = .ok (.iload 5, 2) := by decide +kernel
theorem dX0_levelOfLast_60 : decode cX0_levelOfLast 60 = .ok (.invokestatic 70, 3) := by decide +kernel
theorem dX0_levelOfLast_63 : decode cX0_levelOfLast 63 = .ok (.istore_n 3, 1) := by decide +kernel
theorem dX0_levelOfLast_64 : decode cX0_levelOfLast 64 = .ok (.iinc 4 1, 3) := by decide +kernel
theorem dX0_levelOfLast_67 : decode cX0_levelOfLast 67 = .ok (.goto (-62), 3) := by decide +kernel
theorem dX0_levelOfLast_70 : decode cX0_levelOfLast 70 = .ok (.iload_n 3, 1) := by decide +kernel
theorem dX0_levelOfLast_71 : decode cX0_levelOfLast 71 = .ok (.ireturn, 1) := by decide +kernel
theorem dX1_init_0 : decode cX1_init 0 = .ok (.aload_n 0, 1) := by decide +kernel
theorem dX1_init_1 : decode cX1_init 1 = .ok (.invokespecial 3, 3) := by decide +kernel
theorem dX1_init_4 : decode cX1_init 4 = .ok (.aload_n 0, 1) := by decide +kernel
theorem dX1_init_5 : decode cX1_init 5 = .ok (.bipush 64, 2) := by decide +kernel
theorem dX1_init_7 : decode cX1_init 7 = .ok (.newarray .int, 2) := by decide +kernel
theorem dX1_init_9 : decode cX1_init 9 = .ok (.putfield 9, 3) := by decide +kernel
theorem dX1_init_12 : decode cX1_init 12 = .ok (.aload_n 0, 1) := by decide +kernel
theorem dX1_init_13 : decode cX1_init 13 = .ok (.bipush 64, 2) := by decide +kernel
theorem dX1_init_15 : decode cX1_init 15 = .ok (.newarray .boolean, 2) := by decide +kernel
theorem dX1_init_17 : decode cX1_init 17 = .ok (.putfield 15, 3) := by decide +kernel
theorem dX1_init_20 : decode cX1_init 20 = .ok (.aload_n 0, 1) := by decide +kernel
theorem dX1_init_21 : decode cX1_init 21 = .ok (.bipush 64, 2) := by decide +kernel
theorem dX1_init_23 : decode cX1_init 23 = .ok (.newarray .long, 2) := by decide +kernel
theorem dX1_init_25 : decode cX1_init 25 = .ok (.putfield 19, 3) := by decide +kernel
theorem dX1_init_28 : decode cX1_init 28 = .ok (.aload_n 0, 1) := by decide +kernel
theorem dX1_init_29 : decode cX1_init 29 = .ok (.bipush 64, 2) := by decide +kernel
theorem dX1_init_31 : decode cX1_init 31 = .ok (.newarray .boolean, 2) := by decide +kernel
theorem dX1_init_33 : decode cX1_init 33 = .ok (.putfield 23, 3) := by decide +kernel
theorem dX1_init_36 : decode cX1_init 36 = .ok (.aload_n 0, 1) := by decide +kernel
theorem dX1_init_37 : decode cX1_init 37 = .ok (.bipush 64, 2) := by decide +kernel
theorem dX1_init_39 : decode cX1_init 39 = .ok (.newarray .long, 2) := by decide +kernel
theorem dX1_init_41 : decode cX1_init 41 = .ok (.putfield 26, 3) := by decide +kernel
theorem dX1_init_44 : decode cX1_init 44 = .ok (.aload_n 0, 1) := by decide +kernel
theorem dX1_init_45 : decode cX1_init 45 = .ok (.bipush 64, 2) := by decide +kernel
theorem dX1_init_47 : decode cX1_init 47 = .ok (.newarray .long, 2) := by decide +kernel
theorem dX1_init_49 : decode cX1_init 49 = .ok (.putfield 29, 3) := by decide +kernel
theorem dX1_init_52 : decode cX1_init 52 = .ok (.return_, 1) := by decide +kernel
theorem dX1_has_0 : decode cX1_has 0 = .ok (.iload_n 1, 1) := by decide +kernel
theorem dX1_has_1 : decode cX1_has 1 = .ok (.ifCond .lt 15, 3) := by decide +kernel
theorem dX1_has_4 : decode cX1_has 4 = .ok (.iload_n 1, 1) := by decide +kernel
theorem dX1_has_5 : decode cX1_has 5 = .ok (.aload_n 0, 1) := by decide +kernel
theorem dX1_has_6 : decode cX1_has 6 = .ok (.getfield 32, 3) := by decide +kernel
theorem dX1_has_9 : decode cX1_has 9 = .ok (.if_icmp .ge 7, 3) := by decide +kernel
theorem dX1_has_12 : decode cX1_has 12 = .ok (.iconst 1, 1) := by decide +kernel
theorem dX1_has_13 : decode cX1_has 13 = .ok (.goto 4, 3) := by decide +kernel
theorem dX1_has_16 : decode cX1_has 16 = .ok (.iconst 0, 1) := by decide +kernel
theorem dX1_has_17 : decode cX1_has 17 = .ok (.ireturn, 1) := by decide +kernel
theorem dX1_addFree_0 : decode cX1_addFree 0 = .ok (.aload_n 0, 1) := by decide +kernel
theorem dX1_addFree_1 : decode cX1_addFree 1 = .ok (.getfield 32, 3) := by decide +kernel
theorem dX1_addFree_4 : decode cX1_addFree 4 = .ok (.bipush 64, 2) := by decide +kernel
theorem dX1_addFree_6 : decode cX1_addFree 6 = .ok (.if_icmp .lt 5, 3) := by decide +kernel
theorem dX1_addFree_9 : decode cX1_addFree 9 = .ok (.iconst (-1), 1) := by decide +kernel
theorem dX1_addFree_10 : decode cX1_addFree 10 = .ok (.ireturn, 1) := by decide +kernel
theorem dX1_addFree_11 : decode cX1_addFree 11 = .ok (.aload_n 0, 1) := by decide +kernel
theorem dX1_addFree_12 : decode cX1_addFree 12 = .ok (.getfield 32, 3) := by decide +kernel
theorem dX1_addFree_15 : decode cX1_addFree 15 = .ok (.istore_n 1, 1) := by decide +kernel
theorem dX1_addFree_16 : decode cX1_addFree 16 = .ok (.aload_n 0, 1) := by decide +kernel
theorem dX1_addFree_17 : decode cX1_addFree 17 = .ok (.getfield 9, 3) := by decide +kernel
theorem dX1_addFree_20 : decode cX1_addFree 20 = .ok (.iload_n 1, 1) := by decide +kernel
theorem dX1_addFree_21 : decode cX1_addFree 21 = .ok (.iload_n 1, 1) := by decide +kernel
theorem dX1_addFree_22 : decode cX1_addFree 22 = .ok (.iastore, 1) := by decide +kernel
theorem dX1_addFree_23 : decode cX1_addFree 23 = .ok (.aload_n 0, 1) := by decide +kernel
theorem dX1_addFree_24 : decode cX1_addFree 24 = .ok (.getfield 15, 3) := by decide +kernel
theorem dX1_addFree_27 : decode cX1_addFree 27 = .ok (.iload_n 1, 1) := by decide +kernel
theorem dX1_addFree_28 : decode cX1_addFree 28 = .ok (.iconst 0, 1) := by decide +kernel
theorem dX1_addFree_29 : decode cX1_addFree 29 = .ok (.bastore, 1) := by decide +kernel
theorem dX1_addFree_30 : decode cX1_addFree 30 = .ok (.aload_n 0, 1) := by decide +kernel
theorem dX1_addFree_31 : decode cX1_addFree 31 = .ok (.getfield 19, 3) := by decide +kernel
theorem dX1_addFree_34 : decode cX1_addFree 34 = .ok (.iload_n 1, 1) := by decide +kernel
theorem dX1_addFree_35 : decode cX1_addFree 35 = .ok (.lconst 0, 1) := by decide +kernel
theorem dX1_addFree_36 : decode cX1_addFree 36 = .ok (.lastore, 1) := by decide +kernel
theorem dX1_addFree_37 : decode cX1_addFree 37 = .ok (.aload_n 0, 1) := by decide +kernel
theorem dX1_addFree_38 : decode cX1_addFree 38 = .ok (.getfield 23, 3) := by decide +kernel
theorem dX1_addFree_41 : decode cX1_addFree 41 = .ok (.iload_n 1, 1) := by decide +kernel
theorem dX1_addFree_42 : decode cX1_addFree 42 = .ok (.iconst 0, 1) := by decide +kernel
theorem dX1_addFree_43 : decode cX1_addFree 43 = .ok (.bastore, 1) := by decide +kernel
theorem dX1_addFree_44 : decode cX1_addFree 44 = .ok (.aload_n 0, 1) := by decide +kernel
theorem dX1_addFree_45 : decode cX1_addFree 45 = .ok (.getfield 26, 3) := by decide +kernel
theorem dX1_addFree_48 : decode cX1_addFree 48 = .ok (.iload_n 1, 1) := by decide +kernel
theorem dX1_addFree_49 : decode cX1_addFree 49 = .ok (.ldc2_w 38, 3) := by decide +kernel
theorem dX1_addFree_52 : decode cX1_addFree 52 = .ok (.lastore, 1) := by decide +kernel
theorem dX1_addFree_53 : decode cX1_addFree 53 = .ok (.aload_n 0, 1) := by decide +kernel
theorem dX1_addFree_54 : decode cX1_addFree 54 = .ok (.getfield 29, 3) := by decide +kernel
theorem dX1_addFree_57 : decode cX1_addFree 57 = .ok (.iload_n 1, 1) := by decide +kernel
theorem dX1_addFree_58 : decode cX1_addFree 58 = .ok (.ldc2_w 40, 3) := by decide +kernel
theorem dX1_addFree_61 : decode cX1_addFree 61 = .ok (.lastore, 1) := by decide +kernel
theorem dX1_addFree_62 : decode cX1_addFree 62 = .ok (.aload_n 0, 1) := by decide +kernel
theorem dX1_addFree_63 : decode cX1_addFree 63 = .ok (.dup, 1) := by decide +kernel
theorem dX1_addFree_64 : decode cX1_addFree 64 = .ok (.getfield 32, 3) := by decide +kernel
theorem dX1_addFree_67 : decode cX1_addFree 67 = .ok (.iconst 1, 1) := by decide +kernel
theorem dX1_addFree_68 : decode cX1_addFree 68 = .ok (.iadd, 1) := by decide +kernel
theorem dX1_addFree_69 : decode cX1_addFree 69 = .ok (.putfield 32, 3) := by decide +kernel
theorem dX1_addFree_72 : decode cX1_addFree 72 = .ok (.iload_n 1, 1) := by decide +kernel
theorem dX1_addFree_73 : decode cX1_addFree 73 = .ok (.ireturn, 1) := by decide +kernel
theorem dX1_leastOf_0 : decode cX1_leastOf 0 = .ok (.aload_n 0, 1) := by decide +kernel
theorem dX1_leastOf_1 : decode cX1_leastOf 1 = .ok (.getfield 9, 3) := by decide +kernel
theorem dX1_leastOf_4 : decode cX1_leastOf 4 = .ok (.iload_n 1, 1) := by decide +kernel
theorem dX1_leastOf_5 : decode cX1_leastOf 5 = .ok (.iaload, 1) := by decide +kernel
theorem dX1_leastOf_6 : decode cX1_leastOf 6 = .ok (.ireturn, 1) := by decide +kernel
theorem dX1_isKnown_0 : decode cX1_isKnown 0 = .ok (.aload_n 0, 1) := by decide +kernel
theorem dX1_isKnown_1 : decode cX1_isKnown 1 = .ok (.getfield 15, 3) := by decide +kernel
theorem dX1_isKnown_4 : decode cX1_isKnown 4 = .ok (.aload_n 0, 1) := by decide +kernel
theorem dX1_isKnown_5 : decode cX1_isKnown 5 = .ok (.getfield 9, 3) := by decide +kernel
theorem dX1_isKnown_8 : decode cX1_isKnown 8 = .ok (.iload_n 1, 1) := by decide +kernel
theorem dX1_isKnown_9 : decode cX1_isKnown 9 = .ok (.iaload, 1) := by decide +kernel
theorem dX1_isKnown_10 : decode cX1_isKnown 10 = .ok (.baload, 1) := by decide +kernel
theorem dX1_isKnown_11 : decode cX1_isKnown 11 = .ok (.ireturn, 1) := by decide +kernel
theorem dX1_numberOf_0 : decode cX1_numberOf 0 = .ok (.aload_n 0, 1) := by decide +kernel
theorem dX1_numberOf_1 : decode cX1_numberOf 1 = .ok (.getfield 19, 3) := by decide +kernel
theorem dX1_numberOf_4 : decode cX1_numberOf 4 = .ok (.aload_n 0, 1) := by decide +kernel
theorem dX1_numberOf_5 : decode cX1_numberOf 5 = .ok (.getfield 9, 3) := by decide +kernel
theorem dX1_numberOf_8 : decode cX1_numberOf 8 = .ok (.iload_n 1, 1) := by decide +kernel
theorem dX1_numberOf_9 : decode cX1_numberOf 9 = .ok (.iaload, 1) := by decide +kernel
theorem dX1_numberOf_10 : decode cX1_numberOf 10 = .ok (.laload, 1) := by decide +kernel
theorem dX1_numberOf_11 : decode cX1_numberOf 11 = .ok (.lreturn, 1) := by decide +kernel
theorem dX1_lowOf_0 : decode cX1_lowOf 0 = .ok (.aload_n 0, 1) := by decide +kernel
theorem dX1_lowOf_1 : decode cX1_lowOf 1 = .ok (.getfield 26, 3) := by decide +kernel
theorem dX1_lowOf_4 : decode cX1_lowOf 4 = .ok (.aload_n 0, 1) := by decide +kernel
theorem dX1_lowOf_5 : decode cX1_lowOf 5 = .ok (.getfield 9, 3) := by decide +kernel
theorem dX1_lowOf_8 : decode cX1_lowOf 8 = .ok (.iload_n 1, 1) := by decide +kernel
theorem dX1_lowOf_9 : decode cX1_lowOf 9 = .ok (.iaload, 1) := by decide +kernel
theorem dX1_lowOf_10 : decode cX1_lowOf 10 = .ok (.laload, 1) := by decide +kernel
theorem dX1_lowOf_11 : decode cX1_lowOf 11 = .ok (.lreturn, 1) := by decide +kernel
theorem dX1_highOf_0 : decode cX1_highOf 0 = .ok (.aload_n 0, 1) := by decide +kernel
theorem dX1_highOf_1 : decode cX1_highOf 1 = .ok (.getfield 29, 3) := by decide +kernel
theorem dX1_highOf_4 : decode cX1_highOf 4 = .ok (.aload_n 0, 1) := by decide +kernel
theorem dX1_highOf_5 : decode cX1_highOf 5 = .ok (.getfield 9, 3) := by decide +kernel
theorem dX1_highOf_8 : decode cX1_highOf 8 = .ok (.iload_n 1, 1) := by decide +kernel
theorem dX1_highOf_9 : decode cX1_highOf 9 = .ok (.iaload, 1) := by decide +kernel
theorem dX1_highOf_10 : decode cX1_highOf 10 = .ok (.laload, 1) := by decide +kernel
theorem dX1_highOf_11 : decode cX1_highOf 11 = .ok (.lreturn, 1) := by decide +kernel
theorem dX1_hasSpan_0 : decode cX1_hasSpan 0 = .ok (.aload_n 0, 1) := by decide +kernel
theorem dX1_hasSpan_1 : decode cX1_hasSpan 1 = .ok (.getfield 23, 3) := by decide +kernel
theorem dX1_hasSpan_4 : decode cX1_hasSpan 4 = .ok (.aload_n 0, 1) := by decide +kernel
theorem dX1_hasSpan_5 : decode cX1_hasSpan 5 = .ok (.getfield 9, 3) := by decide +kernel
theorem dX1_hasSpan_8 : decode cX1_hasSpan 8 = .ok (.iload_n 1, 1) := by decide +kernel
theorem dX1_hasSpan_9 : decode cX1_hasSpan 9 = .ok (.iaload, 1) := by decide +kernel
theorem dX1_hasSpan_10 : decode cX1_hasSpan 10 = .ok (.baload, 1) := by decide +kernel
theorem dX1_hasSpan_11 : decode cX1_hasSpan 11 = .ok (.ireturn, 1) := by decide +kernel
set_option maxRecDepth 20000 in
theorem ggX1_liesInSpan_X1_lowOf : GoodIn wsX1_liesInSpan wsX1_lowOf := goodIn_r _ [5, 6, 7, 13, 14, 15, 16, 17, 18, 19] (by decide +kernel) (by decide +kernel)
set_option maxRecDepth 20000 in
theorem gX1_liesInSpan_X1_lowOf : GoodIn wsX1_liesInSpan (wsV RX1 42 RX1 yX1_lowOf wsX1_lowOf) := goodIn_app (goodIn_of _ (by decide +kernel)) ggX1_liesInSpan_X1_lowOf
set_option maxRecDepth 20000 in
theorem ggX1_liesInSpan_X1_highOf : GoodIn wsX1_liesInSpan wsX1_highOf := goodIn_r _ [11, 12, 7, 13, 14, 15, 16, 17, 18, 19] (by decide +kernel) (by decide +kernel)
set_option maxRecDepth 20000 in
theorem gX1_liesInSpan_X1_highOf : GoodIn wsX1_liesInSpan (wsV RX1 46 RX1 yX1_highOf wsX1_highOf) := goodIn_app (goodIn_of _ (by decide +kernel)) ggX1_liesInSpan_X1_highOf
theorem dX1_liesInSpan_0 : decode cX1_liesInSpan 0 = .ok (.aload_n 0, 1) := by decide +kernel
theorem dX1_liesInSpan_1 : decode cX1_liesInSpan 1 = .ok (.iload_n 1, 1) := by decide +kernel
theorem dX1_liesInSpan_2 : decode cX1_liesInSpan 2 = .ok (.invokevirtual 42, 3) := by decide +kernel
theorem dX1_liesInSpan_5 : decode cX1_liesInSpan 5 = .ok (.lload_n 2, 1) := by decide +kernel
theorem dX1_liesInSpan_6 : decode cX1_liesInSpan 6 = .ok (.lcmp, 1) := by decide +kernel
theorem dX1_liesInSpan_7 : decode cX1_liesInSpan 7 = .ok (.ifCond .gt 17, 3) := by decide +kernel
theorem dX1_liesInSpan_10 : decode cX1_liesInSpan 10 = .ok (.lload_n 2, 1) := by decide +kernel
theorem dX1_liesInSpan_11 : decode cX1_liesInSpan 11 = .ok (.aload_n 0, 1) := by decide +kernel
theorem dX1_liesInSpan_12 : decode cX1_liesInSpan 12 = .ok (.iload_n 1, 1) := by decide +kernel
theorem dX1_liesInSpan_13 : decode cX1_liesInSpan 13 = .ok (.invokevirtual 46, 3) := by decide +kernel
theorem dX1_liesInSpan_16 : decode cX1_liesInSpan 16 = .ok (.lcmp, 1) := by decide +kernel
theorem dX1_liesInSpan_17 : decode cX1_liesInSpan 17 = .ok (.ifCond .gt 7, 3) := by decide +kernel
theorem dX1_liesInSpan_20 : decode cX1_liesInSpan 20 = .ok (.iconst 1, 1) := by decide +kernel
theorem dX1_liesInSpan_21 : decode cX1_liesInSpan 21 = .ok (.goto 4, 3) := by decide +kernel
theorem dX1_liesInSpan_24 : decode cX1_liesInSpan 24 = .ok (.iconst 0, 1) := by decide +kernel
theorem dX1_liesInSpan_25 : decode cX1_liesInSpan 25 = .ok (.ireturn, 1) := by decide +kernel
set_option maxRecDepth 20000 in
theorem ggX1_freedom_X1_isKnown : GoodIn wsX1_freedom wsX1_isKnown := goodIn_r _ [5, 6, 7, 13, 14, 15, 16, 17, 18, 19] (by decide +kernel) (by decide +kernel)
set_option maxRecDepth 20000 in
theorem gX1_freedom_X1_isKnown : GoodIn wsX1_freedom (wsV RX1 49 RX1 yX1_isKnown wsX1_isKnown) := goodIn_app (goodIn_of _ (by decide +kernel)) ggX1_freedom_X1_isKnown
set_option maxRecDepth 20000 in
theorem ggX1_freedom_X1_hasSpan : GoodIn wsX1_freedom wsX1_hasSpan := goodIn_r _ [11, 12, 7, 13, 14, 15, 16, 17, 18, 19] (by decide +kernel) (by decide +kernel)
set_option maxRecDepth 20000 in
theorem gX1_freedom_X1_hasSpan : GoodIn wsX1_freedom (wsV RX1 53 RX1 yX1_hasSpan wsX1_hasSpan) := goodIn_app (goodIn_of _ (by decide +kernel)) ggX1_freedom_X1_hasSpan
theorem dX1_freedom_0 : decode cX1_freedom 0 = .ok (.aload_n 0, 1) := by decide +kernel
theorem dX1_freedom_1 : decode cX1_freedom 1 = .ok (.iload_n 1, 1) := by decide +kernel
theorem dX1_freedom_2 : decode cX1_freedom 2 = .ok (.invokevirtual 49, 3) := by decide +kernel
theorem dX1_freedom_5 : decode cX1_freedom 5 = .ok (.ifCond .eq 5, 3) := by decide +kernel
theorem dX1_freedom_8 : decode cX1_freedom 8 = .ok (.iconst 2, 1) := by decide +kernel
theorem dX1_freedom_9 : decode cX1_freedom 9 = .ok (.ireturn, 1) := by decide +kernel
theorem dX1_freedom_10 : decode cX1_freedom 10 = .ok (.aload_n 0, 1) := by decide +kernel
theorem dX1_freedom_11 : decode cX1_freedom 11 = .ok (.iload_n 1, 1) := by decide +kernel
theorem dX1_freedom_12 : decode cX1_freedom 12 = .ok (.invokevirtual 53, 3) := by decide +kernel
theorem dX1_freedom_15 : decode cX1_freedom 15 = .ok (.ifCond .eq 7, 3) := by decide +kernel
theorem dX1_freedom_18 : decode cX1_freedom 18 = .ok (.iconst 1, 1) := by decide +kernel
theorem dX1_freedom_19 : decode cX1_freedom 19 = .ok (.goto 4, 3) := by decide +kernel
theorem dX1_freedom_22 : decode cX1_freedom 22 = .ok (.iconst 0, 1) := by decide +kernel
theorem dX1_freedom_23 : decode cX1_freedom 23 = .ok (.ireturn, 1) := by decide +kernel
theorem dX1_setNumber_0 : decode cX1_setNumber 0 = .ok (.aload_n 0, 1) := by decide +kernel
theorem dX1_setNumber_1 : decode cX1_setNumber 1 = .ok (.getfield 15, 3) := by decide +kernel
theorem dX1_setNumber_4 : decode cX1_setNumber 4 = .ok (.aload_n 0, 1) := by decide +kernel
theorem dX1_setNumber_5 : decode cX1_setNumber 5 = .ok (.getfield 9, 3) := by decide +kernel
theorem dX1_setNumber_8 : decode cX1_setNumber 8 = .ok (.iload_n 1, 1) := by decide +kernel
theorem dX1_setNumber_9 : decode cX1_setNumber 9 = .ok (.iaload, 1) := by decide +kernel
theorem dX1_setNumber_10 : decode cX1_setNumber 10 = .ok (.iconst 1, 1) := by decide +kernel
theorem dX1_setNumber_11 : decode cX1_setNumber 11 = .ok (.bastore, 1) := by decide +kernel
theorem dX1_setNumber_12 : decode cX1_setNumber 12 = .ok (.aload_n 0, 1) := by decide +kernel
theorem dX1_setNumber_13 : decode cX1_setNumber 13 = .ok (.getfield 19, 3) := by decide +kernel
theorem dX1_setNumber_16 : decode cX1_setNumber 16 = .ok (.aload_n 0, 1) := by decide +kernel
theorem dX1_setNumber_17 : decode cX1_setNumber 17 = .ok (.getfield 9, 3) := by decide +kernel
theorem dX1_setNumber_20 : decode cX1_setNumber 20 = .ok (.iload_n 1, 1) := by decide +kernel
theorem dX1_setNumber_21 : decode cX1_setNumber 21 = .ok (.iaload, 1) := by decide +kernel
theorem dX1_setNumber_22 : decode cX1_setNumber 22 = .ok (.lload_n 2, 1) := by decide +kernel
theorem dX1_setNumber_23 : decode cX1_setNumber 23 = .ok (.lastore, 1) := by decide +kernel
theorem dX1_setNumber_24 : decode cX1_setNumber 24 = .ok (.return_, 1) := by decide +kernel
theorem dX1_unsetNumber_0 : decode cX1_unsetNumber 0 = .ok (.aload_n 0, 1) := by decide +kernel
theorem dX1_unsetNumber_1 : decode cX1_unsetNumber 1 = .ok (.getfield 15, 3) := by decide +kernel
theorem dX1_unsetNumber_4 : decode cX1_unsetNumber 4 = .ok (.aload_n 0, 1) := by decide +kernel
theorem dX1_unsetNumber_5 : decode cX1_unsetNumber 5 = .ok (.getfield 9, 3) := by decide +kernel
theorem dX1_unsetNumber_8 : decode cX1_unsetNumber 8 = .ok (.iload_n 1, 1) := by decide +kernel
theorem dX1_unsetNumber_9 : decode cX1_unsetNumber 9 = .ok (.iaload, 1) := by decide +kernel
theorem dX1_unsetNumber_10 : decode cX1_unsetNumber 10 = .ok (.iconst 0, 1) := by decide +kernel
theorem dX1_unsetNumber_11 : decode cX1_unsetNumber 11 = .ok (.bastore, 1) := by decide +kernel
theorem dX1_unsetNumber_12 : decode cX1_unsetNumber 12 = .ok (.return_, 1) := by decide +kernel
set_option maxRecDepth 20000 in
theorem ggX1_narrow_X1_isKnown : GoodIn wsX1_narrow wsX1_isKnown := goodIn_r _ [16, 17, 8, 31, 32, 33, 34, 35, 36, 37] (by decide +kernel) (by decide +kernel)
set_option maxRecDepth 20000 in
theorem gX1_narrow_X1_isKnown : GoodIn wsX1_narrow (wsV RX1 49 RX1 yX1_isKnown wsX1_isKnown) := goodIn_app (goodIn_of _ (by decide +kernel)) ggX1_narrow_X1_isKnown
set_option maxRecDepth 20000 in
theorem ggX1_narrow_X1_numberOf : GoodIn wsX1_narrow wsX1_numberOf := goodIn_r _ [21, 22, 8, 31, 32, 33, 34, 35, 36, 37] (by decide +kernel) (by decide +kernel)
set_option maxRecDepth 20000 in
theorem gX1_narrow_X1_numberOf : GoodIn wsX1_narrow (wsV RX1 56 RX1 yX1_numberOf wsX1_numberOf) := goodIn_app (goodIn_of _ (by decide +kernel)) ggX1_narrow_X1_numberOf
set_option maxRecDepth 20000 in
theorem ggX1_narrow_X1_lowOf : GoodIn wsX1_narrow wsX1_lowOf := goodIn_r _ [26, 10, 8, 31, 32, 33, 34, 35, 36, 37] (by decide +kernel) (by decide +kernel)
set_option maxRecDepth 20000 in
theorem gX1_narrow_X1_lowOf : GoodIn wsX1_narrow (wsV RX1 42 RX1 yX1_lowOf wsX1_lowOf) := goodIn_app (goodIn_of _ (by decide +kernel)) ggX1_narrow_X1_lowOf
set_option maxRecDepth 20000 in
theorem ggX1_narrow_X1_highOf : GoodIn wsX1_narrow wsX1_highOf := goodIn_r _ [30, 11, 8, 31, 32, 33, 34, 35, 36, 37] (by decide +kernel) (by decide +kernel)
set_option maxRecDepth 20000 in
theorem gX1_narrow_X1_highOf : GoodIn wsX1_narrow (wsV RX1 46 RX1 yX1_highOf wsX1_highOf) := goodIn_app (goodIn_of _ (by decide +kernel)) ggX1_narrow_X1_highOf
theorem dX1_narrow_0 : decode cX1_narrow 0 = .ok (.lload 4, 2) := by decide +kernel
theorem dX1_narrow_2 : decode cX1_narrow 2 = .ok (.lload_n 2, 1) := by decide +kernel
theorem dX1_narrow_3 : decode cX1_narrow 3 = .ok (.lcmp, 1) := by decide +kernel
theorem dX1_narrow_4 : decode cX1_narrow 4 = .ok (.ifCond .ge 5, 3) := by decide +kernel
theorem dX1_narrow_7 : decode cX1_narrow 7 = .ok (.iconst 0, 1) := by decide +kernel
theorem dX1_narrow_8 : decode cX1_narrow 8 = .ok (.ireturn, 1) := by decide +kernel
theorem dX1_narrow_9 : decode cX1_narrow 9 = .ok (.aload_n 0, 1) := by decide +kernel
theorem dX1_narrow_10 : decode cX1_narrow 10 = .ok (.iload_n 1, 1) := by decide +kernel
theorem dX1_narrow_11 : decode cX1_narrow 11 = .ok (.invokevirtual 49, 3) := by decide +kernel
theorem dX1_narrow_14 : decode cX1_narrow 14 = .ok (.ifCond .eq 30, 3) := by decide +kernel
theorem dX1_narrow_17 : decode cX1_narrow 17 = .ok (.lload_n 2, 1) := by decide +kernel
theorem dX1_narrow_18 : decode cX1_narrow 18 = .ok (.aload_n 0, 1) := by decide +kernel
theorem dX1_narrow_19 : decode cX1_narrow 19 = .ok (.iload_n 1, 1) := by decide +kernel
theorem dX1_narrow_20 : decode cX1_narrow 20 = .ok (.invokevirtual 56, 3) := by decide +kernel
theorem dX1_narrow_23 : decode cX1_narrow 23 = .ok (.lcmp, 1) := by decide +kernel
theorem dX1_narrow_24 : decode cX1_narrow 24 = .ok (.ifCond .gt 18, 3) := by decide +kernel
theorem dX1_narrow_27 : decode cX1_narrow 27 = .ok (.aload_n 0, 1) := by decide +kernel
theorem dX1_narrow_28 : decode cX1_narrow 28 = .ok (.iload_n 1, 1) := by decide +kernel
theorem dX1_narrow_29 : decode cX1_narrow 29 = .ok (.invokevirtual 56, 3) := by decide +kernel
theorem dX1_narrow_32 : decode cX1_narrow 32 = .ok (.lload 4, 2) := by decide +kernel
theorem dX1_narrow_34 : decode cX1_narrow 34 = .ok (.lcmp, 1) := by decide +kernel
theorem dX1_narrow_35 : decode cX1_narrow 35 = .ok (.ifCond .gt 7, 3) := by decide +kernel
theorem dX1_narrow_38 : decode cX1_narrow 38 = .ok (.iconst 1, 1) := by decide +kernel
theorem dX1_narrow_39 : decode cX1_narrow 39 = .ok (.goto 4, 3) := by decide +kernel
theorem dX1_narrow_42 : decode cX1_narrow 42 = .ok (.iconst 0, 1) := by decide +kernel
theorem dX1_narrow_43 : decode cX1_narrow 43 = .ok (.ireturn, 1) := by decide +kernel
theorem dX1_narrow_44 : decode cX1_narrow 44 = .ok (.lload_n 2, 1) := by decide +kernel
theorem dX1_narrow_45 : decode cX1_narrow 45 = .ok (.aload_n 0, 1) := by decide +kernel
theorem dX1_narrow_46 : decode cX1_narrow 46 = .ok (.iload_n 1, 1) := by decide +kernel
theorem dX1_narrow_47 : decode cX1_narrow 47 = .ok (.invokevirtual 42, 3) := by decide +kernel
theorem dX1_narrow_50 : decode cX1_narrow 50 = .ok (.invokestatic 59, 3) := by decide +kernel
theorem dX1_narrow_53 : decode cX1_narrow 53 = .ok (.lstore 6, 2) := by decide +kernel
theorem dX1_narrow_55 : decode cX1_narrow 55 = .ok (.lload 4, 2) := by decide +kernel
theorem dX1_narrow_57 : decode cX1_narrow 57 = .ok (.aload_n 0, 1) := by decide +kernel
theorem dX1_narrow_58 : decode cX1_narrow 58 = .ok (.iload_n 1, 1) := by decide +kernel
theorem dX1_narrow_59 : decode cX1_narrow 59 = .ok (.invokevirtual 46, 3) := by decide +kernel
theorem dX1_narrow_62 : decode cX1_narrow 62 = .ok (.invokestatic 65, 3) := by decide +kernel
theorem dX1_narrow_65 : decode cX1_narrow 65 = .ok (.lstore 8, 2) := by decide +kernel
theorem dX1_narrow_67 : decode cX1_narrow 67 = .ok (.lload 8, 2) := by decide +kernel
theorem dX1_narrow_69 : decode cX1_narrow 69 = .ok (.lload 6, 2) := by decide +kernel
theorem dX1_narrow_71 : decode cX1_narrow 71 = .ok (.lcmp, 1) := by decide +kernel
theorem dX1_narrow_72 : decode cX1_narrow 72 = .ok (.ifCond .ge 5, 3) := by decide +kernel
theorem dX1_narrow_75 : decode cX1_narrow 75 = .ok (.iconst 0, 1) := by decide +kernel
theorem dX1_narrow_76 : decode cX1_narrow 76 = .ok (.ireturn, 1) := by decide +kernel
theorem dX1_narrow_77 : decode cX1_narrow 77 = .ok (.aload_n 0, 1) := by decide +kernel
theorem dX1_narrow_78 : decode cX1_narrow 78 = .ok (.getfield 9, 3) := by decide +kernel
theorem dX1_narrow_81 : decode cX1_narrow 81 = .ok (.iload_n 1, 1) := by decide +kernel
theorem dX1_narrow_82 : decode cX1_narrow 82 = .ok (.iaload, 1) := by decide +kernel
theorem dX1_narrow_83 : decode cX1_narrow 83 = .ok (.istore 10, 2) := by decide +kernel
theorem dX1_narrow_85 : decode cX1_narrow 85 = .ok (.aload_n 0, 1) := by decide +kernel
theorem dX1_narrow_86 : decode cX1_narrow 86 = .ok (.getfield 23, 3) := by decide +kernel
theorem dX1_narrow_89 : decode cX1_narrow 89 = .ok (.iload 10, 2) := by decide +kernel
theorem dX1_narrow_91 : decode cX1_narrow 91 = .ok (.iconst 1, 1) := by decide +kernel
theorem dX1_narrow_92 : decode cX1_narrow 92 = .ok (.bastore, 1) := by decide +kernel
theorem dX1_narrow_93 : decode cX1_narrow 93 = .ok (.aload_n 0, 1) := by decide +kernel
theorem dX1_narrow_94 : decode cX1_narrow 94 = .ok (.getfield 26, 3) := by decide +kernel
theorem dX1_narrow_97 : decode cX1_narrow 97 = .ok (.iload 10, 2) := by decide +kernel
theorem dX1_narrow_99 : decode cX1_narrow 99 = .ok (.lload 6, 2) := by decide +kernel
theorem dX1_narrow_101 : decode cX1_narrow 101 = .ok (.lastore, 1) := by decide +kernel
theorem dX1_narrow_102 : decode cX1_narrow 102 = .ok (.aload_n 0, 1) := by decide +kernel
theorem dX1_narrow_103 : decode cX1_narrow 103 = .ok (.getfield 29, 3) := by decide +kernel
theorem dX1_narrow_106 : decode cX1_narrow 106 = .ok (.iload 10, 2) := by decide +kernel
theorem dX1_narrow_108 : decode cX1_narrow 108 = .ok (.lload 8, 2) := by decide +kernel
theorem dX1_narrow_110 : decode cX1_narrow 110 = .ok (.lastore, 1) := by decide +kernel
theorem dX1_narrow_111 : decode cX1_narrow 111 = .ok (.iconst 1, 1) := by decide +kernel
theorem dX1_narrow_112 : decode cX1_narrow 112 = .ok (.ireturn, 1) := by decide +kernel
set_option maxRecDepth 20000 in
theorem ggX1_shareSpans_X1_hasSpan : GoodIn wsX1_shareSpans wsX1_hasSpan := goodIn_r _ [5, 6, 7, 39, 40, 41, 42, 43, 44, 45] (by decide +kernel) (by decide +kernel)
set_option maxRecDepth 20000 in
theorem gX1_shareSpans_X1_hasSpan : GoodIn wsX1_shareSpans (wsV RX1 53 RX1 yX1_hasSpan wsX1_hasSpan) := goodIn_app (goodIn_of _ (by decide +kernel)) ggX1_shareSpans_X1_hasSpan
set_option maxRecDepth 20000 in
theorem ggX1_shareSpans_X1_lowOf : GoodIn wsX1_shareSpans wsX1_lowOf := goodIn_r _ [11, 12, 7, 39, 40, 41, 42, 43, 44, 45] (by decide +kernel) (by decide +kernel)
set_option maxRecDepth 20000 in
theorem gX1_shareSpans_X1_lowOf : GoodIn wsX1_shareSpans (wsV RX1 42 RX1 yX1_lowOf wsX1_lowOf) := goodIn_app (goodIn_of _ (by decide +kernel)) ggX1_shareSpans_X1_lowOf
set_option maxRecDepth 20000 in
theorem ggX1_shareSpans_X1_highOf : GoodIn wsX1_shareSpans wsX1_highOf := goodIn_r _ [16, 17, 7, 39, 40, 41, 42, 43, 44, 45] (by decide +kernel) (by decide +kernel)
set_option maxRecDepth 20000 in
theorem gX1_shareSpans_X1_highOf : GoodIn wsX1_shareSpans (wsV RX1 46 RX1 yX1_highOf wsX1_highOf) := goodIn_app (goodIn_of _ (by decide +kernel)) ggX1_shareSpans_X1_highOf
set_option maxRecDepth 20000 in
theorem ggX1_shareSpans_X1_narrow : GoodIn wsX1_shareSpans wsX1_narrow := goodIn_r _ [21, 22, 23, 24, 25, 26, 27, 28, 7, 6, 12, 17, 29, 30, 31, 4, 32, 33, 34, 35, 36, 37, 38, 8, 9, 10, 11, 13, 14, 15, 16, 39, 40, 41, 42, 43, 44, 45] (by decide +kernel) (by decide +kernel)
set_option maxRecDepth 20000 in
theorem gX1_shareSpans_X1_narrow : GoodIn wsX1_shareSpans (wsV RX1 68 RX1 yX1_narrow wsX1_narrow) := goodIn_app (goodIn_of _ (by decide +kernel)) ggX1_shareSpans_X1_narrow
theorem dX1_shareSpans_0 : decode cX1_shareSpans 0 = .ok (.aload_n 0, 1) := by decide +kernel
theorem dX1_shareSpans_1 : decode cX1_shareSpans 1 = .ok (.iload_n 2, 1) := by decide +kernel
theorem dX1_shareSpans_2 : decode cX1_shareSpans 2 = .ok (.invokevirtual 53, 3) := by decide +kernel
theorem dX1_shareSpans_5 : decode cX1_shareSpans 5 = .ok (.ifCond .eq 23, 3) := by decide +kernel
theorem dX1_shareSpans_8 : decode cX1_shareSpans 8 = .ok (.aload_n 0, 1) := by decide +kernel
theorem dX1_shareSpans_9 : decode cX1_shareSpans 9 = .ok (.iload_n 1, 1) := by decide +kernel
theorem dX1_shareSpans_10 : decode cX1_shareSpans 10 = .ok (.aload_n 0, 1) := by decide +kernel
theorem dX1_shareSpans_11 : decode cX1_shareSpans 11 = .ok (.iload_n 2, 1) := by decide +kernel
theorem dX1_shareSpans_12 : decode cX1_shareSpans 12 = .ok (.invokevirtual 42, 3) := by decide +kernel
theorem dX1_shareSpans_15 : decode cX1_shareSpans 15 = .ok (.aload_n 0, 1) := by decide +kernel
theorem dX1_shareSpans_16 : decode cX1_shareSpans 16 = .ok (.iload_n 2, 1) := by decide +kernel
theorem dX1_shareSpans_17 : decode cX1_shareSpans 17 = .ok (.invokevirtual 46, 3) := by decide +kernel
theorem dX1_shareSpans_20 : decode cX1_shareSpans 20 = .ok (.invokevirtual 68, 3) := by decide +kernel
theorem dX1_shareSpans_23 : decode cX1_shareSpans 23 = .ok (.ifCond .ne 5, 3) := by decide +kernel
theorem dX1_shareSpans_26 : decode cX1_shareSpans 26 = .ok (.iconst 0, 1) := by decide +kernel
theorem dX1_shareSpans_27 : decode cX1_shareSpans 27 = .ok (.ireturn, 1) := by decide +kernel
theorem dX1_shareSpans_28 : decode cX1_shareSpans 28 = .ok (.aload_n 0, 1) := by decide +kernel
theorem dX1_shareSpans_29 : decode cX1_shareSpans 29 = .ok (.iload_n 1, 1) := by decide +kernel
theorem dX1_shareSpans_30 : decode cX1_shareSpans 30 = .ok (.invokevirtual 53, 3) := by decide +kernel
theorem dX1_shareSpans_33 : decode cX1_shareSpans 33 = .ok (.ifCond .eq 21, 3) := by decide +kernel
theorem dX1_shareSpans_36 : decode cX1_shareSpans 36 = .ok (.aload_n 0, 1) := by decide +kernel
theorem dX1_shareSpans_37 : decode cX1_shareSpans 37 = .ok (.iload_n 2, 1) := by decide +kernel
theorem dX1_shareSpans_38 : decode cX1_shareSpans 38 = .ok (.aload_n 0, 1) := by decide +kernel
theorem dX1_shareSpans_39 : decode cX1_shareSpans 39 = .ok (.iload_n 1, 1) := by decide +kernel
theorem dX1_shareSpans_40 : decode cX1_shareSpans 40 = .ok (.invokevirtual 42, 3) := by decide +kernel
theorem dX1_shareSpans_43 : decode cX1_shareSpans 43 = .ok (.aload_n 0, 1) := by decide +kernel
theorem dX1_shareSpans_44 : decode cX1_shareSpans 44 = .ok (.iload_n 1, 1) := by decide +kernel
theorem dX1_shareSpans_45 : decode cX1_shareSpans 45 = .ok (.invokevirtual 46, 3) := by decide +kernel
theorem dX1_shareSpans_48 : decode cX1_shareSpans 48 = .ok (.invokevirtual 68, 3) := by decide +kernel
theorem dX1_shareSpans_51 : decode cX1_shareSpans 51 = .ok (.ifCond .eq 7, 3) := by decide +kernel
theorem dX1_shareSpans_54 : decode cX1_shareSpans 54 = .ok (.iconst 1, 1) := by decide +kernel
theorem dX1_shareSpans_55 : decode cX1_shareSpans 55 = .ok (.goto 4, 3) := by decide +kernel
theorem dX1_shareSpans_58 : decode cX1_shareSpans 58 = .ok (.iconst 0, 1) := by decide +kernel
theorem dX1_shareSpans_59 : decode cX1_shareSpans 59 = .ok (.ireturn, 1) := by decide +kernel
theorem dX1_join_0 : decode cX1_join 0 = .ok (.aload_n 0, 1) := by decide +kernel
theorem dX1_join_1 : decode cX1_join 1 = .ok (.getfield 9, 3) := by decide +kernel
theorem dX1_join_4 : decode cX1_join 4 = .ok (.iload_n 1, 1) := by decide +kernel
theorem dX1_join_5 : decode cX1_join 5 = .ok (.iaload, 1) := by decide +kernel
theorem dX1_join_6 : decode cX1_join 6 = .ok (.aload_n 0, 1) := by decide +kernel
theorem dX1_join_7 : decode cX1_join 7 = .ok (.getfield 9, 3) := by decide +kernel
theorem dX1_join_10 : decode cX1_join 10 = .ok (.iload_n 2, 1) := by decide +kernel
theorem dX1_join_11 : decode cX1_join 11 = .ok (.iaload, 1) := by decide +kernel
theorem dX1_join_12 : decode cX1_join 12 = .ok (.invokestatic 72, 3) := by decide +kernel
theorem dX1_join_15 : decode cX1_join 15 = .ok (.istore_n 3, 1) := by decide +kernel
theorem dX1_join_16 : decode cX1_join 16 = .ok (.aload_n 0, 1) := by decide +kernel
theorem dX1_join_17 : decode cX1_join 17 = .ok (.getfield 9, 3) := by decide +kernel
theorem dX1_join_20 : decode cX1_join 20 = .ok (.iload_n 1, 1) := by decide +kernel
theorem dX1_join_21 : decode cX1_join 21 = .ok (.iaload, 1) := by decide +kernel
theorem dX1_join_22 : decode cX1_join 22 = .ok (.aload_n 0, 1) := by decide +kernel
end
section
theorem dX1_join_23 : decode cX1_join 23 = .ok (.getfield 9, 3) := by decide +kernel
theorem dX1_join_26 : decode cX1_join 26 = .ok (.iload_n 2, 1) := by decide +kernel
theorem dX1_join_27 : decode cX1_join 27 = .ok (.iaload, 1) := by decide +kernel
theorem dX1_join_28 : decode cX1_join 28 = .ok (.invokestatic 75, 3) := by decide +kernel
theorem dX1_join_31 : decode cX1_join 31 = .ok (.istore 4, 2) := by decide +kernel
theorem dX1_join_33 : decode cX1_join 33 = .ok (.iconst 0, 1) := by decide +kernel
theorem dX1_join_34 : decode cX1_join 34 = .ok (.istore 5, 2) := by decide +kernel
theorem dX1_join_36 : decode cX1_join 36 = .ok (.iload 5, 2) := by decide +kernel
theorem dX1_join_38 : decode cX1_join 38 = .ok (.aload_n 0, 1) := by decide +kernel
theorem dX1_join_39 : decode cX1_join 39 = .ok (.getfield 32, 3) := by decide +kernel
theorem dX1_join_42 : decode cX1_join 42 = .ok (.if_icmp .ge 29, 3) := by decide +kernel
theorem dX1_join_45 : decode cX1_join 45 = .ok (.aload_n 0, 1) := by decide +kernel
theorem dX1_join_46 : decode cX1_join 46 = .ok (.getfield 9, 3) := by decide +kernel
theorem dX1_join_49 : decode cX1_join 49 = .ok (.iload 5, 2) := by decide +kernel
theorem dX1_join_51 : decode cX1_join 51 = .ok (.iaload, 1) := by decide +kernel
theorem dX1_join_52 : decode cX1_join 52 = .ok (.iload 4, 2) := by decide +kernel
theorem dX1_join_54 : decode cX1_join 54 = .ok (.if_icmp .ne 11, 3) := by decide +kernel
theorem dX1_join_57 : decode cX1_join 57 = .ok (.aload_n 0, 1) := by decide +kernel
theorem dX1_join_58 : decode cX1_join 58 = .ok (.getfield 9, 3) := by decide +kernel
theorem dX1_join_61 : decode cX1_join 61 = .ok (.iload 5, 2) := by decide +kernel
theorem dX1_join_63 : decode cX1_join 63 = .ok (.iload_n 3, 1) := by decide +kernel
theorem dX1_join_64 : decode cX1_join 64 = .ok (.iastore, 1) := by decide +kernel
theorem dX1_join_65 : decode cX1_join 65 = .ok (.iinc 5 1, 3) := by decide +kernel
theorem dX1_join_68 : decode cX1_join 68 = .ok (.goto (-32), 3) := by decide +kernel
theorem dX1_join_71 : decode cX1_join 71 = .ok (.return_, 1) := by decide +kernel
theorem dX1_countOnes_0 : decode cX1_countOnes 0 = .ok (.iconst 0, 1) := by decide +kernel
theorem dX1_countOnes_1 : decode cX1_countOnes 1 = .ok (.istore_n 2, 1) := by decide +kernel
theorem dX1_countOnes_2 : decode cX1_countOnes 2 = .ok (.iconst 0, 1) := by decide +kernel
theorem dX1_countOnes_3 : decode cX1_countOnes 3 = .ok (.istore_n 3, 1) := by decide +kernel
theorem dX1_countOnes_4 : decode cX1_countOnes 4 = .ok (.iload_n 3, 1) := by decide +kernel
theorem dX1_countOnes_5 : decode cX1_countOnes 5 = .ok (.aload_n 0, 1) := by decide +kernel
theorem dX1_countOnes_6 : decode cX1_countOnes 6 = .ok (.getfield 32, 3) := by decide +kernel
theorem dX1_countOnes_9 : decode cX1_countOnes 9 = .ok (.if_icmp .ge 27, 3) := by decide +kernel
theorem dX1_countOnes_12 : decode cX1_countOnes 12 = .ok (.aload_n 0, 1) := by decide +kernel
theorem dX1_countOnes_13 : decode cX1_countOnes 13 = .ok (.getfield 9, 3) := by decide +kernel
theorem dX1_countOnes_16 : decode cX1_countOnes 16 = .ok (.iload_n 3, 1) := by decide +kernel
theorem dX1_countOnes_17 : decode cX1_countOnes 17 = .ok (.iaload, 1) := by decide +kernel
theorem dX1_countOnes_18 : decode cX1_countOnes 18 = .ok (.aload_n 0, 1) := by decide +kernel
theorem dX1_countOnes_19 : decode cX1_countOnes 19 = .ok (.getfield 9, 3) := by decide +kernel
theorem dX1_countOnes_22 : decode cX1_countOnes 22 = .ok (.iload_n 1, 1) := by decide +kernel
theorem dX1_countOnes_23 : decode cX1_countOnes 23 = .ok (.iaload, 1) := by decide +kernel
theorem dX1_countOnes_24 : decode cX1_countOnes 24 = .ok (.if_icmp .ne 6, 3) := by decide +kernel
theorem dX1_countOnes_27 : decode cX1_countOnes 27 = .ok (.iinc 2 1, 3) := by decide +kernel
theorem dX1_countOnes_30 : decode cX1_countOnes 30 = .ok (.iinc 3 1, 3) := by decide +kernel
theorem dX1_countOnes_33 : decode cX1_countOnes 33 = .ok (.goto (-29), 3) := by decide +kernel
theorem dX1_countOnes_36 : decode cX1_countOnes 36 = .ok (.iload_n 2, 1) := by decide +kernel
theorem dX1_countOnes_37 : decode cX1_countOnes 37 = .ok (.ireturn, 1) := by decide +kernel
theorem dX1_copyFrom_0 : decode cX1_copyFrom 0 = .ok (.aload_n 0, 1) := by decide +kernel
theorem dX1_copyFrom_1 : decode cX1_copyFrom 1 = .ok (.aload_n 1, 1) := by decide +kernel
theorem dX1_copyFrom_2 : decode cX1_copyFrom 2 = .ok (.getfield 32, 3) := by decide +kernel
theorem dX1_copyFrom_5 : decode cX1_copyFrom 5 = .ok (.putfield 32, 3) := by decide +kernel
theorem dX1_copyFrom_8 : decode cX1_copyFrom 8 = .ok (.iconst 0, 1) := by decide +kernel
theorem dX1_copyFrom_9 : decode cX1_copyFrom 9 = .ok (.istore_n 2, 1) := by decide +kernel
theorem dX1_copyFrom_10 : decode cX1_copyFrom 10 = .ok (.iload_n 2, 1) := by decide +kernel
theorem dX1_copyFrom_11 : decode cX1_copyFrom 11 = .ok (.aload_n 0, 1) := by decide +kernel
theorem dX1_copyFrom_12 : decode cX1_copyFrom 12 = .ok (.getfield 32, 3) := by decide +kernel
theorem dX1_copyFrom_15 : decode cX1_copyFrom 15 = .ok (.if_icmp .ge 81, 3) := by decide +kernel
theorem dX1_copyFrom_18 : decode cX1_copyFrom 18 = .ok (.aload_n 0, 1) := by decide +kernel
theorem dX1_copyFrom_19 : decode cX1_copyFrom 19 = .ok (.getfield 9, 3) := by decide +kernel
theorem dX1_copyFrom_22 : decode cX1_copyFrom 22 = .ok (.iload_n 2, 1) := by decide +kernel
theorem dX1_copyFrom_23 : decode cX1_copyFrom 23 = .ok (.aload_n 1, 1) := by decide +kernel
theorem dX1_copyFrom_24 : decode cX1_copyFrom 24 = .ok (.getfield 9, 3) := by decide +kernel
theorem dX1_copyFrom_27 : decode cX1_copyFrom 27 = .ok (.iload_n 2, 1) := by decide +kernel
theorem dX1_copyFrom_28 : decode cX1_copyFrom 28 = .ok (.iaload, 1) := by decide +kernel
theorem dX1_copyFrom_29 : decode cX1_copyFrom 29 = .ok (.iastore, 1) := by decide +kernel
theorem dX1_copyFrom_30 : decode cX1_copyFrom 30 = .ok (.aload_n 0, 1) := by decide +kernel
theorem dX1_copyFrom_31 : decode cX1_copyFrom 31 = .ok (.getfield 15, 3) := by decide +kernel
theorem dX1_copyFrom_34 : decode cX1_copyFrom 34 = .ok (.iload_n 2, 1) := by decide +kernel
theorem dX1_copyFrom_35 : decode cX1_copyFrom 35 = .ok (.aload_n 1, 1) := by decide +kernel
theorem dX1_copyFrom_36 : decode cX1_copyFrom 36 = .ok (.getfield 15, 3) := by decide +kernel
theorem dX1_copyFrom_39 : decode cX1_copyFrom 39 = .ok (.iload_n 2, 1) := by decide +kernel
theorem dX1_copyFrom_40 : decode cX1_copyFrom 40 = .ok (.baload, 1) := by decide +kernel
theorem dX1_copyFrom_41 : decode cX1_copyFrom 41 = .ok (.bastore, 1) := by decide +kernel
theorem dX1_copyFrom_42 : decode cX1_copyFrom 42 = .ok (.aload_n 0, 1) := by decide +kernel
theorem dX1_copyFrom_43 : decode cX1_copyFrom 43 = .ok (.getfield 19, 3) := by decide +kernel
theorem dX1_copyFrom_46 : decode cX1_copyFrom 46 = .ok (.iload_n 2, 1) := by decide +kernel
theorem dX1_copyFrom_47 : decode cX1_copyFrom 47 = .ok (.aload_n 1, 1) := by decide +kernel
theorem dX1_copyFrom_48 : decode cX1_copyFrom 48 = .ok (.getfield 19, 3) := by decide +kernel
theorem dX1_copyFrom_51 : decode cX1_copyFrom 51 = .ok (.iload_n 2, 1) := by decide +kernel
theorem dX1_copyFrom_52 : decode cX1_copyFrom 52 = .ok (.laload, 1) := by decide +kernel
theorem dX1_copyFrom_53 : decode cX1_copyFrom 53 = .ok (.lastore, 1) := by decide +kernel
theorem dX1_copyFrom_54 : decode cX1_copyFrom 54 = .ok (.aload_n 0, 1) := by decide +kernel
theorem dX1_copyFrom_55 : decode cX1_copyFrom 55 = .ok (.getfield 23, 3) := by decide +kernel
theorem dX1_copyFrom_58 : decode cX1_copyFrom 58 = .ok (.iload_n 2, 1) := by decide +kernel
theorem dX1_copyFrom_59 : decode cX1_copyFrom 59 = .ok (.aload_n 1, 1) := by decide +kernel
theorem dX1_copyFrom_60 : decode cX1_copyFrom 60 = .ok (.getfield 23, 3) := by decide +kernel
theorem dX1_copyFrom_63 : decode cX1_copyFrom 63 = .ok (.iload_n 2, 1) := by decide +kernel
theorem dX1_copyFrom_64 : decode cX1_copyFrom 64 = .ok (.baload, 1) := by decide +kernel
theorem dX1_copyFrom_65 : decode cX1_copyFrom 65 = .ok (.bastore, 1) := by decide +kernel
theorem dX1_copyFrom_66 : decode cX1_copyFrom 66 = .ok (.aload_n 0, 1) := by decide +kernel
theorem dX1_copyFrom_67 : decode cX1_copyFrom 67 = .ok (.getfield 26, 3) := by decide +kernel
theorem dX1_copyFrom_70 : decode cX1_copyFrom 70 = .ok (.iload_n 2, 1) := by decide +kernel
theorem dX1_copyFrom_71 : decode cX1_copyFrom 71 = .ok (.aload_n 1, 1) := by decide +kernel
theorem dX1_copyFrom_72 : decode cX1_copyFrom 72 = .ok (.getfield 26, 3) := by decide +kernel
theorem dX1_copyFrom_75 : decode cX1_copyFrom 75 = .ok (.iload_n 2, 1) := by decide +kernel
theorem dX1_copyFrom_76 : decode cX1_copyFrom 76 = .ok (.laload, 1) := by decide +kernel
theorem dX1_copyFrom_77 : decode cX1_copyFrom 77 = .ok (.lastore, 1) := by decide +kernel
theorem dX1_copyFrom_78 : decode cX1_copyFrom 78 = .ok (.aload_n 0, 1) := by decide +kernel
theorem dX1_copyFrom_79 : decode cX1_copyFrom 79 = .ok (.getfield 29, 3) := by decide +kernel
theorem dX1_copyFrom_82 : decode cX1_copyFrom 82 = .ok (.iload_n 2, 1) := by decide +kernel
theorem dX1_copyFrom_83 : decode cX1_copyFrom 83 = .ok (.aload_n 1, 1) := by decide +kernel
theorem dX1_copyFrom_84 : decode cX1_copyFrom 84 = .ok (.getfield 29, 3) := by decide +kernel
theorem dX1_copyFrom_87 : decode cX1_copyFrom 87 = .ok (.iload_n 2, 1) := by decide +kernel
theorem dX1_copyFrom_88 : decode cX1_copyFrom 88 = .ok (.laload, 1) := by decide +kernel
theorem dX1_copyFrom_89 : decode cX1_copyFrom 89 = .ok (.lastore, 1) := by decide +kernel
theorem dX1_copyFrom_90 : decode cX1_copyFrom 90 = .ok (.iinc 2 1, 3) := by decide +kernel
theorem dX1_copyFrom_93 : decode cX1_copyFrom 93 = .ok (.goto (-83), 3) := by decide +kernel
theorem dX1_copyFrom_96 : decode cX1_copyFrom 96 = .ok (.return_, 1) := by decide +kernel
theorem dX2_init_0 : decode cX2_init 0 = .ok (.aload_n 0, 1) := by decide +kernel
theorem dX2_init_1 : decode cX2_init 1 = .ok (.invokespecial 3, 3) := by decide +kernel
theorem dX2_init_4 : decode cX2_init 4 = .ok (.aload_n 0, 1) := by decide +kernel
theorem dX2_init_5 : decode cX2_init 5 = .ok (.bipush 32, 2) := by decide +kernel
theorem dX2_init_7 : decode cX2_init 7 = .ok (.newarray .int, 2) := by decide +kernel
theorem dX2_init_9 : decode cX2_init 9 = .ok (.putfield 9, 3) := by decide +kernel
theorem dX2_init_12 : decode cX2_init 12 = .ok (.aload_n 0, 1) := by decide +kernel
theorem dX2_init_13 : decode cX2_init 13 = .ok (.bipush 32, 2) := by decide +kernel
theorem dX2_init_15 : decode cX2_init 15 = .ok (.newarray .long, 2) := by decide +kernel
theorem dX2_init_17 : decode cX2_init 17 = .ok (.putfield 15, 3) := by decide +kernel
theorem dX2_init_20 : decode cX2_init 20 = .ok (.return_, 1) := by decide +kernel
theorem dX2_append_0 : decode cX2_append 0 = .ok (.aload_n 0, 1) := by decide +kernel
theorem dX2_append_1 : decode cX2_append 1 = .ok (.getfield 19, 3) := by decide +kernel
theorem dX2_append_4 : decode cX2_append 4 = .ok (.bipush 32, 2) := by decide +kernel
theorem dX2_append_6 : decode cX2_append 6 = .ok (.if_icmp .ge 33, 3) := by decide +kernel
theorem dX2_append_9 : decode cX2_append 9 = .ok (.aload_n 0, 1) := by decide +kernel
theorem dX2_append_10 : decode cX2_append 10 = .ok (.getfield 9, 3) := by decide +kernel
theorem dX2_append_13 : decode cX2_append 13 = .ok (.aload_n 0, 1) := by decide +kernel
theorem dX2_append_14 : decode cX2_append 14 = .ok (.getfield 19, 3) := by decide +kernel
theorem dX2_append_17 : decode cX2_append 17 = .ok (.iload_n 1, 1) := by decide +kernel
theorem dX2_append_18 : decode cX2_append 18 = .ok (.iastore, 1) := by decide +kernel
theorem dX2_append_19 : decode cX2_append 19 = .ok (.aload_n 0, 1) := by decide +kernel
theorem dX2_append_20 : decode cX2_append 20 = .ok (.getfield 15, 3) := by decide +kernel
theorem dX2_append_23 : decode cX2_append 23 = .ok (.aload_n 0, 1) := by decide +kernel
theorem dX2_append_24 : decode cX2_append 24 = .ok (.getfield 19, 3) := by decide +kernel
theorem dX2_append_27 : decode cX2_append 27 = .ok (.lload_n 2, 1) := by decide +kernel
theorem dX2_append_28 : decode cX2_append 28 = .ok (.lastore, 1) := by decide +kernel
theorem dX2_append_29 : decode cX2_append 29 = .ok (.aload_n 0, 1) := by decide +kernel
theorem dX2_append_30 : decode cX2_append 30 = .ok (.dup, 1) := by decide +kernel
theorem dX2_append_31 : decode cX2_append 31 = .ok (.getfield 19, 3) := by decide +kernel
theorem dX2_append_34 : decode cX2_append 34 = .ok (.iconst 1, 1) := by decide +kernel
theorem dX2_append_35 : decode cX2_append 35 = .ok (.iadd, 1) := by decide +kernel
theorem dX2_append_36 : decode cX2_append 36 = .ok (.putfield 19, 3) := by decide +kernel
theorem dX2_append_39 : decode cX2_append 39 = .ok (.return_, 1) := by decide +kernel
set_option maxRecDepth 20000 in
theorem ggX2_cutAtFirstGone_X1_has : GoodIn wsX2_cutAtFirstGone wsX1_has := goodIn_r _ [7, 8, 12, 13, 14, 15, 16, 17, 18] (by decide +kernel) (by decide +kernel)
set_option maxRecDepth 20000 in
theorem gX2_cutAtFirstGone_X1_has : GoodIn wsX2_cutAtFirstGone (wsV RX2 23 RX1 yX1_has wsX1_has) := goodIn_app (goodIn_of _ (by decide +kernel)) ggX2_cutAtFirstGone_X1_has
theorem dX2_cutAtFirstGone_0 : decode cX2_cutAtFirstGone 0 = .ok (.iconst 0, 1) := by decide +kernel
theorem dX2_cutAtFirstGone_1 : decode cX2_cutAtFirstGone 1 = .ok (.istore_n 2, 1) := by decide +kernel
theorem dX2_cutAtFirstGone_2 : decode cX2_cutAtFirstGone 2 = .ok (.iload_n 2, 1) := by decide +kernel
theorem dX2_cutAtFirstGone_3 : decode cX2_cutAtFirstGone 3 = .ok (.aload_n 0, 1) := by decide +kernel
theorem dX2_cutAtFirstGone_4 : decode cX2_cutAtFirstGone 4 = .ok (.getfield 19, 3) := by decide +kernel
theorem dX2_cutAtFirstGone_7 : decode cX2_cutAtFirstGone 7 = .ok (.if_icmp .ge 30, 3) := by decide +kernel
theorem dX2_cutAtFirstGone_10 : decode cX2_cutAtFirstGone 10 = .ok (.aload_n 1, 1) := by decide +kernel
theorem dX2_cutAtFirstGone_11 : decode cX2_cutAtFirstGone 11 = .ok (.aload_n 0, 1) := by decide +kernel
theorem dX2_cutAtFirstGone_12 : decode cX2_cutAtFirstGone 12 = .ok (.getfield 9, 3) := by decide +kernel
theorem dX2_cutAtFirstGone_15 : decode cX2_cutAtFirstGone 15 = .ok (.iload_n 2, 1) := by decide +kernel
theorem dX2_cutAtFirstGone_16 : decode cX2_cutAtFirstGone 16 = .ok (.iaload, 1) := by decide +kernel
theorem dX2_cutAtFirstGone_17 : decode cX2_cutAtFirstGone 17 = .ok (.invokevirtual 23, 3) := by decide +kernel
theorem dX2_cutAtFirstGone_20 : decode cX2_cutAtFirstGone 20 = .ok (.ifCond .ne 11, 3) := by decide +kernel
theorem dX2_cutAtFirstGone_23 : decode cX2_cutAtFirstGone 23 = .ok (.aload_n 0, 1) := by decide +kernel
theorem dX2_cutAtFirstGone_24 : decode cX2_cutAtFirstGone 24 = .ok (.iload_n 2, 1) := by decide +kernel
theorem dX2_cutAtFirstGone_25 : decode cX2_cutAtFirstGone 25 = .ok (.putfield 19, 3) := by decide +kernel
theorem dX2_cutAtFirstGone_28 : decode cX2_cutAtFirstGone 28 = .ok (.goto 9, 3) := by decide +kernel
theorem dX2_cutAtFirstGone_31 : decode cX2_cutAtFirstGone 31 = .ok (.iinc 2 1, 3) := by decide +kernel
theorem dX2_cutAtFirstGone_34 : decode cX2_cutAtFirstGone 34 = .ok (.goto (-32), 3) := by decide +kernel
theorem dX2_cutAtFirstGone_37 : decode cX2_cutAtFirstGone 37 = .ok (.return_, 1) := by decide +kernel
theorem dX3_init_0 : decode cX3_init 0 = .ok (.aload_n 0, 1) := by decide +kernel
theorem dX3_init_1 : decode cX3_init 1 = .ok (.invokespecial 3, 3) := by decide +kernel
theorem dX3_init_4 : decode cX3_init 4 = .ok (.aload_n 0, 1) := by decide +kernel
theorem dX3_init_5 : decode cX3_init 5 = .ok (.bipush 32, 2) := by decide +kernel
theorem dX3_init_7 : decode cX3_init 7 = .ok (.newarray .int, 2) := by decide +kernel
theorem dX3_init_9 : decode cX3_init 9 = .ok (.putfield 9, 3) := by decide +kernel
theorem dX3_init_12 : decode cX3_init 12 = .ok (.aload_n 0, 1) := by decide +kernel
theorem dX3_init_13 : decode cX3_init 13 = .ok (.sipush 1600, 3) := by decide +kernel
theorem dX3_init_16 : decode cX3_init 16 = .ok (.newarray .long, 2) := by decide +kernel
theorem dX3_init_18 : decode cX3_init 18 = .ok (.putfield 15, 3) := by decide +kernel
theorem dX3_init_21 : decode cX3_init 21 = .ok (.aload_n 0, 1) := by decide +kernel
theorem dX3_init_22 : decode cX3_init 22 = .ok (.bipush 60, 2) := by decide +kernel
theorem dX3_init_24 : decode cX3_init 24 = .ok (.newarray .int, 2) := by decide +kernel
theorem dX3_init_26 : decode cX3_init 26 = .ok (.putfield 19, 3) := by decide +kernel
theorem dX3_init_29 : decode cX3_init 29 = .ok (.return_, 1) := by decide +kernel
theorem dX3_endWays_0 : decode cX3_endWays 0 = .ok (.aload_n 0, 1) := by decide +kernel
theorem dX3_endWays_1 : decode cX3_endWays 1 = .ok (.iconst 0, 1) := by decide +kernel
theorem dX3_endWays_2 : decode cX3_endWays 2 = .ok (.putfield 22, 3) := by decide +kernel
theorem dX3_endWays_5 : decode cX3_endWays 5 = .ok (.aload_n 0, 1) := by decide +kernel
theorem dX3_endWays_6 : decode cX3_endWays 6 = .ok (.iconst 0, 1) := by decide +kernel
theorem dX3_endWays_7 : decode cX3_endWays 7 = .ok (.putfield 26, 3) := by decide +kernel
theorem dX3_endWays_10 : decode cX3_endWays 10 = .ok (.return_, 1) := by decide +kernel
theorem dX3_hasWay_0 : decode cX3_hasWay 0 = .ok (.iload_n 1, 1) := by decide +kernel
theorem dX3_hasWay_1 : decode cX3_hasWay 1 = .ok (.ifCond .lt 15, 3) := by decide +kernel
theorem dX3_hasWay_4 : decode cX3_hasWay 4 = .ok (.iload_n 1, 1) := by decide +kernel
theorem dX3_hasWay_5 : decode cX3_hasWay 5 = .ok (.aload_n 0, 1) := by decide +kernel
theorem dX3_hasWay_6 : decode cX3_hasWay 6 = .ok (.getfield 26, 3) := by decide +kernel
theorem dX3_hasWay_9 : decode cX3_hasWay 9 = .ok (.if_icmp .ge 7, 3) := by decide +kernel
theorem dX3_hasWay_12 : decode cX3_hasWay 12 = .ok (.iconst 1, 1) := by decide +kernel
theorem dX3_hasWay_13 : decode cX3_hasWay 13 = .ok (.goto 4, 3) := by decide +kernel
theorem dX3_hasWay_16 : decode cX3_hasWay 16 = .ok (.iconst 0, 1) := by decide +kernel
theorem dX3_hasWay_17 : decode cX3_hasWay 17 = .ok (.ireturn, 1) := by decide +kernel
theorem dX3_numberIn_0 : decode cX3_numberIn 0 = .ok (.aload_n 0, 1) := by decide +kernel
theorem dX3_numberIn_1 : decode cX3_numberIn 1 = .ok (.getfield 15, 3) := by decide +kernel
theorem dX3_numberIn_4 : decode cX3_numberIn 4 = .ok (.iload_n 1, 1) := by decide +kernel
theorem dX3_numberIn_5 : decode cX3_numberIn 5 = .ok (.bipush 8, 2) := by decide +kernel
theorem dX3_numberIn_7 : decode cX3_numberIn 7 = .ok (.imul, 1) := by decide +kernel
theorem dX3_numberIn_8 : decode cX3_numberIn 8 = .ok (.iload_n 2, 1) := by decide +kernel
theorem dX3_numberIn_9 : decode cX3_numberIn 9 = .ok (.iadd, 1) := by decide +kernel
theorem dX3_numberIn_10 : decode cX3_numberIn 10 = .ok (.laload, 1) := by decide +kernel
theorem dX3_numberIn_11 : decode cX3_numberIn 11 = .ok (.lreturn, 1) := by decide +kernel
theorem dX3_levelOf_0 : decode cX3_levelOf 0 = .ok (.iconst 0, 1) := by decide +kernel
theorem dX3_levelOf_1 : decode cX3_levelOf 1 = .ok (.istore_n 2, 1) := by decide +kernel
theorem dX3_levelOf_2 : decode cX3_levelOf 2 = .ok (.iload_n 2, 1) := by decide +kernel
theorem dX3_levelOf_3 : decode cX3_levelOf 3 = .ok (.aload_n 0, 1) := by decide +kernel
theorem dX3_levelOf_4 : decode cX3_levelOf 4 = .ok (.getfield 22, 3) := by decide +kernel
theorem dX3_levelOf_7 : decode cX3_levelOf 7 = .ok (.if_icmp .ge 21, 3) := by decide +kernel
theorem dX3_levelOf_10 : decode cX3_levelOf 10 = .ok (.aload_n 0, 1) := by decide +kernel
theorem dX3_levelOf_11 : decode cX3_levelOf 11 = .ok (.getfield 9, 3) := by decide +kernel
theorem dX3_levelOf_14 : decode cX3_levelOf 14 = .ok (.iload_n 2, 1) := by decide +kernel
theorem dX3_levelOf_15 : decode cX3_levelOf 15 = .ok (.iaload, 1) := by decide +kernel
theorem dX3_levelOf_16 : decode cX3_levelOf 16 = .ok (.iload_n 1, 1) := by decide +kernel
theorem dX3_levelOf_17 : decode cX3_levelOf 17 = .ok (.if_icmp .ne 5, 3) := by decide +kernel
theorem dX3_levelOf_20 : decode cX3_levelOf 20 = .ok (.iload_n 2, 1) := by decide +kernel
theorem dX3_levelOf_21 : decode cX3_levelOf 21 = .ok (.ireturn, 1) := by decide +kernel
theorem dX3_levelOf_22 : decode cX3_levelOf 22 = .ok (.iinc 2 1, 3) := by decide +kernel
theorem dX3_levelOf_25 : decode cX3_levelOf 25 = .ok (.goto (-23), 3) := by decide +kernel
theorem dX3_levelOf_28 : decode cX3_levelOf 28 = .ok (.iconst (-1), 1) := by decide +kernel
theorem dX3_levelOf_29 : decode cX3_levelOf 29 = .ok (.ireturn, 1) := by decide +kernel
set_option maxRecDepth 20000 in
theorem ggX3_isFreeName_X3_levelOf : GoodIn wsX3_isFreeName wsX3_levelOf := goodIn_r _ [5, 6, 7, 8, 9, 10, 11, 12, 13] (by decide +kernel) (by decide +kernel)
set_option maxRecDepth 20000 in
theorem gX3_isFreeName_X3_levelOf : GoodIn wsX3_isFreeName (wsV RX3 29 RX3 yX3_levelOf wsX3_levelOf) := goodIn_app (goodIn_of _ (by decide +kernel)) ggX3_isFreeName_X3_levelOf
theorem dX3_isFreeName_0 : decode cX3_isFreeName 0 = .ok (.aload_n 0, 1) := by decide +kernel
theorem dX3_isFreeName_1 : decode cX3_isFreeName 1 = .ok (.iload_n 1, 1) := by decide +kernel
theorem dX3_isFreeName_2 : decode cX3_isFreeName 2 = .ok (.invokevirtual 29, 3) := by decide +kernel
theorem dX3_isFreeName_5 : decode cX3_isFreeName 5 = .ok (.iconst (-1), 1) := by decide +kernel
theorem dX3_isFreeName_6 : decode cX3_isFreeName 6 = .ok (.if_icmp .eq 7, 3) := by decide +kernel
theorem dX3_isFreeName_9 : decode cX3_isFreeName 9 = .ok (.iconst 1, 1) := by decide +kernel
theorem dX3_isFreeName_10 : decode cX3_isFreeName 10 = .ok (.goto 4, 3) := by decide +kernel
theorem dX3_isFreeName_13 : decode cX3_isFreeName 13 = .ok (.iconst 0, 1) := by decide +kernel
theorem dX3_isFreeName_14 : decode cX3_isFreeName 14 = .ok (.ireturn, 1) := by decide +kernel
set_option maxRecDepth 20000 in
theorem ggX3_run_X3_endWays : GoodIn wsX3_run wsX3_endWays := goodIn_r _ [7, 8, 2, 137, 138, 139, 140, 141, 142] (by decide +kernel) (by decide +kernel)
set_option maxRecDepth 20000 in
theorem gX3_run_X3_endWays : GoodIn wsX3_run (wsV RX3 33 RX3 yX3_endWays wsX3_endWays) := goodIn_app (goodIn_of _ (by decide +kernel)) ggX3_run_X3_endWays
set_option maxRecDepth 20000 in
theorem ggX3_run_X3_gatherFree : GoodIn wsX3_run wsX3_gatherFree := goodIn_r _ [12, 13, 14, 8, 15, 16, 17, 18, 19, 20, 21, 22, 23, 24, 25, 26, 27, 28, 6, 29, 30, 31, 32, 33, 143, 144, 145, 137, 138, 139, 140, 141, 142, 146, 147, 148, 149, 150, 151, 152] (by decide +kernel) (by decide +kernel)
set_option maxRecDepth 20000 in
theorem gX3_run_X3_gatherFree : GoodIn wsX3_run (wsV RX3 39 RX3 yX3_gatherFree wsX3_gatherFree) := goodIn_app (goodIn_of _ (by decide +kernel)) ggX3_run_X3_gatherFree
set_option maxRecDepth 20000 in
theorem ggX3_run_X3_reasonNotToStart : GoodIn wsX3_run wsX3_reasonNotToStart := goodIn_r _ [37, 8, 14, 38, 39, 40, 18, 41, 42, 20, 137, 138, 139, 140, 141, 142, 146, 147, 148, 149, 150, 151, 152] (by decide +kernel) (by decide +kernel)
set_option maxRecDepth 20000 in
theorem gX3_run_X3_reasonNotToStart : GoodIn wsX3_run (wsV RX3 43 RX3 yX3_reasonNotToStart wsX3_reasonNotToStart) := goodIn_app (goodIn_of _ (by decide +kernel)) ggX3_run_X3_reasonNotToStart
set_option maxRecDepth 20000 in
theorem ggX3_run_X3_planLooks : GoodIn wsX3_run wsX3_planLooks := goodIn_r _ [46, 47, 48, 49, 50, 51, 52, 53, 54, 55, 56, 57, 58, 59, 60, 61, 62, 63, 64, 65, 66, 67, 68, 69, 70, 71, 72, 73, 74, 75, 76, 77, 78, 79, 80, 81, 82, 22, 23, 18, 24, 25, 20, 83, 16, 17, 19, 84, 31, 32, 6, 33, 8, 14, 137, 138, 139, 140, 141, 142, 153, 154, 155, 156, 157, 158, 159, 146, 147, 148, 149, 150, 151, 152] (by decide +kernel) (by decide +kernel)
set_option maxRecDepth 20000 in
theorem gX3_run_X3_planLooks : GoodIn wsX3_run (wsV RX3 47 RX3 yX3_planLooks wsX3_planLooks) := goodIn_app (goodIn_of _ (by decide +kernel)) ggX3_run_X3_planLooks
set_option maxRecDepth 20000 in
theorem ggX3_run_X3_tryLevel : GoodIn wsX3_run wsX3_tryLevel := goodIn_r _ [88, 8, 14, 1, 89, 90, 91, 6, 92, 2, 93, 94, 95, 96, 18, 97, 98, 20, 99, 100, 101, 102, 103, 104, 105, 106, 107, 108, 109, 110, 111, 112, 25, 113, 114, 115, 116, 47, 48, 49, 50, 51, 52, 53, 54, 55, 56, 57, 58, 59, 60, 61, 62, 63, 64, 65, 66, 67, 68, 69, 70, 71, 117, 118, 119, 75, 120, 121, 122, 123, 124, 125, 126, 77, 127, 128, 129, 130, 131, 132, 85, 86, 87, 133, 134, 135, 136, 137, 138, 139, 140, 141, 142, 146, 147, 148, 149, 150, 151, 152, 153, 154, 155, 156, 157, 158, 159] (by decide +kernel) (by decide +kernel)
set_option maxRecDepth 20000 in
theorem gX3_run_X3_tryLevel : GoodIn wsX3_run (wsV RX3 51 RX3 yX3_tryLevel wsX3_tryLevel) := goodIn_app (goodIn_of _ (by decide +kernel)) ggX3_run_X3_tryLevel
theorem dX3_run_0 : decode cX3_run 0 = .ok (.aload_n 0, 1) := by decide +kernel
theorem dX3_run_1 : decode cX3_run 1 = .ok (.invokevirtual 33, 3) := by decide +kernel
theorem dX3_run_4 : decode cX3_run 4 = .ok (.aload_n 0, 1) := by decide +kernel
theorem dX3_run_5 : decode cX3_run 5 = .ok (.iconst 0, 1) := by decide +kernel
theorem dX3_run_6 : decode cX3_run 6 = .ok (.putfield 36, 3) := by decide +kernel
theorem dX3_run_9 : decode cX3_run 9 = .ok (.aload_n 0, 1) := by decide +kernel
theorem dX3_run_10 : decode cX3_run 10 = .ok (.aload_n 1, 1) := by decide +kernel
theorem dX3_run_11 : decode cX3_run 11 = .ok (.aload_n 2, 1) := by decide +kernel
theorem dX3_run_12 : decode cX3_run 12 = .ok (.invokevirtual 39, 3) := by decide +kernel
theorem dX3_run_15 : decode cX3_run 15 = .ok (.aload_n 0, 1) := by decide +kernel
theorem dX3_run_16 : decode cX3_run 16 = .ok (.aload_n 2, 1) := by decide +kernel
theorem dX3_run_17 : decode cX3_run 17 = .ok (.invokevirtual 43, 3) := by decide +kernel
theorem dX3_run_20 : decode cX3_run 20 = .ok (.istore 4, 2) := by decide +kernel
theorem dX3_run_22 : decode cX3_run 22 = .ok (.iload 4, 2) := by decide +kernel
theorem dX3_run_24 : decode cX3_run 24 = .ok (.ifCond .ne 18, 3) := by decide +kernel
theorem dX3_run_27 : decode cX3_run 27 = .ok (.aload_n 0, 1) := by decide +kernel
theorem dX3_run_28 : decode cX3_run 28 = .ok (.aload_n 2, 1) := by decide +kernel
theorem dX3_run_29 : decode cX3_run 29 = .ok (.aload_n 3, 1) := by decide +kernel
theorem dX3_run_30 : decode cX3_run 30 = .ok (.invokevirtual 47, 3) := by decide +kernel
theorem dX3_run_33 : decode cX3_run 33 = .ok (.aload_n 0, 1) := by decide +kernel
theorem dX3_run_34 : decode cX3_run 34 = .ok (.iconst 0, 1) := by decide +kernel
theorem dX3_run_35 : decode cX3_run 35 = .ok (.aload_n 2, 1) := by decide +kernel
theorem dX3_run_36 : decode cX3_run 36 = .ok (.aload_n 3, 1) := by decide +kernel
theorem dX3_run_37 : decode cX3_run 37 = .ok (.invokevirtual 51, 3) := by decide +kernel
theorem dX3_run_40 : decode cX3_run 40 = .ok (.istore 4, 2) := by decide +kernel
theorem dX3_run_42 : decode cX3_run 42 = .ok (.iload 4, 2) := by decide +kernel
theorem dX3_run_44 : decode cX3_run 44 = .ok (.ifCond .eq 10, 3) := by decide +kernel
theorem dX3_run_47 : decode cX3_run 47 = .ok (.aload_n 0, 1) := by decide +kernel
theorem dX3_run_48 : decode cX3_run 48 = .ok (.invokevirtual 33, 3) := by decide +kernel
theorem dX3_run_51 : decode cX3_run 51 = .ok (.iload 4, 2) := by decide +kernel
theorem dX3_run_53 : decode cX3_run 53 = .ok (.ireturn, 1) := by decide +kernel
theorem dX3_run_54 : decode cX3_run 54 = .ok (.aload_n 0, 1) := by decide +kernel
theorem dX3_run_55 : decode cX3_run 55 = .ok (.getfield 26, 3) := by decide +kernel
theorem dX3_run_58 : decode cX3_run 58 = .ok (.ireturn, 1) := by decide +kernel
set_option maxRecDepth 20000 in
theorem ggX3_gatherFree_X1_leastOf : GoodIn wsX3_gatherFree wsX1_leastOf := goodIn_r _ [8, 9, 33, 34, 35, 36, 37, 38, 39] (by decide +kernel) (by decide +kernel)
set_option maxRecDepth 20000 in
theorem gX3_gatherFree_X1_leastOf : GoodIn wsX3_gatherFree (wsV RX3 63 RX1 yX1_leastOf wsX1_leastOf) := goodIn_app (goodIn_of _ (by decide +kernel)) ggX3_gatherFree_X1_leastOf
set_option maxRecDepth 20000 in
theorem ggX3_gatherFree_X1_isKnown : GoodIn wsX3_gatherFree wsX1_isKnown := goodIn_r _ [13, 14, 9, 33, 34, 35, 36, 37, 38, 39] (by decide +kernel) (by decide +kernel)
set_option maxRecDepth 20000 in
theorem gX3_gatherFree_X1_isKnown : GoodIn wsX3_gatherFree (wsV RX3 68 RX1 yX1_isKnown wsX1_isKnown) := goodIn_app (goodIn_of _ (by decide +kernel)) ggX3_gatherFree_X1_isKnown
set_option maxRecDepth 20000 in
theorem ggX3_gatherFree_X3_isFreeName : GoodIn wsX3_gatherFree wsX3_isFreeName := goodIn_r _ [19, 20, 21, 22, 18, 23, 3, 2, 27, 28, 29, 30, 31, 32] (by decide +kernel) (by decide +kernel)
set_option maxRecDepth 20000 in
theorem gX3_gatherFree_X3_isFreeName : GoodIn wsX3_gatherFree (wsV RX3 72 RX3 yX3_isFreeName wsX3_isFreeName) := goodIn_app (goodIn_of _ (by decide +kernel)) ggX3_gatherFree_X3_isFreeName
theorem dX3_gatherFree_0 : decode cX3_gatherFree 0 = .ok (.iconst 0, 1) := by decide +kernel
theorem dX3_gatherFree_1 : decode cX3_gatherFree 1 = .ok (.istore_n 3, 1) := by decide +kernel
theorem dX3_gatherFree_2 : decode cX3_gatherFree 2 = .ok (.iload_n 3, 1) := by decide +kernel
theorem dX3_gatherFree_3 : decode cX3_gatherFree 3 = .ok (.aload_n 1, 1) := by decide +kernel
theorem dX3_gatherFree_4 : decode cX3_gatherFree 4 = .ok (.getfield 55, 3) := by decide +kernel
theorem dX3_gatherFree_7 : decode cX3_gatherFree 7 = .ok (.if_icmp .ge 60, 3) := by decide +kernel
theorem dX3_gatherFree_10 : decode cX3_gatherFree 10 = .ok (.aload_n 2, 1) := by decide +kernel
theorem dX3_gatherFree_11 : decode cX3_gatherFree 11 = .ok (.aload_n 1, 1) := by decide +kernel
theorem dX3_gatherFree_12 : decode cX3_gatherFree 12 = .ok (.getfield 60, 3) := by decide +kernel
theorem dX3_gatherFree_15 : decode cX3_gatherFree 15 = .ok (.iload_n 3, 1) := by decide +kernel
theorem dX3_gatherFree_16 : decode cX3_gatherFree 16 = .ok (.iaload, 1) := by decide +kernel
theorem dX3_gatherFree_17 : decode cX3_gatherFree 17 = .ok (.invokevirtual 63, 3) := by decide +kernel
theorem dX3_gatherFree_20 : decode cX3_gatherFree 20 = .ok (.istore 4, 2) := by decide +kernel
theorem dX3_gatherFree_22 : decode cX3_gatherFree 22 = .ok (.aload_n 2, 1) := by decide +kernel
theorem dX3_gatherFree_23 : decode cX3_gatherFree 23 = .ok (.iload 4, 2) := by decide +kernel
theorem dX3_gatherFree_25 : decode cX3_gatherFree 25 = .ok (.invokevirtual 68, 3) := by decide +kernel
theorem dX3_gatherFree_28 : decode cX3_gatherFree 28 = .ok (.ifCond .ne 33, 3) := by decide +kernel
theorem dX3_gatherFree_31 : decode cX3_gatherFree 31 = .ok (.aload_n 0, 1) := by decide +kernel
theorem dX3_gatherFree_32 : decode cX3_gatherFree 32 = .ok (.iload 4, 2) := by decide +kernel
theorem dX3_gatherFree_34 : decode cX3_gatherFree 34 = .ok (.invokevirtual 72, 3) := by decide +kernel
theorem dX3_gatherFree_37 : decode cX3_gatherFree 37 = .ok (.ifCond .ne 24, 3) := by decide +kernel
theorem dX3_gatherFree_40 : decode cX3_gatherFree 40 = .ok (.aload_n 0, 1) := by decide +kernel
theorem dX3_gatherFree_41 : decode cX3_gatherFree 41 = .ok (.getfield 9, 3) := by decide +kernel
theorem dX3_gatherFree_44 : decode cX3_gatherFree 44 = .ok (.aload_n 0, 1) := by decide +kernel
theorem dX3_gatherFree_45 : decode cX3_gatherFree 45 = .ok (.getfield 22, 3) := by decide +kernel
theorem dX3_gatherFree_48 : decode cX3_gatherFree 48 = .ok (.iload 4, 2) := by decide +kernel
theorem dX3_gatherFree_50 : decode cX3_gatherFree 50 = .ok (.iastore, 1) := by decide +kernel
theorem dX3_gatherFree_51 : decode cX3_gatherFree 51 = .ok (.aload_n 0, 1) := by decide +kernel
theorem dX3_gatherFree_52 : decode cX3_gatherFree 52 = .ok (.dup, 1) := by decide +kernel
theorem dX3_gatherFree_53 : decode cX3_gatherFree 53 = .ok (.getfield 22, 3) := by decide +kernel
theorem dX3_gatherFree_56 : decode cX3_gatherFree 56 = .ok (.iconst 1, 1) := by decide +kernel
theorem dX3_gatherFree_57 : decode cX3_gatherFree 57 = .ok (.iadd, 1) := by decide +kernel
theorem dX3_gatherFree_58 : decode cX3_gatherFree 58 = .ok (.putfield 22, 3) := by decide +kernel
theorem dX3_gatherFree_61 : decode cX3_gatherFree 61 = .ok (.iinc 3 1, 3) := by decide +kernel
theorem dX3_gatherFree_64 : decode cX3_gatherFree 64 = .ok (.goto (-62), 3) := by decide +kernel
theorem dX3_gatherFree_67 : decode cX3_gatherFree 67 = .ok (.return_, 1) := by decide +kernel
set_option maxRecDepth 20000 in
theorem ggX3_reasonNotToStart_X1_hasSpan : GoodIn wsX3_reasonNotToStart wsX1_hasSpan := goodIn_r _ [7, 8, 9, 16, 17, 18, 19, 20, 21, 22] (by decide +kernel) (by decide +kernel)
set_option maxRecDepth 20000 in
theorem gX3_reasonNotToStart_X1_hasSpan : GoodIn wsX3_reasonNotToStart (wsV RX3 75 RX1 yX1_hasSpan wsX1_hasSpan) := goodIn_app (goodIn_of _ (by decide +kernel)) ggX3_reasonNotToStart_X1_hasSpan
theorem dX3_reasonNotToStart_0 : decode cX3_reasonNotToStart 0 = .ok (.iconst 0, 1) := by decide +kernel
theorem dX3_reasonNotToStart_1 : decode cX3_reasonNotToStart 1 = .ok (.istore_n 2, 1) := by decide +kernel
theorem dX3_reasonNotToStart_2 : decode cX3_reasonNotToStart 2 = .ok (.iload_n 2, 1) := by decide +kernel
theorem dX3_reasonNotToStart_3 : decode cX3_reasonNotToStart 3 = .ok (.aload_n 0, 1) := by decide +kernel
theorem dX3_reasonNotToStart_4 : decode cX3_reasonNotToStart 4 = .ok (.getfield 22, 3) := by decide +kernel
theorem dX3_reasonNotToStart_7 : decode cX3_reasonNotToStart 7 = .ok (.if_icmp .ge 24, 3) := by decide +kernel
theorem dX3_reasonNotToStart_10 : decode cX3_reasonNotToStart 10 = .ok (.aload_n 1, 1) := by decide +kernel
theorem dX3_reasonNotToStart_11 : decode cX3_reasonNotToStart 11 = .ok (.aload_n 0, 1) := by decide +kernel
theorem dX3_reasonNotToStart_12 : decode cX3_reasonNotToStart 12 = .ok (.getfield 9, 3) := by decide +kernel
theorem dX3_reasonNotToStart_15 : decode cX3_reasonNotToStart 15 = .ok (.iload_n 2, 1) := by decide +kernel
theorem dX3_reasonNotToStart_16 : decode cX3_reasonNotToStart 16 = .ok (.iaload, 1) := by decide +kernel
theorem dX3_reasonNotToStart_17 : decode cX3_reasonNotToStart 17 = .ok (.invokevirtual 75, 3) := by decide +kernel
theorem dX3_reasonNotToStart_20 : decode cX3_reasonNotToStart 20 = .ok (.ifCond .ne 5, 3) := by decide +kernel
theorem dX3_reasonNotToStart_23 : decode cX3_reasonNotToStart 23 = .ok (.iconst (-1), 1) := by decide +kernel
theorem dX3_reasonNotToStart_24 : decode cX3_reasonNotToStart 24 = .ok (.ireturn, 1) := by decide +kernel
theorem dX3_reasonNotToStart_25 : decode cX3_reasonNotToStart 25 = .ok (.iinc 2 1, 3) := by decide +kernel
theorem dX3_reasonNotToStart_28 : decode cX3_reasonNotToStart 28 = .ok (.goto (-26), 3) := by decide +kernel
theorem dX3_reasonNotToStart_31 : decode cX3_reasonNotToStart 31 = .ok (.aload_n 0, 1) := by decide +kernel
theorem dX3_reasonNotToStart_32 : decode cX3_reasonNotToStart 32 = .ok (.getfield 22, 3) := by decide +kernel
theorem dX3_reasonNotToStart_35 : decode cX3_reasonNotToStart 35 = .ok (.bipush 8, 2) := by decide +kernel
theorem dX3_reasonNotToStart_37 : decode cX3_reasonNotToStart 37 = .ok (.if_icmp .le 8, 3) := by decide +kernel
theorem dX3_reasonNotToStart_40 : decode cX3_reasonNotToStart 40 = .ok (.bipush (-2), 2) := by decide +kernel
theorem dX3_reasonNotToStart_42 : decode cX3_reasonNotToStart 42 = .ok (.goto 4, 3) := by decide +kernel
theorem dX3_reasonNotToStart_45 : decode cX3_reasonNotToStart 45 = .ok (.iconst 0, 1) := by decide +kernel
theorem dX3_reasonNotToStart_46 : decode cX3_reasonNotToStart 46 = .ok (.ireturn, 1) := by decide +kernel
set_option maxRecDepth 20000 in
theorem ggX3_planLooks_Jx4a65c_size_8abf5 : GoodIn wsX3_planLooks wsJx4a65c_size_8abf5 := goodIn_r _ [7, 8, 60, 61, 62] (by decide +kernel) (by decide +kernel)
set_option maxRecDepth 20000 in
theorem gX3_planLooks_Jx4a65c_size_8abf5 : GoodIn wsX3_planLooks (wsV RX3 78 RJx4a65c yJx4a65c_size_8abf5 wsJx4a65c_size_8abf5) := goodIn_app (goodIn_of _ (by decide +kernel)) ggX3_planLooks_Jx4a65c_size_8abf5
set_option maxRecDepth 20000 in
theorem ggX3_planLooks_Jx4a65c_get_915e3 : GoodIn wsX3_planLooks wsJx4a65c_get_915e3 := goodIn_r _ [12, 8, 13, 14, 15, 16, 17, 18, 19, 20, 21, 22, 23, 6, 24, 25, 60, 61, 62] (by decide +kernel) (by decide +kernel)
set_option maxRecDepth 20000 in
theorem gX3_planLooks_Jx4a65c_get_915e3 : GoodIn wsX3_planLooks (wsV RX3 84 RJx4a65c yJx4a65c_get_915e3 wsJx4a65c_get_915e3) := goodIn_app (goodIn_of _ (by decide +kernel)) ggX3_planLooks_Jx4a65c_get_915e3
set_option maxRecDepth 20000 in
theorem ggX3_planLooks_X0_levelOfLast : GoodIn wsX3_planLooks wsX0_levelOfLast := goodIn_r _ [30, 31, 32, 33, 34, 35, 36, 37, 38, 39, 40, 41, 42, 43, 44, 45, 46, 47, 48, 49, 50, 51, 52, 53, 63, 64, 65, 66, 67, 68, 69, 70, 71, 72, 73, 54, 55, 56, 57, 58, 59] (by decide +kernel) (by decide +kernel)
set_option maxRecDepth 20000 in
theorem gX3_planLooks_X0_levelOfLast : GoodIn wsX3_planLooks (wsV RX3 90 RX0 yX0_levelOfLast wsX0_levelOfLast) := goodIn_app (goodIn_of _ (by decide +kernel)) ggX3_planLooks_X0_levelOfLast
theorem dX3_planLooks_0 : decode cX3_planLooks 0 = .ok (.iconst 0, 1) := by decide +kernel
theorem dX3_planLooks_1 : decode cX3_planLooks 1 = .ok (.istore_n 3, 1) := by decide +kernel
theorem dX3_planLooks_2 : decode cX3_planLooks 2 = .ok (.iload_n 3, 1) := by decide +kernel
theorem dX3_planLooks_3 : decode cX3_planLooks 3 = .ok (.aload_n 2, 1) := by decide +kernel
theorem dX3_planLooks_4 : decode cX3_planLooks 4 = .ok (.invokevirtual 78, 3) := by decide +kernel
theorem dX3_planLooks_7 : decode cX3_planLooks 7 = .ok (.if_icmp .ge 34, 3) := by decide +kernel
theorem dX3_planLooks_10 : decode cX3_planLooks 10 = .ok (.iload_n 3, 1) := by decide +kernel
theorem dX3_planLooks_11 : decode cX3_planLooks 11 = .ok (.bipush 60, 2) := by decide +kernel
theorem dX3_planLooks_13 : decode cX3_planLooks 13 = .ok (.if_icmp .ge 28, 3) := by decide +kernel
theorem dX3_planLooks_16 : decode cX3_planLooks 16 = .ok (.aload_n 0, 1) := by decide +kernel
theorem dX3_planLooks_17 : decode cX3_planLooks 17 = .ok (.getfield 19, 3) := by decide +kernel
theorem dX3_planLooks_20 : decode cX3_planLooks 20 = .ok (.iload_n 3, 1) := by decide +kernel
theorem dX3_planLooks_21 : decode cX3_planLooks 21 = .ok (.aload_n 2, 1) := by decide +kernel
theorem dX3_planLooks_22 : decode cX3_planLooks 22 = .ok (.iload_n 3, 1) := by decide +kernel
theorem dX3_planLooks_23 : decode cX3_planLooks 23 = .ok (.invokevirtual 84, 3) := by decide +kernel
theorem dX3_planLooks_26 : decode cX3_planLooks 26 = .ok (.checkcast 88, 3) := by decide +kernel
theorem dX3_planLooks_29 : decode cX3_planLooks 29 = .ok (.aload_n 1, 1) := by decide +kernel
theorem dX3_planLooks_30 : decode cX3_planLooks 30 = .ok (.aload_n 0, 1) := by decide +kernel
theorem dX3_planLooks_31 : decode cX3_planLooks 31 = .ok (.invokevirtual 90, 3) := by decide +kernel
theorem dX3_planLooks_34 : decode cX3_planLooks 34 = .ok (.iastore, 1) := by decide +kernel
theorem dX3_planLooks_35 : decode cX3_planLooks 35 = .ok (.iinc 3 1, 3) := by decide +kernel
theorem dX3_planLooks_38 : decode cX3_planLooks 38 = .ok (.goto (-36), 3) := by decide +kernel
theorem dX3_planLooks_41 : decode cX3_planLooks 41 = .ok (.return_, 1) := by decide +kernel
set_option maxRecDepth 20000 in
theorem ggX3_tryLevel_X3_addWay : GoodIn wsX3_tryLevel wsX3_addWay := goodIn_r _ [8, 9, 1, 10, 2, 11, 12, 13, 14, 15, 16, 17, 87, 88, 89, 90, 91, 92, 93, 94, 95, 96, 97, 98, 99] (by decide +kernel) (by decide +kernel)
set_option maxRecDepth 20000 in
theorem gX3_tryLevel_X3_addWay : GoodIn wsX3_tryLevel (wsV RX3 94 RX3 yX3_addWay wsX3_addWay) := goodIn_app (goodIn_of _ (by decide +kernel)) ggX3_tryLevel_X3_addWay
set_option maxRecDepth 20000 in
theorem ggX3_tryLevel_X1_lowOf : GoodIn wsX3_tryLevel wsX1_lowOf := goodIn_r _ [21, 22, 17, 93, 94, 95, 96, 97, 98, 99] (by decide +kernel) (by decide +kernel)
set_option maxRecDepth 20000 in
theorem gX3_tryLevel_X1_lowOf : GoodIn wsX3_tryLevel (wsV RX3 97 RX1 yX1_lowOf wsX1_lowOf) := goodIn_app (goodIn_of _ (by decide +kernel)) ggX3_tryLevel_X1_lowOf
set_option maxRecDepth 20000 in
theorem ggX3_tryLevel_X1_highOf : GoodIn wsX3_tryLevel wsX1_highOf := goodIn_r _ [26, 27, 17, 93, 94, 95, 96, 97, 98, 99] (by decide +kernel) (by decide +kernel)
set_option maxRecDepth 20000 in
theorem gX3_tryLevel_X1_highOf : GoodIn wsX3_tryLevel (wsV RX3 101 RX1 yX1_highOf wsX1_highOf) := goodIn_app (goodIn_of _ (by decide +kernel)) ggX3_tryLevel_X1_highOf
set_option maxRecDepth 20000 in
theorem ggX3_tryLevel_X1_setNumber : GoodIn wsX3_tryLevel wsX1_setNumber := goodIn_r _ [31, 32, 17, 16, 93, 94, 95, 96, 97, 98, 99] (by decide +kernel) (by decide +kernel)
set_option maxRecDepth 20000 in
theorem gX3_tryLevel_X1_setNumber : GoodIn wsX3_tryLevel (wsV RX3 104 RX1 yX1_setNumber wsX1_setNumber) := goodIn_app (goodIn_of _ (by decide +kernel)) ggX3_tryLevel_X1_setNumber
set_option maxRecDepth 20000 in
theorem ggX3_tryLevel_X3_isGood : GoodIn wsX3_tryLevel wsX3_isGood := goodIn_r _ [36, 37, 38, 39, 40, 41, 42, 43, 44, 45, 46, 47, 48, 49, 50, 51, 52, 53, 54, 55, 56, 57, 58, 59, 60, 61, 62, 63, 64, 65, 66, 67, 68, 69, 70, 71, 72, 73, 74, 75, 12, 13, 14, 15, 16, 17, 76, 77, 78, 79, 87, 88, 89, 90, 91, 92, 100, 101, 102, 103, 104, 105, 106, 93, 94, 95, 96, 97, 98, 99] (by decide +kernel) (by decide +kernel)
set_option maxRecDepth 20000 in
theorem gX3_tryLevel_X3_isGood : GoodIn wsX3_tryLevel (wsV RX3 108 RX3 yX3_isGood wsX3_isGood) := goodIn_app (goodIn_of _ (by decide +kernel)) ggX3_tryLevel_X3_isGood
set_option maxRecDepth 20000 in
theorem ggX3_tryLevel_X3_tryLevel : GoodIn wsX3_tryLevel wsX3_tryLevel := goodIn_r _ [0, 1, 2, 3, 4, 5, 6, 7, 8, 9, 10, 11, 12, 13, 14, 15, 16, 17, 18, 19, 20, 21, 22, 23, 24, 25, 26, 27, 28, 29, 30, 31, 32, 33, 34, 35, 36, 37, 38, 39, 40, 41, 42, 43, 44, 45, 46, 47, 48, 49, 50, 51, 52, 53, 54, 55, 56, 57, 58, 59, 60, 61, 62, 63, 64, 65, 66, 67, 68, 69, 70, 71, 72, 73, 74, 75, 76, 77, 78, 79, 80, 81, 82, 83, 84, 85, 86, 87, 88, 89, 90, 91, 92, 93, 94, 95, 96, 97, 98, 99, 100, 101, 102, 103, 104, 105, 106] (by decide +kernel) (by decide +kernel)
set_option maxRecDepth 20000 in
theorem gX3_tryLevel_X3_tryLevel : GoodIn wsX3_tryLevel (wsV RX3 51 RX3 yX3_tryLevel wsX3_tryLevel) := goodIn_app (goodIn_of _ (by decide +kernel)) ggX3_tryLevel_X3_tryLevel
set_option maxRecDepth 20000 in
theorem ggX3_tryLevel_X1_unsetNumber : GoodIn wsX3_tryLevel wsX1_unsetNumber := goodIn_r _ [86, 32, 17, 93, 94, 95, 96, 97, 98, 99] (by decide +kernel) (by decide +kernel)
set_option maxRecDepth 20000 in
theorem gX3_tryLevel_X1_unsetNumber : GoodIn wsX3_tryLevel (wsV RX3 112 RX1 yX1_unsetNumber wsX1_unsetNumber) := goodIn_app (goodIn_of _ (by decide +kernel)) ggX3_tryLevel_X1_unsetNumber
theorem dX3_tryLevel_0 : decode cX3_tryLevel 0 = .ok (.iload_n 1, 1) := by decide +kernel
theorem dX3_tryLevel_1 : decode cX3_tryLevel 1 = .ok (.aload_n 0, 1) := by decide +kernel
theorem dX3_tryLevel_2 : decode cX3_tryLevel 2 = .ok (.getfield 22, 3) := by decide +kernel
theorem dX3_tryLevel_5 : decode cX3_tryLevel 5 = .ok (.if_icmp .ge 9, 3) := by decide +kernel
theorem dX3_tryLevel_8 : decode cX3_tryLevel 8 = .ok (.iload_n 1, 1) := by decide +kernel
theorem dX3_tryLevel_9 : decode cX3_tryLevel 9 = .ok (.bipush 8, 2) := by decide +kernel
theorem dX3_tryLevel_11 : decode cX3_tryLevel 11 = .ok (.if_icmp .lt 9, 3) := by decide +kernel
theorem dX3_tryLevel_14 : decode cX3_tryLevel 14 = .ok (.aload_n 0, 1) := by decide +kernel
theorem dX3_tryLevel_15 : decode cX3_tryLevel 15 = .ok (.aload_n 2, 1) := by decide +kernel
theorem dX3_tryLevel_16 : decode cX3_tryLevel 16 = .ok (.invokevirtual 94, 3) := by decide +kernel
theorem dX3_tryLevel_19 : decode cX3_tryLevel 19 = .ok (.ireturn, 1) := by decide +kernel
theorem dX3_tryLevel_20 : decode cX3_tryLevel 20 = .ok (.aload_n 0, 1) := by decide +kernel
theorem dX3_tryLevel_21 : decode cX3_tryLevel 21 = .ok (.getfield 9, 3) := by decide +kernel
theorem dX3_tryLevel_24 : decode cX3_tryLevel 24 = .ok (.iload_n 1, 1) := by decide +kernel
theorem dX3_tryLevel_25 : decode cX3_tryLevel 25 = .ok (.iaload, 1) := by decide +kernel
theorem dX3_tryLevel_26 : decode cX3_tryLevel 26 = .ok (.istore 4, 2) := by decide +kernel
theorem dX3_tryLevel_28 : decode cX3_tryLevel 28 = .ok (.aload_n 2, 1) := by decide +kernel
theorem dX3_tryLevel_29 : decode cX3_tryLevel 29 = .ok (.iload 4, 2) := by decide +kernel
theorem dX3_tryLevel_31 : decode cX3_tryLevel 31 = .ok (.invokevirtual 97, 3) := by decide +kernel
theorem dX3_tryLevel_34 : decode cX3_tryLevel 34 = .ok (.lstore 5, 2) := by decide +kernel
theorem dX3_tryLevel_36 : decode cX3_tryLevel 36 = .ok (.aload_n 2, 1) := by decide +kernel
theorem dX3_tryLevel_37 : decode cX3_tryLevel 37 = .ok (.iload 4, 2) := by decide +kernel
theorem dX3_tryLevel_39 : decode cX3_tryLevel 39 = .ok (.invokevirtual 101, 3) := by decide +kernel
theorem dX3_tryLevel_42 : decode cX3_tryLevel 42 = .ok (.lstore 7, 2) := by decide +kernel
theorem dX3_tryLevel_44 : decode cX3_tryLevel 44 = .ok (.iconst 0, 1) := by decide +kernel
theorem dX3_tryLevel_45 : decode cX3_tryLevel 45 = .ok (.istore 9, 2) := by decide +kernel
theorem dX3_tryLevel_47 : decode cX3_tryLevel 47 = .ok (.iconst 0, 1) := by decide +kernel
theorem dX3_tryLevel_48 : decode cX3_tryLevel 48 = .ok (.istore 10, 2) := by decide +kernel
theorem dX3_tryLevel_50 : decode cX3_tryLevel 50 = .ok (.iload 10, 2) := by decide +kernel
theorem dX3_tryLevel_52 : decode cX3_tryLevel 52 = .ok (.sipush 5000, 3) := by decide +kernel
theorem dX3_tryLevel_55 : decode cX3_tryLevel 55 = .ok (.if_icmp .gt 87, 3) := by decide +kernel
theorem dX3_tryLevel_58 : decode cX3_tryLevel 58 = .ok (.iload 9, 2) := by decide +kernel
theorem dX3_tryLevel_60 : decode cX3_tryLevel 60 = .ok (.ifCond .ne 82, 3) := by decide +kernel
theorem dX3_tryLevel_63 : decode cX3_tryLevel 63 = .ok (.aload_n 0, 1) := by decide +kernel
theorem dX3_tryLevel_64 : decode cX3_tryLevel 64 = .ok (.getfield 36, 3) := by decide +kernel
theorem dX3_tryLevel_67 : decode cX3_tryLevel 67 = .ok (.sipush 5000, 3) := by decide +kernel
theorem dX3_tryLevel_70 : decode cX3_tryLevel 70 = .ok (.if_icmp .lt 10, 3) := by decide +kernel
theorem dX3_tryLevel_73 : decode cX3_tryLevel 73 = .ok (.bipush (-3), 2) := by decide +kernel
theorem dX3_tryLevel_75 : decode cX3_tryLevel 75 = .ok (.istore 9, 2) := by decide +kernel
theorem dX3_tryLevel_77 : decode cX3_tryLevel 77 = .ok (.goto 65, 3) := by decide +kernel
theorem dX3_tryLevel_80 : decode cX3_tryLevel 80 = .ok (.aload_n 0, 1) := by decide +kernel
theorem dX3_tryLevel_81 : decode cX3_tryLevel 81 = .ok (.dup, 1) := by decide +kernel
theorem dX3_tryLevel_82 : decode cX3_tryLevel 82 = .ok (.getfield 36, 3) := by decide +kernel
theorem dX3_tryLevel_85 : decode cX3_tryLevel 85 = .ok (.iconst 1, 1) := by decide +kernel
theorem dX3_tryLevel_86 : decode cX3_tryLevel 86 = .ok (.iadd, 1) := by decide +kernel
theorem dX3_tryLevel_87 : decode cX3_tryLevel 87 = .ok (.putfield 36, 3) := by decide +kernel
theorem dX3_tryLevel_90 : decode cX3_tryLevel 90 = .ok (.aload_n 2, 1) := by decide +kernel
theorem dX3_tryLevel_91 : decode cX3_tryLevel 91 = .ok (.iload 4, 2) := by decide +kernel
theorem dX3_tryLevel_93 : decode cX3_tryLevel 93 = .ok (.lload 5, 2) := by decide +kernel
theorem dX3_tryLevel_95 : decode cX3_tryLevel 95 = .ok (.invokevirtual 104, 3) := by decide +kernel
theorem dX3_tryLevel_98 : decode cX3_tryLevel 98 = .ok (.aload_n 0, 1) := by decide +kernel
theorem dX3_tryLevel_99 : decode cX3_tryLevel 99 = .ok (.iload_n 1, 1) := by decide +kernel
theorem dX3_tryLevel_100 : decode cX3_tryLevel 100 = .ok (.aload_n 2, 1) := by decide +kernel
theorem dX3_tryLevel_101 : decode cX3_tryLevel 101 = .ok (.aload_n 3, 1) := by decide +kernel
theorem dX3_tryLevel_102 : decode cX3_tryLevel 102 = .ok (.invokevirtual 108, 3) := by decide +kernel
theorem dX3_tryLevel_105 : decode cX3_tryLevel 105 = .ok (.ifCond .eq 14, 3) := by decide +kernel
theorem dX3_tryLevel_108 : decode cX3_tryLevel 108 = .ok (.aload_n 0, 1) := by decide +kernel
theorem dX3_tryLevel_109 : decode cX3_tryLevel 109 = .ok (.iload_n 1, 1) := by decide +kernel
theorem dX3_tryLevel_110 : decode cX3_tryLevel 110 = .ok (.iconst 1, 1) := by decide +kernel
theorem dX3_tryLevel_111 : decode cX3_tryLevel 111 = .ok (.iadd, 1) := by decide +kernel
theorem dX3_tryLevel_112 : decode cX3_tryLevel 112 = .ok (.aload_n 2, 1) := by decide +kernel
theorem dX3_tryLevel_113 : decode cX3_tryLevel 113 = .ok (.aload_n 3, 1) := by decide +kernel
theorem dX3_tryLevel_114 : decode cX3_tryLevel 114 = .ok (.invokevirtual 51, 3) := by decide +kernel
theorem dX3_tryLevel_117 : decode cX3_tryLevel 117 = .ok (.istore 9, 2) := by decide +kernel
theorem dX3_tryLevel_119 : decode cX3_tryLevel 119 = .ok (.lload 5, 2) := by decide +kernel
theorem dX3_tryLevel_121 : decode cX3_tryLevel 121 = .ok (.lload 7, 2) := by decide +kernel
theorem dX3_tryLevel_123 : decode cX3_tryLevel 123 = .ok (.lcmp, 1) := by decide +kernel
theorem dX3_tryLevel_124 : decode cX3_tryLevel 124 = .ok (.ifCond .ne 6, 3) := by decide +kernel
theorem dX3_tryLevel_127 : decode cX3_tryLevel 127 = .ok (.goto 15, 3) := by decide +kernel
theorem dX3_tryLevel_130 : decode cX3_tryLevel 130 = .ok (.lload 5, 2) := by decide +kernel
theorem dX3_tryLevel_132 : decode cX3_tryLevel 132 = .ok (.lconst 1, 1) := by decide +kernel
theorem dX3_tryLevel_133 : decode cX3_tryLevel 133 = .ok (.ladd, 1) := by decide +kernel
theorem dX3_tryLevel_134 : decode cX3_tryLevel 134 = .ok (.lstore 5, 2) := by decide +kernel
theorem dX3_tryLevel_136 : decode cX3_tryLevel 136 = .ok (.iinc 10 1, 3) := by decide +kernel
theorem dX3_tryLevel_139 : decode cX3_tryLevel 139 = .ok (.goto (-89), 3) := by decide +kernel
theorem dX3_tryLevel_142 : decode cX3_tryLevel 142 = .ok (.aload_n 2, 1) := by decide +kernel
theorem dX3_tryLevel_143 : decode cX3_tryLevel 143 = .ok (.iload 4, 2) := by decide +kernel
theorem dX3_tryLevel_145 : decode cX3_tryLevel 145 = .ok (.invokevirtual 112, 3) := by decide +kernel
theorem dX3_tryLevel_148 : decode cX3_tryLevel 148 = .ok (.iload 9, 2) := by decide +kernel
theorem dX3_tryLevel_150 : decode cX3_tryLevel 150 = .ok (.ireturn, 1) := by decide +kernel
set_option maxRecDepth 20000 in
theorem ggX3_isGood_Jx4a65c_size_8abf5 : GoodIn wsX3_isGood wsJx4a65c_size_8abf5 := goodIn_r _ [7, 8, 56, 57, 58] (by decide +kernel) (by decide +kernel)
set_option maxRecDepth 20000 in
theorem gX3_isGood_Jx4a65c_size_8abf5 : GoodIn wsX3_isGood (wsV RX3 78 RJx4a65c yJx4a65c_size_8abf5 wsJx4a65c_size_8abf5) := goodIn_app (goodIn_of _ (by decide +kernel)) ggX3_isGood_Jx4a65c_size_8abf5
set_option maxRecDepth 20000 in
theorem ggX3_isGood_Jx4a65c_get_915e3 : GoodIn wsX3_isGood wsJx4a65c_get_915e3 := goodIn_r _ [12, 8, 13, 14, 15, 16, 17, 18, 19, 20, 21, 22, 23, 6, 24, 25, 56, 57, 58] (by decide +kernel) (by decide +kernel)
set_option maxRecDepth 20000 in
theorem gX3_isGood_Jx4a65c_get_915e3 : GoodIn wsX3_isGood (wsV RX3 84 RJx4a65c yJx4a65c_get_915e3 wsJx4a65c_get_915e3) := goodIn_app (goodIn_of _ (by decide +kernel)) ggX3_isGood_Jx4a65c_get_915e3
set_option maxRecDepth 20000 in
theorem ggX3_isGood_X0_isSo : GoodIn wsX3_isGood wsX0_isSo := goodIn_r _ [30, 31, 32, 33, 34, 35, 29, 36, 37, 38, 39, 40, 41, 42, 43, 44, 45, 46, 47, 48, 49, 59, 60, 61, 62, 63, 64, 65, 66, 67, 68, 69] (by decide +kernel) (by decide +kernel)
set_option maxRecDepth 20000 in
theorem gX3_isGood_X0_isSo : GoodIn wsX3_isGood (wsV RX3 116 RX0 yX0_isSo wsX0_isSo) := goodIn_app (goodIn_of _ (by decide +kernel)) ggX3_isGood_X0_isSo
theorem dX3_isGood_0 : decode cX3_isGood 0 = .ok (.iconst 0, 1) := by decide +kernel
theorem dX3_isGood_1 : decode cX3_isGood 1 = .ok (.istore 4, 2) := by decide +kernel
theorem dX3_isGood_3 : decode cX3_isGood 3 = .ok (.iload 4, 2) := by decide +kernel
theorem dX3_isGood_5 : decode cX3_isGood 5 = .ok (.aload_n 3, 1) := by decide +kernel
theorem dX3_isGood_6 : decode cX3_isGood 6 = .ok (.invokevirtual 78, 3) := by decide +kernel
theorem dX3_isGood_9 : decode cX3_isGood 9 = .ok (.if_icmp .ge 45, 3) := by decide +kernel
theorem dX3_isGood_12 : decode cX3_isGood 12 = .ok (.iload 4, 2) := by decide +kernel
theorem dX3_isGood_14 : decode cX3_isGood 14 = .ok (.bipush 60, 2) := by decide +kernel
theorem dX3_isGood_16 : decode cX3_isGood 16 = .ok (.if_icmp .ge 38, 3) := by decide +kernel
theorem dX3_isGood_19 : decode cX3_isGood 19 = .ok (.aload_n 0, 1) := by decide +kernel
theorem dX3_isGood_20 : decode cX3_isGood 20 = .ok (.getfield 19, 3) := by decide +kernel
theorem dX3_isGood_23 : decode cX3_isGood 23 = .ok (.iload 4, 2) := by decide +kernel
theorem dX3_isGood_25 : decode cX3_isGood 25 = .ok (.iaload, 1) := by decide +kernel
theorem dX3_isGood_26 : decode cX3_isGood 26 = .ok (.iload_n 1, 1) := by decide +kernel
theorem dX3_isGood_27 : decode cX3_isGood 27 = .ok (.if_icmp .ne 21, 3) := by decide +kernel
theorem dX3_isGood_30 : decode cX3_isGood 30 = .ok (.aload_n 3, 1) := by decide +kernel
theorem dX3_isGood_31 : decode cX3_isGood 31 = .ok (.iload 4, 2) := by decide +kernel
theorem dX3_isGood_33 : decode cX3_isGood 33 = .ok (.invokevirtual 84, 3) := by decide +kernel
theorem dX3_isGood_36 : decode cX3_isGood 36 = .ok (.checkcast 88, 3) := by decide +kernel
theorem dX3_isGood_39 : decode cX3_isGood 39 = .ok (.aload_n 2, 1) := by decide +kernel
theorem dX3_isGood_40 : decode cX3_isGood 40 = .ok (.invokevirtual 116, 3) := by decide +kernel
theorem dX3_isGood_43 : decode cX3_isGood 43 = .ok (.ifCond .ne 5, 3) := by decide +kernel
theorem dX3_isGood_46 : decode cX3_isGood 46 = .ok (.iconst 0, 1) := by decide +kernel
theorem dX3_isGood_47 : decode cX3_isGood 47 = .ok (.ireturn, 1) := by decide +kernel
theorem dX3_isGood_48 : decode cX3_isGood 48 = .ok (.iinc 4 1, 3) := by decide +kernel
theorem dX3_isGood_51 : decode cX3_isGood 51 = .ok (.goto (-48), 3) := by decide +kernel
theorem dX3_isGood_54 : decode cX3_isGood 54 = .ok (.iconst 1, 1) := by decide +kernel
theorem dX3_isGood_55 : decode cX3_isGood 55 = .ok (.ireturn, 1) := by decide +kernel
set_option maxRecDepth 20000 in
theorem ggX3_addWay_X1_numberOf : GoodIn wsX3_addWay wsX1_numberOf := goodIn_r _ [9, 10, 11, 18, 19, 20, 21, 22, 23, 24] (by decide +kernel) (by decide +kernel)
set_option maxRecDepth 20000 in
theorem gX3_addWay_X1_numberOf : GoodIn wsX3_addWay (wsV RX3 120 RX1 yX1_numberOf wsX1_numberOf) := goodIn_app (goodIn_of _ (by decide +kernel)) ggX3_addWay_X1_numberOf
theorem dX3_addWay_0 : decode cX3_addWay 0 = .ok (.aload_n 0, 1) := by decide +kernel
theorem dX3_addWay_1 : decode cX3_addWay 1 = .ok (.getfield 26, 3) := by decide +kernel
theorem dX3_addWay_4 : decode cX3_addWay 4 = .ok (.sipush 200, 3) := by decide +kernel
theorem dX3_addWay_7 : decode cX3_addWay 7 = .ok (.if_icmp .lt 6, 3) := by decide +kernel
theorem dX3_addWay_10 : decode cX3_addWay 10 = .ok (.bipush (-4), 2) := by decide +kernel
theorem dX3_addWay_12 : decode cX3_addWay 12 = .ok (.ireturn, 1) := by decide +kernel
theorem dX3_addWay_13 : decode cX3_addWay 13 = .ok (.iconst 0, 1) := by decide +kernel
theorem dX3_addWay_14 : decode cX3_addWay 14 = .ok (.istore_n 2, 1) := by decide +kernel
theorem dX3_addWay_15 : decode cX3_addWay 15 = .ok (.iload_n 2, 1) := by decide +kernel
theorem dX3_addWay_16 : decode cX3_addWay 16 = .ok (.aload_n 0, 1) := by decide +kernel
theorem dX3_addWay_17 : decode cX3_addWay 17 = .ok (.getfield 22, 3) := by decide +kernel
theorem dX3_addWay_20 : decode cX3_addWay 20 = .ok (.if_icmp .ge 39, 3) := by decide +kernel
theorem dX3_addWay_23 : decode cX3_addWay 23 = .ok (.iload_n 2, 1) := by decide +kernel
theorem dX3_addWay_24 : decode cX3_addWay 24 = .ok (.bipush 8, 2) := by decide +kernel
theorem dX3_addWay_26 : decode cX3_addWay 26 = .ok (.if_icmp .ge 33, 3) := by decide +kernel
theorem dX3_addWay_29 : decode cX3_addWay 29 = .ok (.aload_n 0, 1) := by decide +kernel
theorem dX3_addWay_30 : decode cX3_addWay 30 = .ok (.getfield 15, 3) := by decide +kernel
theorem dX3_addWay_33 : decode cX3_addWay 33 = .ok (.aload_n 0, 1) := by decide +kernel
theorem dX3_addWay_34 : decode cX3_addWay 34 = .ok (.getfield 26, 3) := by decide +kernel
theorem dX3_addWay_37 : decode cX3_addWay 37 = .ok (.bipush 8, 2) := by decide +kernel
theorem dX3_addWay_39 : decode cX3_addWay 39 = .ok (.imul, 1) := by decide +kernel
theorem dX3_addWay_40 : decode cX3_addWay 40 = .ok (.iload_n 2, 1) := by decide +kernel
theorem dX3_addWay_41 : decode cX3_addWay 41 = .ok (.iadd, 1) := by decide +kernel
theorem dX3_addWay_42 : decode cX3_addWay 42 = .ok (.aload_n 1, 1) := by decide +kernel
theorem dX3_addWay_43 : decode cX3_addWay 43 = .ok (.aload_n 0, 1) := by decide +kernel
theorem dX3_addWay_44 : decode cX3_addWay 44 = .ok (.getfield 9, 3) := by decide +kernel
theorem dX3_addWay_47 : decode cX3_addWay 47 = .ok (.iload_n 2, 1) := by decide +kernel
theorem dX3_addWay_48 : decode cX3_addWay 48 = .ok (.iaload, 1) := by decide +kernel
theorem dX3_addWay_49 : decode cX3_addWay 49 = .ok (.invokevirtual 120, 3) := by decide +kernel
theorem dX3_addWay_52 : decode cX3_addWay 52 = .ok (.lastore, 1) := by decide +kernel
theorem dX3_addWay_53 : decode cX3_addWay 53 = .ok (.iinc 2 1, 3) := by decide +kernel
theorem dX3_addWay_56 : decode cX3_addWay 56 = .ok (.goto (-41), 3) := by decide +kernel
theorem dX3_addWay_59 : decode cX3_addWay 59 = .ok (.aload_n 0, 1) := by decide +kernel
theorem dX3_addWay_60 : decode cX3_addWay 60 = .ok (.dup, 1) := by decide +kernel
theorem dX3_addWay_61 : decode cX3_addWay 61 = .ok (.getfield 26, 3) := by decide +kernel
theorem dX3_addWay_64 : decode cX3_addWay 64 = .ok (.iconst 1, 1) := by decide +kernel
theorem dX3_addWay_65 : decode cX3_addWay 65 = .ok (.iadd, 1) := by decide +kernel
theorem dX3_addWay_66 : decode cX3_addWay 66 = .ok (.putfield 26, 3) := by decide +kernel
theorem dX3_addWay_69 : decode cX3_addWay 69 = .ok (.iconst 0, 1) := by decide +kernel
theorem dX3_addWay_70 : decode cX3_addWay 70 = .ok (.ireturn, 1) := by decide +kernel
set_option maxRecDepth 20000 in
theorem ggX4_init_X1_init : GoodIn wsX4_init wsX1_init := goodIn_r _ [25, 26, 2, 3, 21, 27, 28, 29, 30, 31, 32, 33, 34, 61, 62, 63, 64, 65, 66, 67] (by decide +kernel) (by decide +kernel)
set_option maxRecDepth 20000 in
theorem gX4_init_X1_init_n9 : GoodIn wsX4_init (wsX1_init) := ggX4_init_X1_init
set_option maxRecDepth 20000 in
theorem ggX4_init_X2_init : GoodIn wsX4_init wsX2_init := goodIn_r _ [36, 37, 2, 3, 21, 38, 30, 39, 75, 76, 77] (by decide +kernel) (by decide +kernel)
set_option maxRecDepth 20000 in
theorem gX4_init_X2_init_n18 : GoodIn wsX4_init (wsX2_init) := ggX4_init_X2_init
set_option maxRecDepth 20000 in
theorem ggX4_init_Jx4a65c_init_da8c8 : GoodIn wsX4_init wsJx4a65c_init_da8c8 := goodIn_r _ [42, 43, 44, 45, 46, 47, 48, 49, 50, 51, 52, 53, 54, 2, 3, 78, 79, 80] (by decide +kernel) (by decide +kernel)
set_option maxRecDepth 20000 in
theorem gX4_init_Jx4a65c_init_da8c8 : GoodIn wsX4_init (wsJx4a65c_init_da8c8) := ggX4_init_Jx4a65c_init_da8c8
set_option maxRecDepth 20000 in
theorem ggX4_init_X3_init : GoodIn wsX4_init wsX3_init := goodIn_r _ [56, 57, 2, 3, 21, 58, 30, 59, 60, 81, 82, 83, 84, 85, 86] (by decide +kernel) (by decide +kernel)
set_option maxRecDepth 20000 in
theorem gX4_init_X3_init_n32 : GoodIn wsX4_init (wsX3_init) := ggX4_init_X3_init
theorem dX4_init_0 : decode cX4_init 0 = .ok (.aload_n 0, 1) := by decide +kernel
theorem dX4_init_1 : decode cX4_init 1 = .ok (.invokespecial 1, 3) := by decide +kernel
theorem dX4_init_4 : decode cX4_init 4 = .ok (.aload_n 0, 1) := by decide +kernel
theorem dX4_init_5 : decode cX4_init 5 = .ok (.new 7, 3) := by decide +kernel
theorem dX4_init_8 : decode cX4_init 8 = .ok (.dup, 1) := by decide +kernel
theorem dX4_init_9 : decode cX4_init 9 = .ok (.invokespecial 9, 3) := by decide +kernel
theorem dX4_init_12 : decode cX4_init 12 = .ok (.putfield 10, 3) := by decide +kernel
theorem dX4_init_15 : decode cX4_init 15 = .ok (.aload_n 0, 1) := by decide +kernel
end
section
theorem dX4_init_16 : decode cX4_init 16 = .ok (.new 16, 3) := by decide +kernel
theorem dX4_init_19 : decode cX4_init 19 = .ok (.dup, 1) := by decide +kernel
theorem dX4_init_20 : decode cX4_init 20 = .ok (.invokespecial 18, 3) := by decide +kernel
theorem dX4_init_23 : decode cX4_init 23 = .ok (.putfield 19, 3) := by decide +kernel
theorem dX4_init_26 : decode cX4_init 26 = .ok (.aload_n 0, 1) := by decide +kernel
theorem dX4_init_27 : decode cX4_init 27 = .ok (.new 23, 3) := by decide +kernel
theorem dX4_init_30 : decode cX4_init 30 = .ok (.dup, 1) := by decide +kernel
theorem dX4_init_31 : decode cX4_init 31 = .ok (.invokespecial 25, 3) := by decide +kernel
theorem dX4_init_34 : decode cX4_init 34 = .ok (.putfield 26, 3) := by decide +kernel
theorem dX4_init_37 : decode cX4_init 37 = .ok (.aload_n 0, 1) := by decide +kernel
theorem dX4_init_38 : decode cX4_init 38 = .ok (.new 30, 3) := by decide +kernel
theorem dX4_init_41 : decode cX4_init 41 = .ok (.dup, 1) := by decide +kernel
theorem dX4_init_42 : decode cX4_init 42 = .ok (.invokespecial 32, 3) := by decide +kernel
theorem dX4_init_45 : decode cX4_init 45 = .ok (.putfield 33, 3) := by decide +kernel
theorem dX4_init_48 : decode cX4_init 48 = .ok (.aload_n 0, 1) := by decide +kernel
theorem dX4_init_49 : decode cX4_init 49 = .ok (.new 23, 3) := by decide +kernel
theorem dX4_init_52 : decode cX4_init 52 = .ok (.dup, 1) := by decide +kernel
theorem dX4_init_53 : decode cX4_init 53 = .ok (.invokespecial 25, 3) := by decide +kernel
theorem dX4_init_56 : decode cX4_init 56 = .ok (.putfield 37, 3) := by decide +kernel
theorem dX4_init_59 : decode cX4_init 59 = .ok (.aload_n 0, 1) := by decide +kernel
theorem dX4_init_60 : decode cX4_init 60 = .ok (.bipush 40, 2) := by decide +kernel
theorem dX4_init_62 : decode cX4_init 62 = .ok (.newarray .int, 2) := by decide +kernel
theorem dX4_init_64 : decode cX4_init 64 = .ok (.putfield 40, 3) := by decide +kernel
theorem dX4_init_67 : decode cX4_init 67 = .ok (.aload_n 0, 1) := by decide +kernel
theorem dX4_init_68 : decode cX4_init 68 = .ok (.iconst 0, 1) := by decide +kernel
theorem dX4_init_69 : decode cX4_init 69 = .ok (.putfield 44, 3) := by decide +kernel
theorem dX4_init_72 : decode cX4_init 72 = .ok (.return_, 1) := by decide +kernel
set_option maxRecDepth 20000 in
theorem ggX4_name_X3_endWays : GoodIn wsX4_name wsX3_endWays := goodIn_r _ [8, 9, 10, 39, 40, 41, 42, 43, 44] (by decide +kernel) (by decide +kernel)
set_option maxRecDepth 20000 in
theorem gX4_name_X3_endWays : GoodIn wsX4_name (wsV RX4 51 RX3 yX3_endWays wsX3_endWays) := goodIn_app (goodIn_of _ (by decide +kernel)) ggX4_name_X3_endWays
set_option maxRecDepth 20000 in
theorem ggX4_name_X1_addFree : GoodIn wsX4_name wsX1_addFree := goodIn_r _ [15, 16, 17, 18, 19, 20, 21, 22, 23, 24, 32, 33, 34, 35, 36, 37, 38] (by decide +kernel) (by decide +kernel)
set_option maxRecDepth 20000 in
theorem gX4_name_X1_addFree : GoodIn wsX4_name (wsV RX4 54 RX1 yX1_addFree wsX1_addFree) := goodIn_app (goodIn_of _ (by decide +kernel)) ggX4_name_X1_addFree
theorem dX4_name_0 : decode cX4_name 0 = .ok (.aload_n 0, 1) := by decide +kernel
theorem dX4_name_1 : decode cX4_name 1 = .ok (.getfield 10, 3) := by decide +kernel
theorem dX4_name_4 : decode cX4_name 4 = .ok (.getfield 48, 3) := by decide +kernel
theorem dX4_name_7 : decode cX4_name 7 = .ok (.bipush 64, 2) := by decide +kernel
theorem dX4_name_9 : decode cX4_name 9 = .ok (.if_icmp .lt 5, 3) := by decide +kernel
theorem dX4_name_12 : decode cX4_name 12 = .ok (.iconst (-1), 1) := by decide +kernel
theorem dX4_name_13 : decode cX4_name 13 = .ok (.ireturn, 1) := by decide +kernel
theorem dX4_name_14 : decode cX4_name 14 = .ok (.aload_n 0, 1) := by decide +kernel
theorem dX4_name_15 : decode cX4_name 15 = .ok (.getfield 33, 3) := by decide +kernel
theorem dX4_name_18 : decode cX4_name 18 = .ok (.invokevirtual 51, 3) := by decide +kernel
theorem dX4_name_21 : decode cX4_name 21 = .ok (.aload_n 0, 1) := by decide +kernel
theorem dX4_name_22 : decode cX4_name 22 = .ok (.getfield 10, 3) := by decide +kernel
theorem dX4_name_25 : decode cX4_name 25 = .ok (.invokevirtual 54, 3) := by decide +kernel
theorem dX4_name_28 : decode cX4_name 28 = .ok (.ireturn, 1) := by decide +kernel
set_option maxRecDepth 20000 in
theorem ggX4_span_X1_has : GoodIn wsX4_span wsX1_has := goodIn_r _ [7, 8, 56, 57, 58, 59, 60, 61, 62] (by decide +kernel) (by decide +kernel)
set_option maxRecDepth 20000 in
theorem gX4_span_X1_has : GoodIn wsX4_span (wsV RX4 58 RX1 yX1_has wsX1_has) := goodIn_app (goodIn_of _ (by decide +kernel)) ggX4_span_X1_has
set_option maxRecDepth 20000 in
theorem ggX4_span_X1_narrow : GoodIn wsX4_span wsX1_narrow := goodIn_r _ [12, 13, 14, 15, 16, 17, 18, 19, 20, 21, 22, 23, 24, 25, 26, 6, 27, 28, 29, 30, 31, 32, 33, 34, 35, 36, 37, 38, 39, 40, 41, 56, 57, 58, 59, 60, 61, 62] (by decide +kernel) (by decide +kernel)
set_option maxRecDepth 20000 in
theorem gX4_span_X1_narrow : GoodIn wsX4_span (wsV RX4 62 RX1 yX1_narrow wsX1_narrow) := goodIn_app (goodIn_of _ (by decide +kernel)) ggX4_span_X1_narrow
set_option maxRecDepth 20000 in
theorem ggX4_span_X3_endWays : GoodIn wsX4_span wsX3_endWays := goodIn_r _ [46, 47, 48, 63, 64, 65, 66, 67, 68] (by decide +kernel) (by decide +kernel)
set_option maxRecDepth 20000 in
theorem gX4_span_X3_endWays : GoodIn wsX4_span (wsV RX4 51 RX3 yX3_endWays wsX3_endWays) := goodIn_app (goodIn_of _ (by decide +kernel)) ggX4_span_X3_endWays
theorem dX4_span_0 : decode cX4_span 0 = .ok (.aload_n 0, 1) := by decide +kernel
theorem dX4_span_1 : decode cX4_span 1 = .ok (.getfield 10, 3) := by decide +kernel
theorem dX4_span_4 : decode cX4_span 4 = .ok (.iload_n 1, 1) := by decide +kernel
theorem dX4_span_5 : decode cX4_span 5 = .ok (.invokevirtual 58, 3) := by decide +kernel
theorem dX4_span_8 : decode cX4_span 8 = .ok (.ifCond .eq 17, 3) := by decide +kernel
theorem dX4_span_11 : decode cX4_span 11 = .ok (.aload_n 0, 1) := by decide +kernel
theorem dX4_span_12 : decode cX4_span 12 = .ok (.getfield 10, 3) := by decide +kernel
theorem dX4_span_15 : decode cX4_span 15 = .ok (.iload_n 1, 1) := by decide +kernel
theorem dX4_span_16 : decode cX4_span 16 = .ok (.lload_n 2, 1) := by decide +kernel
theorem dX4_span_17 : decode cX4_span 17 = .ok (.lload 4, 2) := by decide +kernel
theorem dX4_span_19 : decode cX4_span 19 = .ok (.invokevirtual 62, 3) := by decide +kernel
theorem dX4_span_22 : decode cX4_span 22 = .ok (.ifCond .ne 5, 3) := by decide +kernel
theorem dX4_span_25 : decode cX4_span 25 = .ok (.iconst 0, 1) := by decide +kernel
theorem dX4_span_26 : decode cX4_span 26 = .ok (.ireturn, 1) := by decide +kernel
theorem dX4_span_27 : decode cX4_span 27 = .ok (.aload_n 0, 1) := by decide +kernel
theorem dX4_span_28 : decode cX4_span 28 = .ok (.getfield 33, 3) := by decide +kernel
theorem dX4_span_31 : decode cX4_span 31 = .ok (.invokevirtual 51, 3) := by decide +kernel
theorem dX4_span_34 : decode cX4_span 34 = .ok (.iconst 1, 1) := by decide +kernel
theorem dX4_span_35 : decode cX4_span 35 = .ok (.ireturn, 1) := by decide +kernel
set_option maxRecDepth 20000 in
theorem ggX4_give_X1_has : GoodIn wsX4_give wsX1_has := goodIn_r _ [7, 8, 113, 114, 115, 116, 117, 118, 119] (by decide +kernel) (by decide +kernel)
set_option maxRecDepth 20000 in
theorem gX4_give_X1_has : GoodIn wsX4_give (wsV RX4 58 RX1 yX1_has wsX1_has) := goodIn_app (goodIn_of _ (by decide +kernel)) ggX4_give_X1_has
set_option maxRecDepth 20000 in
theorem ggX4_give_X4_settle : GoodIn wsX4_give wsX4_settle := goodIn_r _ [13, 1, 14, 15, 16, 6, 17, 18, 19, 20, 21, 22, 23, 24, 25, 26, 27, 28, 29, 30, 31, 32, 33, 34, 35, 36, 37, 38, 39, 40, 41, 42, 43, 44, 45, 12, 46, 47, 48, 49, 50, 51, 52, 53, 54, 55, 56, 57, 58, 59, 60, 61, 62, 63, 64, 65, 66, 67, 68, 69, 70, 71, 72, 73, 74, 75, 76, 77, 78, 79, 80, 81, 82, 83, 84, 85, 86, 87, 88, 89, 90, 91, 92, 93, 94, 95, 96, 97, 98, 106, 107, 108, 109, 110, 111, 112, 113, 114, 115, 116, 117, 118, 119, 120, 121, 122, 123, 124, 125, 126] (by decide +kernel) (by decide +kernel)
set_option maxRecDepth 20000 in
theorem gX4_give_X4_settle : GoodIn wsX4_give (wsV RX4 66 RX4 yX4_settle wsX4_settle) := goodIn_app (goodIn_of _ (by decide +kernel)) ggX4_give_X4_settle
set_option maxRecDepth 20000 in
theorem ggX4_give_X3_endWays : GoodIn wsX4_give wsX3_endWays := goodIn_r _ [103, 104, 105, 127, 128, 129, 130, 131, 132] (by decide +kernel) (by decide +kernel)
set_option maxRecDepth 20000 in
theorem gX4_give_X3_endWays : GoodIn wsX4_give (wsV RX4 51 RX3 yX3_endWays wsX3_endWays) := goodIn_app (goodIn_of _ (by decide +kernel)) ggX4_give_X3_endWays
theorem dX4_give_0 : decode cX4_give 0 = .ok (.aload_n 0, 1) := by decide +kernel
theorem dX4_give_1 : decode cX4_give 1 = .ok (.getfield 10, 3) := by decide +kernel
theorem dX4_give_4 : decode cX4_give 4 = .ok (.iload_n 1, 1) := by decide +kernel
theorem dX4_give_5 : decode cX4_give 5 = .ok (.invokevirtual 58, 3) := by decide +kernel
theorem dX4_give_8 : decode cX4_give 8 = .ok (.ifCond .eq 12, 3) := by decide +kernel
theorem dX4_give_11 : decode cX4_give 11 = .ok (.aload_n 0, 1) := by decide +kernel
theorem dX4_give_12 : decode cX4_give 12 = .ok (.iload_n 1, 1) := by decide +kernel
theorem dX4_give_13 : decode cX4_give 13 = .ok (.lload_n 2, 1) := by decide +kernel
theorem dX4_give_14 : decode cX4_give 14 = .ok (.invokevirtual 66, 3) := by decide +kernel
theorem dX4_give_17 : decode cX4_give 17 = .ok (.ifCond .ne 5, 3) := by decide +kernel
theorem dX4_give_20 : decode cX4_give 20 = .ok (.iconst 0, 1) := by decide +kernel
theorem dX4_give_21 : decode cX4_give 21 = .ok (.ireturn, 1) := by decide +kernel
theorem dX4_give_22 : decode cX4_give 22 = .ok (.aload_n 0, 1) := by decide +kernel
theorem dX4_give_23 : decode cX4_give 23 = .ok (.getfield 33, 3) := by decide +kernel
theorem dX4_give_26 : decode cX4_give 26 = .ok (.invokevirtual 51, 3) := by decide +kernel
theorem dX4_give_29 : decode cX4_give 29 = .ok (.iconst 1, 1) := by decide +kernel
theorem dX4_give_30 : decode cX4_give 30 = .ok (.ireturn, 1) := by decide +kernel
set_option maxRecDepth 20000 in
theorem ggX4_equal_X1_has : GoodIn wsX4_equal wsX1_has := goodIn_r _ [7, 8, 149, 150, 151, 152, 153, 154, 155] (by decide +kernel) (by decide +kernel)
set_option maxRecDepth 20000 in
theorem gX4_equal_X1_has : GoodIn wsX4_equal (wsV RX4 58 RX1 yX1_has wsX1_has) := goodIn_app (goodIn_of _ (by decide +kernel)) ggX4_equal_X1_has
set_option maxRecDepth 20000 in
theorem ggX4_equal_X4_agree : GoodIn wsX4_equal wsX4_agree := goodIn_r _ [13, 1, 14, 15, 16, 6, 17, 18, 19, 20, 21, 22, 23, 24, 25, 26, 27, 12, 28, 29, 30, 31, 32, 33, 34, 35, 36, 37, 38, 39, 40, 41, 42, 43, 44, 45, 46, 47, 48, 49, 50, 51, 52, 53, 54, 55, 56, 57, 58, 59, 60, 61, 62, 63, 64, 65, 66, 67, 68, 69, 70, 71, 72, 73, 74, 75, 76, 77, 78, 79, 80, 81, 82, 83, 84, 85, 86, 87, 88, 89, 90, 91, 92, 93, 94, 95, 96, 97, 98, 99, 100, 101, 102, 103, 104, 105, 106, 107, 108, 109, 110, 111, 112, 113, 114, 115, 116, 117, 118, 119, 120, 121, 122, 123, 124, 142, 143, 144, 145, 146, 147, 148, 149, 150, 151, 152, 153, 154, 155, 156, 157, 158, 159, 160, 161, 162] (by decide +kernel) (by decide +kernel)
set_option maxRecDepth 20000 in
theorem gX4_equal_X4_agree : GoodIn wsX4_equal (wsV RX4 70 RX4 yX4_agree wsX4_agree) := goodIn_app (goodIn_of _ (by decide +kernel)) ggX4_equal_X4_agree
set_option maxRecDepth 20000 in
theorem ggX4_equal_X1_join : GoodIn wsX4_equal wsX1_join := goodIn_r _ [128, 19, 129, 130, 118, 131, 132, 133, 134, 8, 149, 150, 151, 152, 153, 154, 155] (by decide +kernel) (by decide +kernel)
set_option maxRecDepth 20000 in
theorem gX4_equal_X1_join : GoodIn wsX4_equal (wsV RX4 74 RX1 yX1_join wsX1_join) := goodIn_app (goodIn_of _ (by decide +kernel)) ggX4_equal_X1_join
set_option maxRecDepth 20000 in
theorem ggX4_equal_X3_endWays : GoodIn wsX4_equal wsX3_endWays := goodIn_r _ [139, 140, 141, 163, 164, 165, 166, 167, 168] (by decide +kernel) (by decide +kernel)
set_option maxRecDepth 20000 in
theorem gX4_equal_X3_endWays : GoodIn wsX4_equal (wsV RX4 51 RX3 yX3_endWays wsX3_endWays) := goodIn_app (goodIn_of _ (by decide +kernel)) ggX4_equal_X3_endWays
theorem dX4_equal_0 : decode cX4_equal 0 = .ok (.aload_n 0, 1) := by decide +kernel
theorem dX4_equal_1 : decode cX4_equal 1 = .ok (.getfield 10, 3) := by decide +kernel
theorem dX4_equal_4 : decode cX4_equal 4 = .ok (.iload_n 1, 1) := by decide +kernel
theorem dX4_equal_5 : decode cX4_equal 5 = .ok (.invokevirtual 58, 3) := by decide +kernel
theorem dX4_equal_8 : decode cX4_equal 8 = .ok (.ifCond .eq 23, 3) := by decide +kernel
theorem dX4_equal_11 : decode cX4_equal 11 = .ok (.aload_n 0, 1) := by decide +kernel
theorem dX4_equal_12 : decode cX4_equal 12 = .ok (.getfield 10, 3) := by decide +kernel
theorem dX4_equal_15 : decode cX4_equal 15 = .ok (.iload_n 2, 1) := by decide +kernel
theorem dX4_equal_16 : decode cX4_equal 16 = .ok (.invokevirtual 58, 3) := by decide +kernel
theorem dX4_equal_19 : decode cX4_equal 19 = .ok (.ifCond .eq 12, 3) := by decide +kernel
theorem dX4_equal_22 : decode cX4_equal 22 = .ok (.aload_n 0, 1) := by decide +kernel
theorem dX4_equal_23 : decode cX4_equal 23 = .ok (.iload_n 1, 1) := by decide +kernel
theorem dX4_equal_24 : decode cX4_equal 24 = .ok (.iload_n 2, 1) := by decide +kernel
theorem dX4_equal_25 : decode cX4_equal 25 = .ok (.invokevirtual 70, 3) := by decide +kernel
theorem dX4_equal_28 : decode cX4_equal 28 = .ok (.ifCond .ne 5, 3) := by decide +kernel
theorem dX4_equal_31 : decode cX4_equal 31 = .ok (.iconst 0, 1) := by decide +kernel
theorem dX4_equal_32 : decode cX4_equal 32 = .ok (.ireturn, 1) := by decide +kernel
theorem dX4_equal_33 : decode cX4_equal 33 = .ok (.aload_n 0, 1) := by decide +kernel
theorem dX4_equal_34 : decode cX4_equal 34 = .ok (.getfield 10, 3) := by decide +kernel
theorem dX4_equal_37 : decode cX4_equal 37 = .ok (.iload_n 1, 1) := by decide +kernel
theorem dX4_equal_38 : decode cX4_equal 38 = .ok (.iload_n 2, 1) := by decide +kernel
theorem dX4_equal_39 : decode cX4_equal 39 = .ok (.invokevirtual 74, 3) := by decide +kernel
theorem dX4_equal_42 : decode cX4_equal 42 = .ok (.aload_n 0, 1) := by decide +kernel
theorem dX4_equal_43 : decode cX4_equal 43 = .ok (.getfield 33, 3) := by decide +kernel
theorem dX4_equal_46 : decode cX4_equal 46 = .ok (.invokevirtual 51, 3) := by decide +kernel
theorem dX4_equal_49 : decode cX4_equal 49 = .ok (.iconst 1, 1) := by decide +kernel
theorem dX4_equal_50 : decode cX4_equal 50 = .ok (.ireturn, 1) := by decide +kernel
set_option maxRecDepth 20000 in
theorem ggX4_put_X1_has : GoodIn wsX4_put wsX1_has := goodIn_r _ [8, 9, 28, 29, 30, 31, 32, 33, 34] (by decide +kernel) (by decide +kernel)
set_option maxRecDepth 20000 in
theorem gX4_put_X1_has : GoodIn wsX4_put (wsV RX4 58 RX1 yX1_has wsX1_has) := goodIn_app (goodIn_of _ (by decide +kernel)) ggX4_put_X1_has
set_option maxRecDepth 20000 in
theorem ggX4_put_X2_append : GoodIn wsX4_put wsX2_append := goodIn_r _ [14, 15, 16, 17, 25, 26, 27] (by decide +kernel) (by decide +kernel)
set_option maxRecDepth 20000 in
theorem gX4_put_X2_append : GoodIn wsX4_put (wsV RX4 81 RX2 yX2_append wsX2_append) := goodIn_app (goodIn_of _ (by decide +kernel)) ggX4_put_X2_append
theorem dX4_put_0 : decode cX4_put 0 = .ok (.aload_n 0, 1) := by decide +kernel
theorem dX4_put_1 : decode cX4_put 1 = .ok (.getfield 10, 3) := by decide +kernel
theorem dX4_put_4 : decode cX4_put 4 = .ok (.iload_n 1, 1) := by decide +kernel
theorem dX4_put_5 : decode cX4_put 5 = .ok (.invokevirtual 58, 3) := by decide +kernel
theorem dX4_put_8 : decode cX4_put 8 = .ok (.ifCond .eq 15, 3) := by decide +kernel
theorem dX4_put_11 : decode cX4_put 11 = .ok (.aload_n 0, 1) := by decide +kernel
theorem dX4_put_12 : decode cX4_put 12 = .ok (.getfield 19, 3) := by decide +kernel
theorem dX4_put_15 : decode cX4_put 15 = .ok (.getfield 78, 3) := by decide +kernel
theorem dX4_put_18 : decode cX4_put 18 = .ok (.bipush 32, 2) := by decide +kernel
theorem dX4_put_20 : decode cX4_put 20 = .ok (.if_icmp .lt 5, 3) := by decide +kernel
theorem dX4_put_23 : decode cX4_put 23 = .ok (.iconst (-1), 1) := by decide +kernel
theorem dX4_put_24 : decode cX4_put 24 = .ok (.ireturn, 1) := by decide +kernel
theorem dX4_put_25 : decode cX4_put 25 = .ok (.aload_n 0, 1) := by decide +kernel
theorem dX4_put_26 : decode cX4_put 26 = .ok (.getfield 19, 3) := by decide +kernel
theorem dX4_put_29 : decode cX4_put 29 = .ok (.iload_n 1, 1) := by decide +kernel
theorem dX4_put_30 : decode cX4_put 30 = .ok (.lload_n 2, 1) := by decide +kernel
theorem dX4_put_31 : decode cX4_put 31 = .ok (.invokevirtual 81, 3) := by decide +kernel
theorem dX4_put_34 : decode cX4_put 34 = .ok (.aload_n 0, 1) := by decide +kernel
theorem dX4_put_35 : decode cX4_put 35 = .ok (.getfield 19, 3) := by decide +kernel
theorem dX4_put_38 : decode cX4_put 38 = .ok (.getfield 78, 3) := by decide +kernel
theorem dX4_put_41 : decode cX4_put 41 = .ok (.ireturn, 1) := by decide +kernel
set_option maxRecDepth 20000 in
theorem ggX4_keep_X3_endWays : GoodIn wsX4_keep wsX3_endWays := goodIn_r _ [8, 9, 10, 148, 149, 150, 151, 152, 153] (by decide +kernel) (by decide +kernel)
set_option maxRecDepth 20000 in
theorem gX4_keep_X3_endWays : GoodIn wsX4_keep (wsV RX4 51 RX3 yX3_endWays wsX3_endWays) := goodIn_app (goodIn_of _ (by decide +kernel)) ggX4_keep_X3_endWays
set_option maxRecDepth 20000 in
theorem ggX4_keep_X4_keepRow : GoodIn wsX4_keep wsX4_keepRow := goodIn_r _ [15, 16, 17, 18, 19, 2, 20, 21, 22, 23, 24, 25, 26, 27, 28, 29, 30, 31, 32, 33, 34, 35, 36, 37, 38, 39, 40, 41, 42, 43, 44, 45, 46, 47, 48, 49, 50, 51, 52, 53, 54, 55, 56, 57, 58, 59, 60, 61, 62, 63, 64, 65, 66, 67, 68, 69, 70, 71, 72, 73, 74, 75, 76, 77, 78, 79, 80, 81, 82, 83, 84, 85, 86, 87, 88, 89, 90, 91, 92, 93, 94, 95, 96, 97, 98, 99, 100, 101, 102, 103, 104, 105, 106, 107, 108, 109, 110, 111, 112, 113, 114, 115, 116, 117, 118, 119, 120, 121, 122, 123, 124, 125, 126, 127, 128, 129, 130, 131, 132, 133, 134, 135, 136, 137, 138, 139, 140, 141, 142, 143, 144, 154, 155, 156, 157, 158, 159, 160, 145, 146, 147, 161, 162, 163, 164, 165, 166, 167] (by decide +kernel) (by decide +kernel)
set_option maxRecDepth 20000 in
theorem gX4_keep_X4_keepRow : GoodIn wsX4_keep (wsV RX4 85 RX4 yX4_keepRow wsX4_keepRow) := goodIn_app (goodIn_of _ (by decide +kernel)) ggX4_keep_X4_keepRow
theorem dX4_keep_0 : decode cX4_keep 0 = .ok (.aload_n 0, 1) := by decide +kernel
theorem dX4_keep_1 : decode cX4_keep 1 = .ok (.getfield 33, 3) := by decide +kernel
theorem dX4_keep_4 : decode cX4_keep 4 = .ok (.invokevirtual 51, 3) := by decide +kernel
theorem dX4_keep_7 : decode cX4_keep 7 = .ok (.aload_n 0, 1) := by decide +kernel
theorem dX4_keep_8 : decode cX4_keep 8 = .ok (.iload_n 1, 1) := by decide +kernel
theorem dX4_keep_9 : decode cX4_keep 9 = .ok (.lload_n 2, 1) := by decide +kernel
theorem dX4_keep_10 : decode cX4_keep 10 = .ok (.invokevirtual 85, 3) := by decide +kernel
theorem dX4_keep_13 : decode cX4_keep 13 = .ok (.istore 4, 2) := by decide +kernel
theorem dX4_keep_15 : decode cX4_keep 15 = .ok (.aload_n 0, 1) := by decide +kernel
theorem dX4_keep_16 : decode cX4_keep 16 = .ok (.getfield 19, 3) := by decide +kernel
theorem dX4_keep_19 : decode cX4_keep 19 = .ok (.iconst 0, 1) := by decide +kernel
theorem dX4_keep_20 : decode cX4_keep 20 = .ok (.putfield 78, 3) := by decide +kernel
theorem dX4_keep_23 : decode cX4_keep 23 = .ok (.iload 4, 2) := by decide +kernel
theorem dX4_keep_25 : decode cX4_keep 25 = .ok (.ireturn, 1) := by decide +kernel
set_option maxRecDepth 20000 in
theorem ggX4_label_X3_run : GoodIn wsX4_label wsX3_run := goodIn_r _ [10, 11, 12, 13, 14, 15, 9, 16, 17, 18, 19, 20, 21, 22, 23, 24, 25, 26, 27, 28, 29, 30, 31, 32, 33, 34, 35, 36, 37, 38, 39, 40, 41, 42, 43, 44, 45, 46, 47, 48, 49, 50, 51, 52, 53, 54, 55, 56, 57, 58, 59, 60, 61, 62, 63, 64, 65, 66, 67, 68, 69, 70, 71, 72, 73, 74, 75, 76, 77, 78, 79, 80, 81, 82, 83, 84, 85, 86, 87, 88, 89, 90, 91, 92, 93, 94, 95, 96, 97, 98, 99, 100, 101, 102, 103, 104, 105, 106, 107, 108, 109, 110, 111, 112, 113, 114, 115, 116, 117, 118, 119, 120, 121, 122, 123, 124, 125, 126, 127, 128, 129, 130, 131, 132, 133, 134, 135, 136, 137, 138, 139, 140, 141, 142, 143, 144, 145, 156, 157, 158, 159, 160, 161, 153, 154, 155, 162, 163, 164, 165, 166, 167, 168, 169, 170, 171, 172, 173, 174, 175] (by decide +kernel) (by decide +kernel)
set_option maxRecDepth 20000 in
theorem gX4_label_X3_run : GoodIn wsX4_label (wsV RX4 89 RX3 yX3_run wsX3_run) := goodIn_app (goodIn_of _ (by decide +kernel)) ggX4_label_X3_run
theorem dX4_label_0 : decode cX4_label 0 = .ok (.aload_n 0, 1) := by decide +kernel
theorem dX4_label_1 : decode cX4_label 1 = .ok (.getfield 33, 3) := by decide +kernel
theorem dX4_label_4 : decode cX4_label 4 = .ok (.aload_n 0, 1) := by decide +kernel
theorem dX4_label_5 : decode cX4_label 5 = .ok (.getfield 19, 3) := by decide +kernel
theorem dX4_label_8 : decode cX4_label 8 = .ok (.aload_n 0, 1) := by decide +kernel
theorem dX4_label_9 : decode cX4_label 9 = .ok (.getfield 10, 3) := by decide +kernel
theorem dX4_label_12 : decode cX4_label 12 = .ok (.aload_n 0, 1) := by decide +kernel
theorem dX4_label_13 : decode cX4_label 13 = .ok (.getfield 26, 3) := by decide +kernel
theorem dX4_label_16 : decode cX4_label 16 = .ok (.invokevirtual 89, 3) := by decide +kernel
theorem dX4_label_19 : decode cX4_label 19 = .ok (.istore_n 1, 1) := by decide +kernel
theorem dX4_label_20 : decode cX4_label 20 = .ok (.aload_n 0, 1) := by decide +kernel
theorem dX4_label_21 : decode cX4_label 21 = .ok (.getfield 19, 3) := by decide +kernel
theorem dX4_label_24 : decode cX4_label 24 = .ok (.iconst 0, 1) := by decide +kernel
theorem dX4_label_25 : decode cX4_label 25 = .ok (.putfield 78, 3) := by decide +kernel
theorem dX4_label_28 : decode cX4_label 28 = .ok (.iload_n 1, 1) := by decide +kernel
theorem dX4_label_29 : decode cX4_label 29 = .ok (.ireturn, 1) := by decide +kernel
set_option maxRecDepth 20000 in
theorem ggX4_way_X3_hasWay : GoodIn wsX4_way wsX3_hasWay := goodIn_r _ [7, 8, 21, 22, 23, 24, 25, 26] (by decide +kernel) (by decide +kernel)
set_option maxRecDepth 20000 in
theorem gX4_way_X3_hasWay : GoodIn wsX4_way (wsV RX4 93 RX3 yX3_hasWay wsX3_hasWay) := goodIn_app (goodIn_of _ (by decide +kernel)) ggX4_way_X3_hasWay
set_option maxRecDepth 20000 in
theorem ggX4_way_X3_numberIn : GoodIn wsX4_way wsX3_numberIn := goodIn_r _ [12, 13, 21, 22, 23, 24, 25, 26] (by decide +kernel) (by decide +kernel)
set_option maxRecDepth 20000 in
theorem gX4_way_X3_numberIn : GoodIn wsX4_way (wsV RX4 99 RX3 yX3_numberIn wsX3_numberIn) := goodIn_app (goodIn_of _ (by decide +kernel)) ggX4_way_X3_numberIn
theorem dX4_way_0 : decode cX4_way 0 = .ok (.aload_n 0, 1) := by decide +kernel
theorem dX4_way_1 : decode cX4_way 1 = .ok (.getfield 33, 3) := by decide +kernel
theorem dX4_way_4 : decode cX4_way 4 = .ok (.iload_n 1, 1) := by decide +kernel
theorem dX4_way_5 : decode cX4_way 5 = .ok (.invokevirtual 93, 3) := by decide +kernel
theorem dX4_way_8 : decode cX4_way 8 = .ok (.ifCond .eq 18, 3) := by decide +kernel
theorem dX4_way_11 : decode cX4_way 11 = .ok (.iload_n 2, 1) := by decide +kernel
theorem dX4_way_12 : decode cX4_way 12 = .ok (.ifCond .lt 14, 3) := by decide +kernel
theorem dX4_way_15 : decode cX4_way 15 = .ok (.iload_n 2, 1) := by decide +kernel
theorem dX4_way_16 : decode cX4_way 16 = .ok (.aload_n 0, 1) := by decide +kernel
theorem dX4_way_17 : decode cX4_way 17 = .ok (.getfield 33, 3) := by decide +kernel
theorem dX4_way_20 : decode cX4_way 20 = .ok (.getfield 96, 3) := by decide +kernel
theorem dX4_way_23 : decode cX4_way 23 = .ok (.if_icmp .lt 5, 3) := by decide +kernel
theorem dX4_way_26 : decode cX4_way 26 = .ok (.lconst 0, 1) := by decide +kernel
theorem dX4_way_27 : decode cX4_way 27 = .ok (.lreturn, 1) := by decide +kernel
theorem dX4_way_28 : decode cX4_way 28 = .ok (.aload_n 0, 1) := by decide +kernel
theorem dX4_way_29 : decode cX4_way 29 = .ok (.getfield 33, 3) := by decide +kernel
theorem dX4_way_32 : decode cX4_way 32 = .ok (.iload_n 1, 1) := by decide +kernel
theorem dX4_way_33 : decode cX4_way 33 = .ok (.iload_n 2, 1) := by decide +kernel
theorem dX4_way_34 : decode cX4_way 34 = .ok (.invokevirtual 99, 3) := by decide +kernel
theorem dX4_way_37 : decode cX4_way 37 = .ok (.lreturn, 1) := by decide +kernel
set_option maxRecDepth 20000 in
theorem ggX4_take_X3_hasWay : GoodIn wsX4_take wsX3_hasWay := goodIn_r _ [9, 10, 36, 37, 38, 39, 40, 41] (by decide +kernel) (by decide +kernel)
set_option maxRecDepth 20000 in
theorem gX4_take_X3_hasWay : GoodIn wsX4_take (wsV RX4 93 RX3 yX3_hasWay wsX3_hasWay) := goodIn_app (goodIn_of _ (by decide +kernel)) ggX4_take_X3_hasWay
set_option maxRecDepth 20000 in
theorem ggX4_take_X3_numberIn : GoodIn wsX4_take wsX3_numberIn := goodIn_r _ [14, 15, 36, 37, 38, 39, 40, 41] (by decide +kernel) (by decide +kernel)
set_option maxRecDepth 20000 in
theorem gX4_take_X3_numberIn : GoodIn wsX4_take (wsV RX4 99 RX3 yX3_numberIn wsX3_numberIn) := goodIn_app (goodIn_of _ (by decide +kernel)) ggX4_take_X3_numberIn
set_option maxRecDepth 20000 in
theorem ggX4_take_X1_setNumber : GoodIn wsX4_take wsX1_setNumber := goodIn_r _ [20, 21, 22, 23, 42, 43, 44, 45, 46, 47, 48] (by decide +kernel) (by decide +kernel)
set_option maxRecDepth 20000 in
theorem gX4_take_X1_setNumber : GoodIn wsX4_take (wsV RX4 106 RX1 yX1_setNumber wsX1_setNumber) := goodIn_app (goodIn_of _ (by decide +kernel)) ggX4_take_X1_setNumber
set_option maxRecDepth 20000 in
theorem ggX4_take_X3_endWays : GoodIn wsX4_take wsX3_endWays := goodIn_r _ [27, 28, 10, 36, 37, 38, 39, 40, 41] (by decide +kernel) (by decide +kernel)
set_option maxRecDepth 20000 in
theorem gX4_take_X3_endWays : GoodIn wsX4_take (wsV RX4 51 RX3 yX3_endWays wsX3_endWays) := goodIn_app (goodIn_of _ (by decide +kernel)) ggX4_take_X3_endWays
theorem dX4_take_0 : decode cX4_take 0 = .ok (.aload_n 0, 1) := by decide +kernel
theorem dX4_take_1 : decode cX4_take 1 = .ok (.getfield 33, 3) := by decide +kernel
theorem dX4_take_4 : decode cX4_take 4 = .ok (.iload_n 1, 1) := by decide +kernel
theorem dX4_take_5 : decode cX4_take 5 = .ok (.invokevirtual 93, 3) := by decide +kernel
theorem dX4_take_8 : decode cX4_take 8 = .ok (.ifCond .ne 5, 3) := by decide +kernel
theorem dX4_take_11 : decode cX4_take 11 = .ok (.iconst 0, 1) := by decide +kernel
theorem dX4_take_12 : decode cX4_take 12 = .ok (.ireturn, 1) := by decide +kernel
theorem dX4_take_13 : decode cX4_take 13 = .ok (.iconst 0, 1) := by decide +kernel
theorem dX4_take_14 : decode cX4_take 14 = .ok (.istore_n 2, 1) := by decide +kernel
theorem dX4_take_15 : decode cX4_take 15 = .ok (.iload_n 2, 1) := by decide +kernel
theorem dX4_take_16 : decode cX4_take 16 = .ok (.aload_n 0, 1) := by decide +kernel
theorem dX4_take_17 : decode cX4_take 17 = .ok (.getfield 33, 3) := by decide +kernel
theorem dX4_take_20 : decode cX4_take 20 = .ok (.getfield 96, 3) := by decide +kernel
theorem dX4_take_23 : decode cX4_take 23 = .ok (.if_icmp .ge 34, 3) := by decide +kernel
theorem dX4_take_26 : decode cX4_take 26 = .ok (.aload_n 0, 1) := by decide +kernel
theorem dX4_take_27 : decode cX4_take 27 = .ok (.getfield 10, 3) := by decide +kernel
theorem dX4_take_30 : decode cX4_take 30 = .ok (.aload_n 0, 1) := by decide +kernel
theorem dX4_take_31 : decode cX4_take 31 = .ok (.getfield 33, 3) := by decide +kernel
theorem dX4_take_34 : decode cX4_take 34 = .ok (.getfield 103, 3) := by decide +kernel
theorem dX4_take_37 : decode cX4_take 37 = .ok (.iload_n 2, 1) := by decide +kernel
theorem dX4_take_38 : decode cX4_take 38 = .ok (.iaload, 1) := by decide +kernel
theorem dX4_take_39 : decode cX4_take 39 = .ok (.aload_n 0, 1) := by decide +kernel
theorem dX4_take_40 : decode cX4_take 40 = .ok (.getfield 33, 3) := by decide +kernel
theorem dX4_take_43 : decode cX4_take 43 = .ok (.iload_n 1, 1) := by decide +kernel
theorem dX4_take_44 : decode cX4_take 44 = .ok (.iload_n 2, 1) := by decide +kernel
theorem dX4_take_45 : decode cX4_take 45 = .ok (.invokevirtual 99, 3) := by decide +kernel
theorem dX4_take_48 : decode cX4_take 48 = .ok (.invokevirtual 106, 3) := by decide +kernel
theorem dX4_take_51 : decode cX4_take 51 = .ok (.iinc 2 1, 3) := by decide +kernel
theorem dX4_take_54 : decode cX4_take 54 = .ok (.goto (-39), 3) := by decide +kernel
theorem dX4_take_57 : decode cX4_take 57 = .ok (.aload_n 0, 1) := by decide +kernel
theorem dX4_take_58 : decode cX4_take 58 = .ok (.getfield 33, 3) := by decide +kernel
theorem dX4_take_61 : decode cX4_take 61 = .ok (.invokevirtual 51, 3) := by decide +kernel
theorem dX4_take_64 : decode cX4_take 64 = .ok (.iconst 1, 1) := by decide +kernel
theorem dX4_take_65 : decode cX4_take 65 = .ok (.ireturn, 1) := by decide +kernel
set_option maxRecDepth 20000 in
theorem ggX4_mark_Jx4a65c_size_8abf5 : GoodIn wsX4_mark wsJx4a65c_size_8abf5 := goodIn_r _ [14, 15, 119, 120, 121] (by decide +kernel) (by decide +kernel)
set_option maxRecDepth 20000 in
theorem gX4_mark_Jx4a65c_size_8abf5 : GoodIn wsX4_mark (wsV RX4 109 RJx4a65c yJx4a65c_size_8abf5 wsJx4a65c_size_8abf5) := goodIn_app (goodIn_of _ (by decide +kernel)) ggX4_mark_Jx4a65c_size_8abf5
set_option maxRecDepth 20000 in
theorem ggX4_mark_X1_init : GoodIn wsX4_mark wsX1_init := goodIn_r _ [17, 18, 19, 20, 21, 22, 23, 24, 25, 26, 27, 28, 29, 112, 113, 114, 115, 116, 117, 118] (by decide +kernel) (by decide +kernel)
set_option maxRecDepth 20000 in
theorem gX4_mark_X1_init_n9 : GoodIn wsX4_mark (wsX1_init) := ggX4_mark_X1_init
set_option maxRecDepth 20000 in
theorem ggX4_mark_Jx4a65c_add_9ea2d : GoodIn wsX4_mark wsJx4a65c_add_9ea2d := goodIn_r _ [33, 34, 35, 36, 15, 37, 38, 39, 13, 40, 41, 42, 43, 44, 45, 46, 47, 48, 49, 50, 51, 52, 53, 54, 55, 56, 57, 58, 59, 60, 61, 62, 63, 64, 65, 66, 67, 68, 69, 70, 71, 72, 73, 74, 75, 76, 77, 78, 79, 80, 81, 82, 83, 119, 120, 121] (by decide +kernel) (by decide +kernel)
set_option maxRecDepth 20000 in
theorem gX4_mark_Jx4a65c_add_9ea2d : GoodIn wsX4_mark (wsV RX4 111 RJx4a65c yJx4a65c_add_9ea2d wsJx4a65c_add_9ea2d) := goodIn_app (goodIn_of _ (by decide +kernel)) ggX4_mark_Jx4a65c_add_9ea2d
set_option maxRecDepth 20000 in
theorem ggX4_mark_Jx4a65c_get_915e3 : GoodIn wsX4_mark wsJx4a65c_get_915e3 := goodIn_r _ [87, 15, 88, 89, 90, 91, 92, 93, 94, 95, 96, 97, 98, 13, 99, 36, 119, 120, 121] (by decide +kernel) (by decide +kernel)
set_option maxRecDepth 20000 in
theorem gX4_mark_Jx4a65c_get_915e3 : GoodIn wsX4_mark (wsV RX4 115 RJx4a65c yJx4a65c_get_915e3 wsJx4a65c_get_915e3) := goodIn_app (goodIn_of _ (by decide +kernel)) ggX4_mark_Jx4a65c_get_915e3
set_option maxRecDepth 20000 in
theorem ggX4_mark_X1_copyFrom : GoodIn wsX4_mark wsX1_copyFrom := goodIn_r _ [103, 104, 22, 24, 26, 27, 28, 29, 112, 113, 114, 115, 116, 117, 118] (by decide +kernel) (by decide +kernel)
set_option maxRecDepth 20000 in
theorem gX4_mark_X1_copyFrom : GoodIn wsX4_mark (wsV RX4 119 RX1 yX1_copyFrom wsX1_copyFrom) := goodIn_app (goodIn_of _ (by decide +kernel)) ggX4_mark_X1_copyFrom
theorem dX4_mark_0 : decode cX4_mark 0 = .ok (.aload_n 0, 1) := by decide +kernel
theorem dX4_mark_1 : decode cX4_mark 1 = .ok (.getfield 44, 3) := by decide +kernel
theorem dX4_mark_4 : decode cX4_mark 4 = .ok (.bipush 40, 2) := by decide +kernel
theorem dX4_mark_6 : decode cX4_mark 6 = .ok (.if_icmp .lt 5, 3) := by decide +kernel
theorem dX4_mark_9 : decode cX4_mark 9 = .ok (.iconst (-1), 1) := by decide +kernel
theorem dX4_mark_10 : decode cX4_mark 10 = .ok (.ireturn, 1) := by decide +kernel
theorem dX4_mark_11 : decode cX4_mark 11 = .ok (.aload_n 0, 1) := by decide +kernel
theorem dX4_mark_12 : decode cX4_mark 12 = .ok (.getfield 44, 3) := by decide +kernel
theorem dX4_mark_15 : decode cX4_mark 15 = .ok (.aload_n 0, 1) := by decide +kernel
theorem dX4_mark_16 : decode cX4_mark 16 = .ok (.getfield 37, 3) := by decide +kernel
theorem dX4_mark_19 : decode cX4_mark 19 = .ok (.invokevirtual 109, 3) := by decide +kernel
theorem dX4_mark_22 : decode cX4_mark 22 = .ok (.if_icmp .lt 18, 3) := by decide +kernel
theorem dX4_mark_25 : decode cX4_mark 25 = .ok (.aload_n 0, 1) := by decide +kernel
theorem dX4_mark_26 : decode cX4_mark 26 = .ok (.getfield 37, 3) := by decide +kernel
theorem dX4_mark_29 : decode cX4_mark 29 = .ok (.new 7, 3) := by decide +kernel
theorem dX4_mark_32 : decode cX4_mark 32 = .ok (.dup, 1) := by decide +kernel
theorem dX4_mark_33 : decode cX4_mark 33 = .ok (.invokespecial 9, 3) := by decide +kernel
theorem dX4_mark_36 : decode cX4_mark 36 = .ok (.invokevirtual 111, 3) := by decide +kernel
theorem dX4_mark_39 : decode cX4_mark 39 = .ok (.pop, 1) := by decide +kernel
theorem dX4_mark_40 : decode cX4_mark 40 = .ok (.aload_n 0, 1) := by decide +kernel
theorem dX4_mark_41 : decode cX4_mark 41 = .ok (.getfield 37, 3) := by decide +kernel
theorem dX4_mark_44 : decode cX4_mark 44 = .ok (.aload_n 0, 1) := by decide +kernel
theorem dX4_mark_45 : decode cX4_mark 45 = .ok (.getfield 44, 3) := by decide +kernel
theorem dX4_mark_48 : decode cX4_mark 48 = .ok (.invokevirtual 115, 3) := by decide +kernel
theorem dX4_mark_51 : decode cX4_mark 51 = .ok (.checkcast 7, 3) := by decide +kernel
theorem dX4_mark_54 : decode cX4_mark 54 = .ok (.aload_n 0, 1) := by decide +kernel
theorem dX4_mark_55 : decode cX4_mark 55 = .ok (.getfield 10, 3) := by decide +kernel
theorem dX4_mark_58 : decode cX4_mark 58 = .ok (.invokevirtual 119, 3) := by decide +kernel
theorem dX4_mark_61 : decode cX4_mark 61 = .ok (.aload_n 0, 1) := by decide +kernel
theorem dX4_mark_62 : decode cX4_mark 62 = .ok (.getfield 40, 3) := by decide +kernel
theorem dX4_mark_65 : decode cX4_mark 65 = .ok (.aload_n 0, 1) := by decide +kernel
theorem dX4_mark_66 : decode cX4_mark 66 = .ok (.getfield 44, 3) := by decide +kernel
theorem dX4_mark_69 : decode cX4_mark 69 = .ok (.aload_n 0, 1) := by decide +kernel
theorem dX4_mark_70 : decode cX4_mark 70 = .ok (.getfield 26, 3) := by decide +kernel
theorem dX4_mark_73 : decode cX4_mark 73 = .ok (.invokevirtual 109, 3) := by decide +kernel
theorem dX4_mark_76 : decode cX4_mark 76 = .ok (.iastore, 1) := by decide +kernel
theorem dX4_mark_77 : decode cX4_mark 77 = .ok (.aload_n 0, 1) := by decide +kernel
theorem dX4_mark_78 : decode cX4_mark 78 = .ok (.dup, 1) := by decide +kernel
theorem dX4_mark_79 : decode cX4_mark 79 = .ok (.getfield 44, 3) := by decide +kernel
theorem dX4_mark_82 : decode cX4_mark 82 = .ok (.iconst 1, 1) := by decide +kernel
theorem dX4_mark_83 : decode cX4_mark 83 = .ok (.iadd, 1) := by decide +kernel
theorem dX4_mark_84 : decode cX4_mark 84 = .ok (.putfield 44, 3) := by decide +kernel
theorem dX4_mark_87 : decode cX4_mark 87 = .ok (.aload_n 0, 1) := by decide +kernel
theorem dX4_mark_88 : decode cX4_mark 88 = .ok (.getfield 44, 3) := by decide +kernel
theorem dX4_mark_91 : decode cX4_mark 91 = .ok (.ireturn, 1) := by decide +kernel
set_option maxRecDepth 20000 in
theorem ggX4_back_Jx4a65c_size_8abf5 : GoodIn wsX4_back wsJx4a65c_size_8abf5 := goodIn_r _ [13, 14, 83, 84, 85] (by decide +kernel) (by decide +kernel)
set_option maxRecDepth 20000 in
theorem gX4_back_Jx4a65c_size_8abf5 : GoodIn wsX4_back (wsV RX4 109 RJx4a65c yJx4a65c_size_8abf5 wsJx4a65c_size_8abf5) := goodIn_app (goodIn_of _ (by decide +kernel)) ggX4_back_Jx4a65c_size_8abf5
set_option maxRecDepth 20000 in
theorem ggX4_back_Jx4a65c_get_915e3 : GoodIn wsX4_back wsJx4a65c_get_915e3 := goodIn_r _ [18, 14, 19, 20, 21, 22, 23, 24, 25, 26, 27, 28, 29, 12, 30, 31, 83, 84, 85] (by decide +kernel) (by decide +kernel)
set_option maxRecDepth 20000 in
theorem gX4_back_Jx4a65c_get_915e3 : GoodIn wsX4_back (wsV RX4 115 RJx4a65c yJx4a65c_get_915e3 wsJx4a65c_get_915e3) := goodIn_app (goodIn_of _ (by decide +kernel)) ggX4_back_Jx4a65c_get_915e3
set_option maxRecDepth 20000 in
theorem ggX4_back_X1_copyFrom : GoodIn wsX4_back wsX1_copyFrom := goodIn_r _ [36, 37, 38, 39, 40, 41, 42, 43, 86, 87, 88, 89, 90, 91, 92] (by decide +kernel) (by decide +kernel)
set_option maxRecDepth 20000 in
theorem gX4_back_X1_copyFrom : GoodIn wsX4_back (wsV RX4 119 RX1 yX1_copyFrom wsX1_copyFrom) := goodIn_app (goodIn_of _ (by decide +kernel)) ggX4_back_X1_copyFrom
set_option maxRecDepth 20000 in
theorem ggX4_back_Jx4a65c_remove_915e3 : GoodIn wsX4_back wsJx4a65c_remove_915e3 := goodIn_r _ [47, 14, 31, 19, 20, 21, 22, 23, 24, 25, 26, 48, 49, 50, 12, 51, 52, 53, 54, 55, 56, 57, 83, 84, 85] (by decide +kernel) (by decide +kernel)
set_option maxRecDepth 20000 in
theorem gX4_back_Jx4a65c_remove_915e3 : GoodIn wsX4_back (wsV RX4 123 RJx4a65c yJx4a65c_remove_915e3 wsJx4a65c_remove_915e3) := goodIn_app (goodIn_of _ (by decide +kernel)) ggX4_back_Jx4a65c_remove_915e3
set_option maxRecDepth 20000 in
theorem ggX4_back_X2_cutAtFirstGone : GoodIn wsX4_back wsX2_cutAtFirstGone := goodIn_r _ [62, 63, 64, 65, 66, 67, 35, 68, 37, 93, 94, 95, 86, 87, 88, 89, 90, 91, 92] (by decide +kernel) (by decide +kernel)
set_option maxRecDepth 20000 in
theorem gX4_back_X2_cutAtFirstGone : GoodIn wsX4_back (wsV RX4 126 RX2 yX2_cutAtFirstGone wsX2_cutAtFirstGone) := goodIn_app (goodIn_of _ (by decide +kernel)) ggX4_back_X2_cutAtFirstGone
set_option maxRecDepth 20000 in
theorem ggX4_back_X3_endWays : GoodIn wsX4_back wsX3_endWays := goodIn_r _ [73, 74, 75, 96, 97, 98, 99, 100, 101] (by decide +kernel) (by decide +kernel)
set_option maxRecDepth 20000 in
theorem gX4_back_X3_endWays : GoodIn wsX4_back (wsV RX4 51 RX3 yX3_endWays wsX3_endWays) := goodIn_app (goodIn_of _ (by decide +kernel)) ggX4_back_X3_endWays
theorem dX4_back_0 : decode cX4_back 0 = .ok (.aload_n 0, 1) := by decide +kernel
theorem dX4_back_1 : decode cX4_back 1 = .ok (.getfield 44, 3) := by decide +kernel
theorem dX4_back_4 : decode cX4_back 4 = .ok (.ifCond .le 17, 3) := by decide +kernel
theorem dX4_back_7 : decode cX4_back 7 = .ok (.aload_n 0, 1) := by decide +kernel
theorem dX4_back_8 : decode cX4_back 8 = .ok (.getfield 44, 3) := by decide +kernel
theorem dX4_back_11 : decode cX4_back 11 = .ok (.aload_n 0, 1) := by decide +kernel
theorem dX4_back_12 : decode cX4_back 12 = .ok (.getfield 37, 3) := by decide +kernel
theorem dX4_back_15 : decode cX4_back 15 = .ok (.invokevirtual 109, 3) := by decide +kernel
theorem dX4_back_18 : decode cX4_back 18 = .ok (.if_icmp .le 5, 3) := by decide +kernel
theorem dX4_back_21 : decode cX4_back 21 = .ok (.iconst (-1), 1) := by decide +kernel
theorem dX4_back_22 : decode cX4_back 22 = .ok (.ireturn, 1) := by decide +kernel
theorem dX4_back_23 : decode cX4_back 23 = .ok (.aload_n 0, 1) := by decide +kernel
theorem dX4_back_24 : decode cX4_back 24 = .ok (.dup, 1) := by decide +kernel
theorem dX4_back_25 : decode cX4_back 25 = .ok (.getfield 44, 3) := by decide +kernel
theorem dX4_back_28 : decode cX4_back 28 = .ok (.iconst 1, 1) := by decide +kernel
theorem dX4_back_29 : decode cX4_back 29 = .ok (.isub, 1) := by decide +kernel
theorem dX4_back_30 : decode cX4_back 30 = .ok (.putfield 44, 3) := by decide +kernel
theorem dX4_back_33 : decode cX4_back 33 = .ok (.aload_n 0, 1) := by decide +kernel
theorem dX4_back_34 : decode cX4_back 34 = .ok (.getfield 10, 3) := by decide +kernel
theorem dX4_back_37 : decode cX4_back 37 = .ok (.aload_n 0, 1) := by decide +kernel
theorem dX4_back_38 : decode cX4_back 38 = .ok (.getfield 37, 3) := by decide +kernel
theorem dX4_back_41 : decode cX4_back 41 = .ok (.aload_n 0, 1) := by decide +kernel
theorem dX4_back_42 : decode cX4_back 42 = .ok (.getfield 44, 3) := by decide +kernel
theorem dX4_back_45 : decode cX4_back 45 = .ok (.invokevirtual 115, 3) := by decide +kernel
theorem dX4_back_48 : decode cX4_back 48 = .ok (.checkcast 7, 3) := by decide +kernel
theorem dX4_back_51 : decode cX4_back 51 = .ok (.invokevirtual 119, 3) := by decide +kernel
theorem dX4_back_54 : decode cX4_back 54 = .ok (.aload_n 0, 1) := by decide +kernel
theorem dX4_back_55 : decode cX4_back 55 = .ok (.getfield 26, 3) := by decide +kernel
theorem dX4_back_58 : decode cX4_back 58 = .ok (.invokevirtual 109, 3) := by decide +kernel
theorem dX4_back_61 : decode cX4_back 61 = .ok (.iconst 1, 1) := by decide +kernel
theorem dX4_back_62 : decode cX4_back 62 = .ok (.isub, 1) := by decide +kernel
theorem dX4_back_63 : decode cX4_back 63 = .ok (.istore_n 1, 1) := by decide +kernel
theorem dX4_back_64 : decode cX4_back 64 = .ok (.iload_n 1, 1) := by decide +kernel
theorem dX4_back_65 : decode cX4_back 65 = .ok (.aload_n 0, 1) := by decide +kernel
theorem dX4_back_66 : decode cX4_back 66 = .ok (.getfield 40, 3) := by decide +kernel
theorem dX4_back_69 : decode cX4_back 69 = .ok (.aload_n 0, 1) := by decide +kernel
theorem dX4_back_70 : decode cX4_back 70 = .ok (.getfield 44, 3) := by decide +kernel
theorem dX4_back_73 : decode cX4_back 73 = .ok (.iaload, 1) := by decide +kernel
theorem dX4_back_74 : decode cX4_back 74 = .ok (.if_icmp .lt 18, 3) := by decide +kernel
theorem dX4_back_77 : decode cX4_back 77 = .ok (.aload_n 0, 1) := by decide +kernel
theorem dX4_back_78 : decode cX4_back 78 = .ok (.getfield 26, 3) := by decide +kernel
theorem dX4_back_81 : decode cX4_back 81 = .ok (.iload_n 1, 1) := by decide +kernel
theorem dX4_back_82 : decode cX4_back 82 = .ok (.invokevirtual 123, 3) := by decide +kernel
theorem dX4_back_85 : decode cX4_back 85 = .ok (.pop, 1) := by decide +kernel
theorem dX4_back_86 : decode cX4_back 86 = .ok (.iinc 1 (-1), 3) := by decide +kernel
theorem dX4_back_89 : decode cX4_back 89 = .ok (.goto (-25), 3) := by decide +kernel
theorem dX4_back_92 : decode cX4_back 92 = .ok (.aload_n 0, 1) := by decide +kernel
theorem dX4_back_93 : decode cX4_back 93 = .ok (.getfield 19, 3) := by decide +kernel
theorem dX4_back_96 : decode cX4_back 96 = .ok (.aload_n 0, 1) := by decide +kernel
theorem dX4_back_97 : decode cX4_back 97 = .ok (.getfield 10, 3) := by decide +kernel
theorem dX4_back_100 : decode cX4_back 100 = .ok (.invokevirtual 126, 3) := by decide +kernel
theorem dX4_back_103 : decode cX4_back 103 = .ok (.aload_n 0, 1) := by decide +kernel
theorem dX4_back_104 : decode cX4_back 104 = .ok (.getfield 33, 3) := by decide +kernel
theorem dX4_back_107 : decode cX4_back 107 = .ok (.invokevirtual 51, 3) := by decide +kernel
theorem dX4_back_110 : decode cX4_back 110 = .ok (.aload_n 0, 1) := by decide +kernel
theorem dX4_back_111 : decode cX4_back 111 = .ok (.getfield 44, 3) := by decide +kernel
theorem dX4_back_114 : decode cX4_back 114 = .ok (.ireturn, 1) := by decide +kernel
set_option maxRecDepth 20000 in
theorem ggX4_about_X1_has : GoodIn wsX4_about wsX1_has := goodIn_r _ [7, 8, 87, 88, 89, 90, 91, 92, 93] (by decide +kernel) (by decide +kernel)
set_option maxRecDepth 20000 in
theorem gX4_about_X1_has : GoodIn wsX4_about (wsV RX4 58 RX1 yX1_has wsX1_has) := goodIn_app (goodIn_of _ (by decide +kernel)) ggX4_about_X1_has
set_option maxRecDepth 20000 in
theorem ggX4_about_X1_freedom : GoodIn wsX4_about wsX1_freedom := goodIn_r _ [12, 13, 14, 15, 6, 16, 17, 18, 19, 20, 21, 22, 23, 87, 88, 89, 90, 91, 92, 93] (by decide +kernel) (by decide +kernel)
set_option maxRecDepth 20000 in
theorem gX4_about_X1_freedom : GoodIn wsX4_about (wsV RX4 129 RX1 yX1_freedom wsX1_freedom) := goodIn_app (goodIn_of _ (by decide +kernel)) ggX4_about_X1_freedom
set_option maxRecDepth 20000 in
theorem ggX4_about_X1_leastOf : GoodIn wsX4_about wsX1_leastOf := goodIn_r _ [27, 18, 87, 88, 89, 90, 91, 92, 93] (by decide +kernel) (by decide +kernel)
set_option maxRecDepth 20000 in
theorem gX4_about_X1_leastOf : GoodIn wsX4_about (wsV RX4 133 RX1 yX1_leastOf wsX1_leastOf) := goodIn_app (goodIn_of _ (by decide +kernel)) ggX4_about_X1_leastOf
set_option maxRecDepth 20000 in
theorem ggX4_about_X1_countOnes : GoodIn wsX4_about wsX1_countOnes := goodIn_r _ [31, 8, 18, 87, 88, 89, 90, 91, 92, 93] (by decide +kernel) (by decide +kernel)
set_option maxRecDepth 20000 in
theorem gX4_about_X1_countOnes : GoodIn wsX4_about (wsV RX4 136 RX1 yX1_countOnes wsX1_countOnes) := goodIn_app (goodIn_of _ (by decide +kernel)) ggX4_about_X1_countOnes
set_option maxRecDepth 20000 in
theorem ggX4_about_X4_countRowsWith : GoodIn wsX4_about wsX4_countRowsWith := goodIn_r _ [36, 37, 38, 1, 39, 40, 41, 42, 43, 44, 45, 46, 47, 48, 49, 50, 51, 52, 53, 54, 55, 56, 57, 58, 59, 60, 61, 62, 63, 64, 65, 66, 67, 68, 25, 26, 6, 27, 18, 80, 81, 82, 83, 84, 85, 86, 94, 95, 96, 97, 98, 99, 100, 87, 88, 89, 90, 91, 92, 93] (by decide +kernel) (by decide +kernel)
set_option maxRecDepth 20000 in
theorem gX4_about_X4_countRowsWith : GoodIn wsX4_about (wsV RX4 139 RX4 yX4_countRowsWith wsX4_countRowsWith) := goodIn_app (goodIn_of _ (by decide +kernel)) ggX4_about_X4_countRowsWith
set_option maxRecDepth 20000 in
theorem ggX4_about_X3_isFreeName : GoodIn wsX4_about wsX3_isFreeName := goodIn_r _ [73, 74, 75, 76, 72, 77, 78, 79, 101, 102, 103, 104, 105, 106] (by decide +kernel) (by decide +kernel)
set_option maxRecDepth 20000 in
theorem gX4_about_X3_isFreeName : GoodIn wsX4_about (wsV RX4 142 RX3 yX3_isFreeName wsX3_isFreeName) := goodIn_app (goodIn_of _ (by decide +kernel)) ggX4_about_X3_isFreeName
theorem dX4_about_0 : decode cX4_about 0 = .ok (.aload_n 0, 1) := by decide +kernel
theorem dX4_about_1 : decode cX4_about 1 = .ok (.getfield 10, 3) := by decide +kernel
theorem dX4_about_4 : decode cX4_about 4 = .ok (.iload_n 1, 1) := by decide +kernel
theorem dX4_about_5 : decode cX4_about 5 = .ok (.invokevirtual 58, 3) := by decide +kernel
theorem dX4_about_8 : decode cX4_about 8 = .ok (.ifCond .ne 5, 3) := by decide +kernel
theorem dX4_about_11 : decode cX4_about 11 = .ok (.iconst (-1), 1) := by decide +kernel
theorem dX4_about_12 : decode cX4_about 12 = .ok (.ireturn, 1) := by decide +kernel
theorem dX4_about_13 : decode cX4_about 13 = .ok (.iload_n 2, 1) := by decide +kernel
theorem dX4_about_14 : decode cX4_about 14 = .ok (.tableswitch 91 0 4 #[34, 43, 52, 61, 67], 34) := by decide +kernel
theorem dX4_about_48 : decode cX4_about 48 = .ok (.aload_n 0, 1) := by decide +kernel
theorem dX4_about_49 : decode cX4_about 49 = .ok (.getfield 10, 3) := by decide +kernel
theorem dX4_about_52 : decode cX4_about 52 = .ok (.iload_n 1, 1) := by decide +kernel
theorem dX4_about_53 : decode cX4_about 53 = .ok (.invokevirtual 129, 3) := by decide +kernel
theorem dX4_about_56 : decode cX4_about 56 = .ok (.ireturn, 1) := by decide +kernel
theorem dX4_about_57 : decode cX4_about 57 = .ok (.aload_n 0, 1) := by decide +kernel
theorem dX4_about_58 : decode cX4_about 58 = .ok (.getfield 10, 3) := by decide +kernel
theorem dX4_about_61 : decode cX4_about 61 = .ok (.iload_n 1, 1) := by decide +kernel
theorem dX4_about_62 : decode cX4_about 62 = .ok (.invokevirtual 133, 3) := by decide +kernel
theorem dX4_about_65 : decode cX4_about 65 = .ok (.ireturn, 1) := by decide +kernel
theorem dX4_about_66 : decode cX4_about 66 = .ok (.aload_n 0, 1) := by decide +kernel
theorem dX4_about_67 : decode cX4_about 67 = .ok (.getfield 10, 3) := by decide +kernel
theorem dX4_about_70 : decode cX4_about 70 = .ok (.iload_n 1, 1) := by decide +kernel
theorem dX4_about_71 : decode cX4_about 71 = .ok (.invokevirtual 136, 3) := by decide +kernel
theorem dX4_about_74 : decode cX4_about 74 = .ok (.ireturn, 1) := by decide +kernel
theorem dX4_about_75 : decode cX4_about 75 = .ok (.aload_n 0, 1) := by decide +kernel
theorem dX4_about_76 : decode cX4_about 76 = .ok (.iload_n 1, 1) := by decide +kernel
theorem dX4_about_77 : decode cX4_about 77 = .ok (.invokevirtual 139, 3) := by decide +kernel
theorem dX4_about_80 : decode cX4_about 80 = .ok (.ireturn, 1) := by decide +kernel
theorem dX4_about_81 : decode cX4_about 81 = .ok (.aload_n 0, 1) := by decide +kernel
theorem dX4_about_82 : decode cX4_about 82 = .ok (.getfield 33, 3) := by decide +kernel
theorem dX4_about_85 : decode cX4_about 85 = .ok (.aload_n 0, 1) := by decide +kernel
theorem dX4_about_86 : decode cX4_about 86 = .ok (.getfield 10, 3) := by decide +kernel
theorem dX4_about_89 : decode cX4_about 89 = .ok (.iload_n 1, 1) := by decide +kernel
theorem dX4_about_90 : decode cX4_about 90 = .ok (.invokevirtual 133, 3) := by decide +kernel
theorem dX4_about_93 : decode cX4_about 93 = .ok (.invokevirtual 142, 3) := by decide +kernel
theorem dX4_about_96 : decode cX4_about 96 = .ok (.ifCond .eq 7, 3) := by decide +kernel
theorem dX4_about_99 : decode cX4_about 99 = .ok (.iconst 1, 1) := by decide +kernel
theorem dX4_about_100 : decode cX4_about 100 = .ok (.goto 4, 3) := by decide +kernel
theorem dX4_about_103 : decode cX4_about 103 = .ok (.iconst 0, 1) := by decide +kernel
theorem dX4_about_104 : decode cX4_about 104 = .ok (.ireturn, 1) := by decide +kernel
theorem dX4_about_105 : decode cX4_about 105 = .ok (.iconst (-1), 1) := by decide +kernel
theorem dX4_about_106 : decode cX4_about 106 = .ok (.ireturn, 1) := by decide +kernel
set_option maxRecDepth 20000 in
theorem ggX4_bound_X1_has : GoodIn wsX4_bound wsX1_has := goodIn_r _ [6, 7, 36, 37, 38, 39, 40, 41, 42] (by decide +kernel) (by decide +kernel)
set_option maxRecDepth 20000 in
theorem gX4_bound_X1_has : GoodIn wsX4_bound (wsV RX4 58 RX1 yX1_has wsX1_has) := goodIn_app (goodIn_of _ (by decide +kernel)) ggX4_bound_X1_has
set_option maxRecDepth 20000 in
theorem ggX4_bound_X1_isKnown : GoodIn wsX4_bound wsX1_isKnown := goodIn_r _ [11, 12, 13, 36, 37, 38, 39, 40, 41, 42] (by decide +kernel) (by decide +kernel)
set_option maxRecDepth 20000 in
theorem gX4_bound_X1_isKnown : GoodIn wsX4_bound (wsV RX4 145 RX1 yX1_isKnown wsX1_isKnown) := goodIn_app (goodIn_of _ (by decide +kernel)) ggX4_bound_X1_isKnown
set_option maxRecDepth 20000 in
theorem ggX4_bound_X1_numberOf : GoodIn wsX4_bound wsX1_numberOf := goodIn_r _ [17, 18, 13, 36, 37, 38, 39, 40, 41, 42] (by decide +kernel) (by decide +kernel)
set_option maxRecDepth 20000 in
theorem gX4_bound_X1_numberOf : GoodIn wsX4_bound (wsV RX4 148 RX1 yX1_numberOf wsX1_numberOf) := goodIn_app (goodIn_of _ (by decide +kernel)) ggX4_bound_X1_numberOf
set_option maxRecDepth 20000 in
theorem ggX4_bound_X1_highOf : GoodIn wsX4_bound wsX1_highOf := goodIn_r _ [22, 23, 13, 36, 37, 38, 39, 40, 41, 42] (by decide +kernel) (by decide +kernel)
set_option maxRecDepth 20000 in
theorem gX4_bound_X1_highOf : GoodIn wsX4_bound (wsV RX4 152 RX1 yX1_highOf wsX1_highOf) := goodIn_app (goodIn_of _ (by decide +kernel)) ggX4_bound_X1_highOf
set_option maxRecDepth 20000 in
theorem ggX4_bound_X1_lowOf : GoodIn wsX4_bound wsX1_lowOf := goodIn_r _ [27, 28, 13, 36, 37, 38, 39, 40, 41, 42] (by decide +kernel) (by decide +kernel)
set_option maxRecDepth 20000 in
theorem gX4_bound_X1_lowOf : GoodIn wsX4_bound (wsV RX4 155 RX1 yX1_lowOf wsX1_lowOf) := goodIn_app (goodIn_of _ (by decide +kernel)) ggX4_bound_X1_lowOf
theorem dX4_bound_0 : decode cX4_bound 0 = .ok (.aload_n 0, 1) := by decide +kernel
theorem dX4_bound_1 : decode cX4_bound 1 = .ok (.getfield 10, 3) := by decide +kernel
theorem dX4_bound_4 : decode cX4_bound 4 = .ok (.iload_n 1, 1) := by decide +kernel
theorem dX4_bound_5 : decode cX4_bound 5 = .ok (.invokevirtual 58, 3) := by decide +kernel
theorem dX4_bound_8 : decode cX4_bound 8 = .ok (.ifCond .ne 5, 3) := by decide +kernel
theorem dX4_bound_11 : decode cX4_bound 11 = .ok (.lconst 0, 1) := by decide +kernel
theorem dX4_bound_12 : decode cX4_bound 12 = .ok (.lreturn, 1) := by decide +kernel
theorem dX4_bound_13 : decode cX4_bound 13 = .ok (.aload_n 0, 1) := by decide +kernel
theorem dX4_bound_14 : decode cX4_bound 14 = .ok (.getfield 10, 3) := by decide +kernel
theorem dX4_bound_17 : decode cX4_bound 17 = .ok (.iload_n 1, 1) := by decide +kernel
theorem dX4_bound_18 : decode cX4_bound 18 = .ok (.invokevirtual 145, 3) := by decide +kernel
theorem dX4_bound_21 : decode cX4_bound 21 = .ok (.ifCond .eq 12, 3) := by decide +kernel
theorem dX4_bound_24 : decode cX4_bound 24 = .ok (.aload_n 0, 1) := by decide +kernel
theorem dX4_bound_25 : decode cX4_bound 25 = .ok (.getfield 10, 3) := by decide +kernel
theorem dX4_bound_28 : decode cX4_bound 28 = .ok (.iload_n 1, 1) := by decide +kernel
theorem dX4_bound_29 : decode cX4_bound 29 = .ok (.invokevirtual 148, 3) := by decide +kernel
theorem dX4_bound_32 : decode cX4_bound 32 = .ok (.lreturn, 1) := by decide +kernel
theorem dX4_bound_33 : decode cX4_bound 33 = .ok (.iload_n 2, 1) := by decide +kernel
theorem dX4_bound_34 : decode cX4_bound 34 = .ok (.ifCond .eq 14, 3) := by decide +kernel
theorem dX4_bound_37 : decode cX4_bound 37 = .ok (.aload_n 0, 1) := by decide +kernel
theorem dX4_bound_38 : decode cX4_bound 38 = .ok (.getfield 10, 3) := by decide +kernel
theorem dX4_bound_41 : decode cX4_bound 41 = .ok (.iload_n 1, 1) := by decide +kernel
theorem dX4_bound_42 : decode cX4_bound 42 = .ok (.invokevirtual 152, 3) := by decide +kernel
theorem dX4_bound_45 : decode cX4_bound 45 = .ok (.goto 11, 3) := by decide +kernel
theorem dX4_bound_48 : decode cX4_bound 48 = .ok (.aload_n 0, 1) := by decide +kernel
theorem dX4_bound_49 : decode cX4_bound 49 = .ok (.getfield 10, 3) := by decide +kernel
theorem dX4_bound_52 : decode cX4_bound 52 = .ok (.iload_n 1, 1) := by decide +kernel
theorem dX4_bound_53 : decode cX4_bound 53 = .ok (.invokevirtual 155, 3) := by decide +kernel
theorem dX4_bound_56 : decode cX4_bound 56 = .ok (.lreturn, 1) := by decide +kernel
set_option maxRecDepth 20000 in
theorem ggX4_kept_Jx4a65c_size_8abf5 : GoodIn wsX4_kept wsJx4a65c_size_8abf5 := goodIn_r _ [10, 11, 53, 54, 55] (by decide +kernel) (by decide +kernel)
set_option maxRecDepth 20000 in
theorem gX4_kept_Jx4a65c_size_8abf5 : GoodIn wsX4_kept (wsV RX4 109 RJx4a65c yJx4a65c_size_8abf5 wsJx4a65c_size_8abf5) := goodIn_app (goodIn_of _ (by decide +kernel)) ggX4_kept_Jx4a65c_size_8abf5
set_option maxRecDepth 20000 in
theorem ggX4_kept_Jx4a65c_get_915e3 : GoodIn wsX4_kept wsJx4a65c_get_915e3 := goodIn_r _ [15, 11, 16, 17, 18, 19, 20, 21, 22, 23, 24, 25, 26, 9, 27, 28, 53, 54, 55] (by decide +kernel) (by decide +kernel)
set_option maxRecDepth 20000 in
theorem gX4_kept_Jx4a65c_get_915e3 : GoodIn wsX4_kept (wsV RX4 115 RJx4a65c yJx4a65c_get_915e3 wsJx4a65c_get_915e3) := goodIn_app (goodIn_of _ (by decide +kernel)) ggX4_kept_Jx4a65c_get_915e3
set_option maxRecDepth 20000 in
theorem ggX4_kept_X0_countFree : GoodIn wsX4_kept wsX0_countFree := goodIn_r _ [33, 34, 35, 36, 37, 38, 39, 40, 41, 49, 50, 51, 52, 56, 57, 58, 59, 60, 61, 62] (by decide +kernel) (by decide +kernel)
set_option maxRecDepth 20000 in
theorem gX4_kept_X0_countFree : GoodIn wsX4_kept (wsV RX4 166 RX0 yX0_countFree wsX0_countFree) := goodIn_app (goodIn_of _ (by decide +kernel)) ggX4_kept_X0_countFree
theorem dX4_kept_0 : decode cX4_kept 0 = .ok (.iload_n 1, 1) := by decide +kernel
theorem dX4_kept_1 : decode cX4_kept 1 = .ok (.ifCond .lt 14, 3) := by decide +kernel
theorem dX4_kept_4 : decode cX4_kept 4 = .ok (.iload_n 1, 1) := by decide +kernel
theorem dX4_kept_5 : decode cX4_kept 5 = .ok (.aload_n 0, 1) := by decide +kernel
theorem dX4_kept_6 : decode cX4_kept 6 = .ok (.getfield 26, 3) := by decide +kernel
theorem dX4_kept_9 : decode cX4_kept 9 = .ok (.invokevirtual 109, 3) := by decide +kernel
theorem dX4_kept_12 : decode cX4_kept 12 = .ok (.if_icmp .lt 5, 3) := by decide +kernel
theorem dX4_kept_15 : decode cX4_kept 15 = .ok (.iconst (-1), 1) := by decide +kernel
theorem dX4_kept_16 : decode cX4_kept 16 = .ok (.ireturn, 1) := by decide +kernel
theorem dX4_kept_17 : decode cX4_kept 17 = .ok (.aload_n 0, 1) := by decide +kernel
theorem dX4_kept_18 : decode cX4_kept 18 = .ok (.getfield 26, 3) := by decide +kernel
theorem dX4_kept_21 : decode cX4_kept 21 = .ok (.iload_n 1, 1) := by decide +kernel
theorem dX4_kept_22 : decode cX4_kept 22 = .ok (.invokevirtual 115, 3) := by decide +kernel
theorem dX4_kept_25 : decode cX4_kept 25 = .ok (.checkcast 158, 3) := by decide +kernel
theorem dX4_kept_28 : decode cX4_kept 28 = .ok (.astore_n 3, 1) := by decide +kernel
theorem dX4_kept_29 : decode cX4_kept 29 = .ok (.iload_n 2, 1) := by decide +kernel
theorem dX4_kept_30 : decode cX4_kept 30 = .ok (.tableswitch 46 0 2 #[26, 31, 37], 26) := by decide +kernel
theorem dX4_kept_56 : decode cX4_kept 56 = .ok (.aload_n 3, 1) := by decide +kernel
theorem dX4_kept_57 : decode cX4_kept 57 = .ok (.getfield 160, 3) := by decide +kernel
theorem dX4_kept_60 : decode cX4_kept 60 = .ok (.ireturn, 1) := by decide +kernel
theorem dX4_kept_61 : decode cX4_kept 61 = .ok (.aload_n 3, 1) := by decide +kernel
theorem dX4_kept_62 : decode cX4_kept 62 = .ok (.getfield 163, 3) := by decide +kernel
theorem dX4_kept_65 : decode cX4_kept 65 = .ok (.arraylength, 1) := by decide +kernel
theorem dX4_kept_66 : decode cX4_kept 66 = .ok (.ireturn, 1) := by decide +kernel
theorem dX4_kept_67 : decode cX4_kept 67 = .ok (.aload_n 3, 1) := by decide +kernel
theorem dX4_kept_68 : decode cX4_kept 68 = .ok (.aload_n 0, 1) := by decide +kernel
theorem dX4_kept_69 : decode cX4_kept 69 = .ok (.getfield 10, 3) := by decide +kernel
theorem dX4_kept_72 : decode cX4_kept 72 = .ok (.invokevirtual 166, 3) := by decide +kernel
theorem dX4_kept_75 : decode cX4_kept 75 = .ok (.ireturn, 1) := by decide +kernel
theorem dX4_kept_76 : decode cX4_kept 76 = .ok (.iconst (-1), 1) := by decide +kernel
theorem dX4_kept_77 : decode cX4_kept 77 = .ok (.ireturn, 1) := by decide +kernel
set_option maxRecDepth 20000 in
theorem ggX4_count_Jx4a65c_size_8abf5 : GoodIn wsX4_count wsJx4a65c_size_8abf5 := goodIn_r _ [15, 16, 40, 41, 42] (by decide +kernel) (by decide +kernel)
set_option maxRecDepth 20000 in
theorem gX4_count_Jx4a65c_size_8abf5 : GoodIn wsX4_count (wsV RX4 109 RJx4a65c yJx4a65c_size_8abf5 wsJx4a65c_size_8abf5) := goodIn_app (goodIn_of _ (by decide +kernel)) ggX4_count_Jx4a65c_size_8abf5
theorem dX4_count_0 : decode cX4_count 0 = .ok (.iload_n 1, 1) := by decide +kernel
theorem dX4_count_1 : decode cX4_count 1 = .ok (.tableswitch 96 0 6 #[43, 51, 59, 64, 72, 80, 88], 43) := by decide +kernel
theorem dX4_count_44 : decode cX4_count 44 = .ok (.aload_n 0, 1) := by decide +kernel
theorem dX4_count_45 : decode cX4_count 45 = .ok (.getfield 10, 3) := by decide +kernel
theorem dX4_count_48 : decode cX4_count 48 = .ok (.getfield 48, 3) := by decide +kernel
theorem dX4_count_51 : decode cX4_count 51 = .ok (.ireturn, 1) := by decide +kernel
theorem dX4_count_52 : decode cX4_count 52 = .ok (.aload_n 0, 1) := by decide +kernel
theorem dX4_count_53 : decode cX4_count 53 = .ok (.getfield 26, 3) := by decide +kernel
theorem dX4_count_56 : decode cX4_count 56 = .ok (.invokevirtual 109, 3) := by decide +kernel
theorem dX4_count_59 : decode cX4_count 59 = .ok (.ireturn, 1) := by decide +kernel
theorem dX4_count_60 : decode cX4_count 60 = .ok (.aload_n 0, 1) := by decide +kernel
end
section
theorem dX4_count_61 : decode cX4_count 61 = .ok (.getfield 44, 3) := by decide +kernel
theorem dX4_count_64 : decode cX4_count 64 = .ok (.ireturn, 1) := by decide +kernel
theorem dX4_count_65 : decode cX4_count 65 = .ok (.aload_n 0, 1) := by decide +kernel
theorem dX4_count_66 : decode cX4_count 66 = .ok (.getfield 19, 3) := by decide +kernel
theorem dX4_count_69 : decode cX4_count 69 = .ok (.getfield 78, 3) := by decide +kernel
theorem dX4_count_72 : decode cX4_count 72 = .ok (.ireturn, 1) := by decide +kernel
theorem dX4_count_73 : decode cX4_count 73 = .ok (.aload_n 0, 1) := by decide +kernel
theorem dX4_count_74 : decode cX4_count 74 = .ok (.getfield 33, 3) := by decide +kernel
theorem dX4_count_77 : decode cX4_count 77 = .ok (.getfield 170, 3) := by decide +kernel
theorem dX4_count_80 : decode cX4_count 80 = .ok (.ireturn, 1) := by decide +kernel
theorem dX4_count_81 : decode cX4_count 81 = .ok (.aload_n 0, 1) := by decide +kernel
theorem dX4_count_82 : decode cX4_count 82 = .ok (.getfield 33, 3) := by decide +kernel
theorem dX4_count_85 : decode cX4_count 85 = .ok (.getfield 96, 3) := by decide +kernel
theorem dX4_count_88 : decode cX4_count 88 = .ok (.ireturn, 1) := by decide +kernel
theorem dX4_count_89 : decode cX4_count 89 = .ok (.aload_n 0, 1) := by decide +kernel
theorem dX4_count_90 : decode cX4_count 90 = .ok (.getfield 33, 3) := by decide +kernel
theorem dX4_count_93 : decode cX4_count 93 = .ok (.getfield 173, 3) := by decide +kernel
theorem dX4_count_96 : decode cX4_count 96 = .ok (.ireturn, 1) := by decide +kernel
theorem dX4_count_97 : decode cX4_count 97 = .ok (.iconst (-1), 1) := by decide +kernel
theorem dX4_count_98 : decode cX4_count 98 = .ok (.ireturn, 1) := by decide +kernel
set_option maxRecDepth 20000 in
theorem ggX4_settle_X1_isKnown : GoodIn wsX4_settle wsX1_isKnown := goodIn_r _ [6, 7, 8, 96, 97, 98, 99, 100, 101, 102] (by decide +kernel) (by decide +kernel)
set_option maxRecDepth 20000 in
theorem gX4_settle_X1_isKnown : GoodIn wsX4_settle (wsV RX4 145 RX1 yX1_isKnown wsX1_isKnown) := goodIn_app (goodIn_of _ (by decide +kernel)) ggX4_settle_X1_isKnown
set_option maxRecDepth 20000 in
theorem ggX4_settle_X1_numberOf : GoodIn wsX4_settle wsX1_numberOf := goodIn_r _ [12, 13, 8, 96, 97, 98, 99, 100, 101, 102] (by decide +kernel) (by decide +kernel)
set_option maxRecDepth 20000 in
theorem gX4_settle_X1_numberOf : GoodIn wsX4_settle (wsV RX4 148 RX1 yX1_numberOf wsX1_numberOf) := goodIn_app (goodIn_of _ (by decide +kernel)) ggX4_settle_X1_numberOf
set_option maxRecDepth 20000 in
theorem ggX4_settle_X1_liesInSpan : GoodIn wsX4_settle wsX1_liesInSpan := goodIn_r _ [17, 18, 19, 20, 5, 21, 22, 8, 23, 24, 25, 26, 27, 96, 97, 98, 99, 100, 101, 102] (by decide +kernel) (by decide +kernel)
set_option maxRecDepth 20000 in
theorem gX4_settle_X1_liesInSpan : GoodIn wsX4_settle (wsV RX4 176 RX1 yX1_liesInSpan wsX1_liesInSpan) := goodIn_app (goodIn_of _ (by decide +kernel)) ggX4_settle_X1_liesInSpan
set_option maxRecDepth 20000 in
theorem ggX4_settle_X1_setNumber : GoodIn wsX4_settle wsX1_setNumber := goodIn_r _ [31, 7, 8, 13, 96, 97, 98, 99, 100, 101, 102] (by decide +kernel) (by decide +kernel)
set_option maxRecDepth 20000 in
theorem gX4_settle_X1_setNumber : GoodIn wsX4_settle (wsV RX4 106 RX1 yX1_setNumber wsX1_setNumber) := goodIn_app (goodIn_of _ (by decide +kernel)) ggX4_settle_X1_setNumber
set_option maxRecDepth 20000 in
theorem ggX4_settle_X4_allCompleteAreSo : GoodIn wsX4_settle wsX4_allCompleteAreSo := goodIn_r _ [36, 37, 38, 1, 39, 40, 41, 42, 43, 44, 45, 46, 47, 48, 49, 50, 51, 52, 53, 54, 55, 56, 57, 58, 59, 60, 61, 62, 63, 64, 65, 66, 67, 68, 3, 4, 5, 6, 7, 8, 69, 70, 71, 72, 73, 74, 75, 76, 77, 78, 79, 80, 10, 11, 12, 13, 81, 82, 83, 84, 89, 90, 91, 92, 93, 94, 95, 103, 104, 105, 106, 107, 108, 109, 96, 97, 98, 99, 100, 101, 102] (by decide +kernel) (by decide +kernel)
set_option maxRecDepth 20000 in
theorem gX4_settle_X4_allCompleteAreSo : GoodIn wsX4_settle (wsV RX4 179 RX4 yX4_allCompleteAreSo wsX4_allCompleteAreSo) := goodIn_app (goodIn_of _ (by decide +kernel)) ggX4_settle_X4_allCompleteAreSo
set_option maxRecDepth 20000 in
theorem ggX4_settle_X1_unsetNumber : GoodIn wsX4_settle wsX1_unsetNumber := goodIn_r _ [88, 7, 8, 96, 97, 98, 99, 100, 101, 102] (by decide +kernel) (by decide +kernel)
set_option maxRecDepth 20000 in
theorem gX4_settle_X1_unsetNumber : GoodIn wsX4_settle (wsV RX4 183 RX1 yX1_unsetNumber wsX1_unsetNumber) := goodIn_app (goodIn_of _ (by decide +kernel)) ggX4_settle_X1_unsetNumber
theorem dX4_settle_0 : decode cX4_settle 0 = .ok (.aload_n 0, 1) := by decide +kernel
theorem dX4_settle_1 : decode cX4_settle 1 = .ok (.getfield 10, 3) := by decide +kernel
theorem dX4_settle_4 : decode cX4_settle 4 = .ok (.iload_n 1, 1) := by decide +kernel
theorem dX4_settle_5 : decode cX4_settle 5 = .ok (.invokevirtual 145, 3) := by decide +kernel
theorem dX4_settle_8 : decode cX4_settle 8 = .ok (.ifCond .eq 22, 3) := by decide +kernel
theorem dX4_settle_11 : decode cX4_settle 11 = .ok (.aload_n 0, 1) := by decide +kernel
theorem dX4_settle_12 : decode cX4_settle 12 = .ok (.getfield 10, 3) := by decide +kernel
theorem dX4_settle_15 : decode cX4_settle 15 = .ok (.iload_n 1, 1) := by decide +kernel
theorem dX4_settle_16 : decode cX4_settle 16 = .ok (.invokevirtual 148, 3) := by decide +kernel
theorem dX4_settle_19 : decode cX4_settle 19 = .ok (.lload_n 2, 1) := by decide +kernel
theorem dX4_settle_20 : decode cX4_settle 20 = .ok (.lcmp, 1) := by decide +kernel
theorem dX4_settle_21 : decode cX4_settle 21 = .ok (.ifCond .ne 7, 3) := by decide +kernel
theorem dX4_settle_24 : decode cX4_settle 24 = .ok (.iconst 1, 1) := by decide +kernel
theorem dX4_settle_25 : decode cX4_settle 25 = .ok (.goto 4, 3) := by decide +kernel
theorem dX4_settle_28 : decode cX4_settle 28 = .ok (.iconst 0, 1) := by decide +kernel
theorem dX4_settle_29 : decode cX4_settle 29 = .ok (.ireturn, 1) := by decide +kernel
theorem dX4_settle_30 : decode cX4_settle 30 = .ok (.aload_n 0, 1) := by decide +kernel
theorem dX4_settle_31 : decode cX4_settle 31 = .ok (.getfield 10, 3) := by decide +kernel
theorem dX4_settle_34 : decode cX4_settle 34 = .ok (.iload_n 1, 1) := by decide +kernel
theorem dX4_settle_35 : decode cX4_settle 35 = .ok (.lload_n 2, 1) := by decide +kernel
theorem dX4_settle_36 : decode cX4_settle 36 = .ok (.invokevirtual 176, 3) := by decide +kernel
theorem dX4_settle_39 : decode cX4_settle 39 = .ok (.ifCond .ne 5, 3) := by decide +kernel
theorem dX4_settle_42 : decode cX4_settle 42 = .ok (.iconst 0, 1) := by decide +kernel
theorem dX4_settle_43 : decode cX4_settle 43 = .ok (.ireturn, 1) := by decide +kernel
theorem dX4_settle_44 : decode cX4_settle 44 = .ok (.aload_n 0, 1) := by decide +kernel
theorem dX4_settle_45 : decode cX4_settle 45 = .ok (.getfield 10, 3) := by decide +kernel
theorem dX4_settle_48 : decode cX4_settle 48 = .ok (.iload_n 1, 1) := by decide +kernel
theorem dX4_settle_49 : decode cX4_settle 49 = .ok (.lload_n 2, 1) := by decide +kernel
theorem dX4_settle_50 : decode cX4_settle 50 = .ok (.invokevirtual 106, 3) := by decide +kernel
theorem dX4_settle_53 : decode cX4_settle 53 = .ok (.aload_n 0, 1) := by decide +kernel
theorem dX4_settle_54 : decode cX4_settle 54 = .ok (.invokevirtual 179, 3) := by decide +kernel
theorem dX4_settle_57 : decode cX4_settle 57 = .ok (.ifCond .eq 5, 3) := by decide +kernel
theorem dX4_settle_60 : decode cX4_settle 60 = .ok (.iconst 1, 1) := by decide +kernel
theorem dX4_settle_61 : decode cX4_settle 61 = .ok (.ireturn, 1) := by decide +kernel
theorem dX4_settle_62 : decode cX4_settle 62 = .ok (.aload_n 0, 1) := by decide +kernel
theorem dX4_settle_63 : decode cX4_settle 63 = .ok (.getfield 10, 3) := by decide +kernel
theorem dX4_settle_66 : decode cX4_settle 66 = .ok (.iload_n 1, 1) := by decide +kernel
theorem dX4_settle_67 : decode cX4_settle 67 = .ok (.invokevirtual 183, 3) := by decide +kernel
theorem dX4_settle_70 : decode cX4_settle 70 = .ok (.iconst 0, 1) := by decide +kernel
theorem dX4_settle_71 : decode cX4_settle 71 = .ok (.ireturn, 1) := by decide +kernel
set_option maxRecDepth 20000 in
theorem ggX4_agree_X1_isKnown : GoodIn wsX4_agree wsX1_isKnown := goodIn_r _ [6, 7, 8, 122, 123, 124, 125, 126, 127, 128] (by decide +kernel) (by decide +kernel)
set_option maxRecDepth 20000 in
theorem gX4_agree_X1_isKnown : GoodIn wsX4_agree (wsV RX4 145 RX1 yX1_isKnown wsX1_isKnown) := goodIn_app (goodIn_of _ (by decide +kernel)) ggX4_agree_X1_isKnown
set_option maxRecDepth 20000 in
theorem ggX4_agree_X1_numberOf : GoodIn wsX4_agree wsX1_numberOf := goodIn_r _ [12, 13, 8, 122, 123, 124, 125, 126, 127, 128] (by decide +kernel) (by decide +kernel)
set_option maxRecDepth 20000 in
theorem gX4_agree_X1_numberOf : GoodIn wsX4_agree (wsV RX4 148 RX1 yX1_numberOf wsX1_numberOf) := goodIn_app (goodIn_of _ (by decide +kernel)) ggX4_agree_X1_numberOf
set_option maxRecDepth 20000 in
theorem ggX4_agree_X4_settle : GoodIn wsX4_agree wsX4_settle := goodIn_r _ [18, 1, 2, 3, 4, 5, 6, 7, 8, 9, 10, 11, 12, 13, 19, 20, 21, 22, 23, 24, 25, 26, 27, 28, 29, 30, 31, 32, 33, 34, 35, 36, 37, 38, 39, 17, 40, 41, 42, 43, 44, 45, 46, 47, 48, 49, 50, 51, 52, 53, 54, 55, 56, 57, 58, 59, 60, 61, 62, 63, 64, 65, 66, 67, 68, 69, 70, 71, 72, 73, 74, 75, 76, 77, 78, 79, 80, 81, 82, 83, 84, 85, 86, 87, 88, 89, 90, 91, 92, 115, 116, 117, 118, 119, 120, 121, 122, 123, 124, 125, 126, 127, 128, 129, 130, 131, 132, 133, 134, 135] (by decide +kernel) (by decide +kernel)
set_option maxRecDepth 20000 in
theorem gX4_agree_X4_settle : GoodIn wsX4_agree (wsV RX4 66 RX4 yX4_settle wsX4_settle) := goodIn_app (goodIn_of _ (by decide +kernel)) ggX4_agree_X4_settle
set_option maxRecDepth 20000 in
theorem ggX4_agree_X1_shareSpans : GoodIn wsX4_agree wsX1_shareSpans := goodIn_r _ [96, 97, 98, 99, 5, 100, 101, 8, 23, 24, 25, 26, 27, 28, 29, 30, 31, 32, 102, 103, 104, 105, 106, 107, 108, 109, 110, 111, 112, 113, 3, 4, 6, 7, 114, 10, 11, 12, 13, 122, 123, 124, 125, 126, 127, 128] (by decide +kernel) (by decide +kernel)
set_option maxRecDepth 20000 in
theorem gX4_agree_X1_shareSpans : GoodIn wsX4_agree (wsV RX4 187 RX1 yX1_shareSpans wsX1_shareSpans) := goodIn_app (goodIn_of _ (by decide +kernel)) ggX4_agree_X1_shareSpans
theorem dX4_agree_0 : decode cX4_agree 0 = .ok (.aload_n 0, 1) := by decide +kernel
theorem dX4_agree_1 : decode cX4_agree 1 = .ok (.getfield 10, 3) := by decide +kernel
theorem dX4_agree_4 : decode cX4_agree 4 = .ok (.iload_n 1, 1) := by decide +kernel
theorem dX4_agree_5 : decode cX4_agree 5 = .ok (.invokevirtual 145, 3) := by decide +kernel
theorem dX4_agree_8 : decode cX4_agree 8 = .ok (.ifCond .eq 17, 3) := by decide +kernel
theorem dX4_agree_11 : decode cX4_agree 11 = .ok (.aload_n 0, 1) := by decide +kernel
theorem dX4_agree_12 : decode cX4_agree 12 = .ok (.iload_n 2, 1) := by decide +kernel
theorem dX4_agree_13 : decode cX4_agree 13 = .ok (.aload_n 0, 1) := by decide +kernel
theorem dX4_agree_14 : decode cX4_agree 14 = .ok (.getfield 10, 3) := by decide +kernel
theorem dX4_agree_17 : decode cX4_agree 17 = .ok (.iload_n 1, 1) := by decide +kernel
theorem dX4_agree_18 : decode cX4_agree 18 = .ok (.invokevirtual 148, 3) := by decide +kernel
theorem dX4_agree_21 : decode cX4_agree 21 = .ok (.invokevirtual 66, 3) := by decide +kernel
theorem dX4_agree_24 : decode cX4_agree 24 = .ok (.ireturn, 1) := by decide +kernel
theorem dX4_agree_25 : decode cX4_agree 25 = .ok (.aload_n 0, 1) := by decide +kernel
theorem dX4_agree_26 : decode cX4_agree 26 = .ok (.getfield 10, 3) := by decide +kernel
theorem dX4_agree_29 : decode cX4_agree 29 = .ok (.iload_n 2, 1) := by decide +kernel
theorem dX4_agree_30 : decode cX4_agree 30 = .ok (.invokevirtual 145, 3) := by decide +kernel
theorem dX4_agree_33 : decode cX4_agree 33 = .ok (.ifCond .eq 17, 3) := by decide +kernel
theorem dX4_agree_36 : decode cX4_agree 36 = .ok (.aload_n 0, 1) := by decide +kernel
theorem dX4_agree_37 : decode cX4_agree 37 = .ok (.iload_n 1, 1) := by decide +kernel
theorem dX4_agree_38 : decode cX4_agree 38 = .ok (.aload_n 0, 1) := by decide +kernel
theorem dX4_agree_39 : decode cX4_agree 39 = .ok (.getfield 10, 3) := by decide +kernel
theorem dX4_agree_42 : decode cX4_agree 42 = .ok (.iload_n 2, 1) := by decide +kernel
theorem dX4_agree_43 : decode cX4_agree 43 = .ok (.invokevirtual 148, 3) := by decide +kernel
theorem dX4_agree_46 : decode cX4_agree 46 = .ok (.invokevirtual 66, 3) := by decide +kernel
theorem dX4_agree_49 : decode cX4_agree 49 = .ok (.ireturn, 1) := by decide +kernel
theorem dX4_agree_50 : decode cX4_agree 50 = .ok (.aload_n 0, 1) := by decide +kernel
theorem dX4_agree_51 : decode cX4_agree 51 = .ok (.getfield 10, 3) := by decide +kernel
theorem dX4_agree_54 : decode cX4_agree 54 = .ok (.iload_n 1, 1) := by decide +kernel
theorem dX4_agree_55 : decode cX4_agree 55 = .ok (.iload_n 2, 1) := by decide +kernel
theorem dX4_agree_56 : decode cX4_agree 56 = .ok (.invokevirtual 187, 3) := by decide +kernel
theorem dX4_agree_59 : decode cX4_agree 59 = .ok (.ireturn, 1) := by decide +kernel
set_option maxRecDepth 20000 in
theorem ggX4_allCompleteAreSo_Jx4a65c_size_8abf5 : GoodIn wsX4_allCompleteAreSo wsJx4a65c_size_8abf5 := goodIn_r _ [8, 9, 67, 68, 69] (by decide +kernel) (by decide +kernel)
set_option maxRecDepth 20000 in
theorem gX4_allCompleteAreSo_Jx4a65c_size_8abf5 : GoodIn wsX4_allCompleteAreSo (wsV RX4 109 RJx4a65c yJx4a65c_size_8abf5 wsJx4a65c_size_8abf5) := goodIn_app (goodIn_of _ (by decide +kernel)) ggX4_allCompleteAreSo_Jx4a65c_size_8abf5
set_option maxRecDepth 20000 in
theorem ggX4_allCompleteAreSo_Jx4a65c_get_915e3 : GoodIn wsX4_allCompleteAreSo wsJx4a65c_get_915e3 := goodIn_r _ [13, 9, 14, 15, 16, 17, 18, 19, 20, 21, 22, 23, 24, 7, 25, 26, 67, 68, 69] (by decide +kernel) (by decide +kernel)
set_option maxRecDepth 20000 in
theorem gX4_allCompleteAreSo_Jx4a65c_get_915e3 : GoodIn wsX4_allCompleteAreSo (wsV RX4 115 RJx4a65c yJx4a65c_get_915e3 wsJx4a65c_get_915e3) := goodIn_app (goodIn_of _ (by decide +kernel)) ggX4_allCompleteAreSo_Jx4a65c_get_915e3
set_option maxRecDepth 20000 in
theorem ggX4_allCompleteAreSo_X0_countFree : GoodIn wsX4_allCompleteAreSo wsX0_countFree := goodIn_r _ [31, 32, 33, 34, 35, 36, 37, 38, 39, 70, 71, 72, 73, 74, 75, 76, 77, 78, 79, 80] (by decide +kernel) (by decide +kernel)
set_option maxRecDepth 20000 in
theorem gX4_allCompleteAreSo_X0_countFree : GoodIn wsX4_allCompleteAreSo (wsV RX4 166 RX0 yX0_countFree wsX0_countFree) := goodIn_app (goodIn_of _ (by decide +kernel)) ggX4_allCompleteAreSo_X0_countFree
set_option maxRecDepth 20000 in
theorem ggX4_allCompleteAreSo_X0_isSo : GoodIn wsX4_allCompleteAreSo wsX0_isSo := goodIn_r _ [43, 44, 45, 46, 47, 48, 30, 49, 32, 50, 51, 52, 53, 36, 54, 55, 39, 56, 57, 58, 59, 70, 71, 72, 73, 74, 75, 76, 77, 78, 79, 80] (by decide +kernel) (by decide +kernel)
set_option maxRecDepth 20000 in
theorem gX4_allCompleteAreSo_X0_isSo : GoodIn wsX4_allCompleteAreSo (wsV RX4 190 RX0 yX0_isSo wsX0_isSo) := goodIn_app (goodIn_of _ (by decide +kernel)) ggX4_allCompleteAreSo_X0_isSo
theorem dX4_allCompleteAreSo_0 : decode cX4_allCompleteAreSo 0 = .ok (.iconst 0, 1) := by decide +kernel
theorem dX4_allCompleteAreSo_1 : decode cX4_allCompleteAreSo 1 = .ok (.istore_n 1, 1) := by decide +kernel
theorem dX4_allCompleteAreSo_2 : decode cX4_allCompleteAreSo 2 = .ok (.iload_n 1, 1) := by decide +kernel
theorem dX4_allCompleteAreSo_3 : decode cX4_allCompleteAreSo 3 = .ok (.aload_n 0, 1) := by decide +kernel
theorem dX4_allCompleteAreSo_4 : decode cX4_allCompleteAreSo 4 = .ok (.getfield 26, 3) := by decide +kernel
theorem dX4_allCompleteAreSo_7 : decode cX4_allCompleteAreSo 7 = .ok (.invokevirtual 109, 3) := by decide +kernel
theorem dX4_allCompleteAreSo_10 : decode cX4_allCompleteAreSo 10 = .ok (.if_icmp .ge 45, 3) := by decide +kernel
theorem dX4_allCompleteAreSo_13 : decode cX4_allCompleteAreSo 13 = .ok (.aload_n 0, 1) := by decide +kernel
theorem dX4_allCompleteAreSo_14 : decode cX4_allCompleteAreSo 14 = .ok (.getfield 26, 3) := by decide +kernel
theorem dX4_allCompleteAreSo_17 : decode cX4_allCompleteAreSo 17 = .ok (.iload_n 1, 1) := by decide +kernel
theorem dX4_allCompleteAreSo_18 : decode cX4_allCompleteAreSo 18 = .ok (.invokevirtual 115, 3) := by decide +kernel
theorem dX4_allCompleteAreSo_21 : decode cX4_allCompleteAreSo 21 = .ok (.checkcast 158, 3) := by decide +kernel
theorem dX4_allCompleteAreSo_24 : decode cX4_allCompleteAreSo 24 = .ok (.astore_n 2, 1) := by decide +kernel
theorem dX4_allCompleteAreSo_25 : decode cX4_allCompleteAreSo 25 = .ok (.aload_n 2, 1) := by decide +kernel
theorem dX4_allCompleteAreSo_26 : decode cX4_allCompleteAreSo 26 = .ok (.aload_n 0, 1) := by decide +kernel
theorem dX4_allCompleteAreSo_27 : decode cX4_allCompleteAreSo 27 = .ok (.getfield 10, 3) := by decide +kernel
theorem dX4_allCompleteAreSo_30 : decode cX4_allCompleteAreSo 30 = .ok (.invokevirtual 166, 3) := by decide +kernel
theorem dX4_allCompleteAreSo_33 : decode cX4_allCompleteAreSo 33 = .ok (.ifCond .ne 16, 3) := by decide +kernel
theorem dX4_allCompleteAreSo_36 : decode cX4_allCompleteAreSo 36 = .ok (.aload_n 2, 1) := by decide +kernel
theorem dX4_allCompleteAreSo_37 : decode cX4_allCompleteAreSo 37 = .ok (.aload_n 0, 1) := by decide +kernel
theorem dX4_allCompleteAreSo_38 : decode cX4_allCompleteAreSo 38 = .ok (.getfield 10, 3) := by decide +kernel
theorem dX4_allCompleteAreSo_41 : decode cX4_allCompleteAreSo 41 = .ok (.invokevirtual 190, 3) := by decide +kernel
theorem dX4_allCompleteAreSo_44 : decode cX4_allCompleteAreSo 44 = .ok (.ifCond .ne 5, 3) := by decide +kernel
theorem dX4_allCompleteAreSo_47 : decode cX4_allCompleteAreSo 47 = .ok (.iconst 0, 1) := by decide +kernel
theorem dX4_allCompleteAreSo_48 : decode cX4_allCompleteAreSo 48 = .ok (.ireturn, 1) := by decide +kernel
theorem dX4_allCompleteAreSo_49 : decode cX4_allCompleteAreSo 49 = .ok (.iinc 1 1, 3) := by decide +kernel
theorem dX4_allCompleteAreSo_52 : decode cX4_allCompleteAreSo 52 = .ok (.goto (-50), 3) := by decide +kernel
theorem dX4_allCompleteAreSo_55 : decode cX4_allCompleteAreSo 55 = .ok (.iconst 1, 1) := by decide +kernel
theorem dX4_allCompleteAreSo_56 : decode cX4_allCompleteAreSo 56 = .ok (.ireturn, 1) := by decide +kernel
set_option maxRecDepth 20000 in
theorem ggX4_keepRow_Jx4a65c_size_8abf5 : GoodIn wsX4_keepRow wsJx4a65c_size_8abf5 := goodIn_r _ [11, 12, 135, 136, 137] (by decide +kernel) (by decide +kernel)
set_option maxRecDepth 20000 in
theorem gX4_keepRow_Jx4a65c_size_8abf5 : GoodIn wsX4_keepRow (wsV RX4 109 RJx4a65c yJx4a65c_size_8abf5 wsJx4a65c_size_8abf5) := goodIn_app (goodIn_of _ (by decide +kernel)) ggX4_keepRow_Jx4a65c_size_8abf5
set_option maxRecDepth 20000 in
theorem ggX4_keepRow_X0_init : GoodIn wsX4_keepRow wsX0_init := goodIn_r _ [15, 16, 17, 18, 19, 20, 21, 22, 23, 24, 25, 26, 27, 28, 29, 30, 31, 32, 33, 34, 35, 36, 37, 38, 39, 40, 41, 42, 43, 44, 45, 46, 47, 48, 49, 50, 131, 132, 133, 134, 138, 139, 140] (by decide +kernel) (by decide +kernel)
set_option maxRecDepth 20000 in
theorem gX4_keepRow_X0_init : GoodIn wsX4_keepRow (wsX0_init) := ggX4_keepRow_X0_init
set_option maxRecDepth 20000 in
theorem ggX4_keepRow_X0_countFree : GoodIn wsX4_keepRow wsX0_countFree := goodIn_r _ [54, 22, 55, 56, 57, 58, 59, 60, 61, 131, 132, 133, 134, 141, 142, 143, 144, 145, 146, 147] (by decide +kernel) (by decide +kernel)
set_option maxRecDepth 20000 in
theorem gX4_keepRow_X0_countFree : GoodIn wsX4_keepRow (wsV RX4 166 RX0 yX0_countFree wsX0_countFree) := goodIn_app (goodIn_of _ (by decide +kernel)) ggX4_keepRow_X0_countFree
set_option maxRecDepth 20000 in
theorem ggX4_keepRow_X0_isSo : GoodIn wsX4_keepRow wsX0_isSo := goodIn_r _ [65, 19, 20, 66, 67, 68, 4, 69, 22, 23, 70, 71, 72, 58, 73, 74, 61, 75, 76, 77, 78, 131, 132, 133, 134, 141, 142, 143, 144, 145, 146, 147] (by decide +kernel) (by decide +kernel)
set_option maxRecDepth 20000 in
theorem gX4_keepRow_X0_isSo : GoodIn wsX4_keepRow (wsV RX4 190 RX0 yX0_isSo wsX0_isSo) := goodIn_app (goodIn_of _ (by decide +kernel)) ggX4_keepRow_X0_isSo
set_option maxRecDepth 20000 in
theorem ggX4_keepRow_Jx4a65c_add_9ea2d : GoodIn wsX4_keepRow wsJx4a65c_add_9ea2d := goodIn_r _ [82, 83, 84, 85, 12, 86, 87, 88, 10, 89, 90, 91, 92, 93, 94, 95, 96, 97, 98, 99, 100, 37, 101, 102, 103, 104, 105, 106, 107, 108, 109, 110, 111, 112, 113, 26, 114, 115, 116, 117, 118, 119, 120, 121, 122, 123, 35, 36, 38, 39, 40, 41, 42, 135, 136, 137] (by decide +kernel) (by decide +kernel)
set_option maxRecDepth 20000 in
theorem gX4_keepRow_Jx4a65c_add_9ea2d : GoodIn wsX4_keepRow (wsV RX4 111 RJx4a65c yJx4a65c_add_9ea2d wsJx4a65c_add_9ea2d) := goodIn_app (goodIn_of _ (by decide +kernel)) ggX4_keepRow_Jx4a65c_add_9ea2d
theorem dX4_keepRow_0 : decode cX4_keepRow 0 = .ok (.iload_n 1, 1) := by decide +kernel
theorem dX4_keepRow_1 : decode cX4_keepRow 1 = .ok (.ifCond .lt 20, 3) := by decide +kernel
theorem dX4_keepRow_4 : decode cX4_keepRow 4 = .ok (.iload_n 1, 1) := by decide +kernel
theorem dX4_keepRow_5 : decode cX4_keepRow 5 = .ok (.iconst 2, 1) := by decide +kernel
theorem dX4_keepRow_6 : decode cX4_keepRow 6 = .ok (.if_icmp .gt 15, 3) := by decide +kernel
theorem dX4_keepRow_9 : decode cX4_keepRow 9 = .ok (.aload_n 0, 1) := by decide +kernel
theorem dX4_keepRow_10 : decode cX4_keepRow 10 = .ok (.getfield 26, 3) := by decide +kernel
theorem dX4_keepRow_13 : decode cX4_keepRow 13 = .ok (.invokevirtual 109, 3) := by decide +kernel
theorem dX4_keepRow_16 : decode cX4_keepRow 16 = .ok (.bipush 60, 2) := by decide +kernel
theorem dX4_keepRow_18 : decode cX4_keepRow 18 = .ok (.if_icmp .lt 5, 3) := by decide +kernel
theorem dX4_keepRow_21 : decode cX4_keepRow 21 = .ok (.iconst (-1), 1) := by decide +kernel
theorem dX4_keepRow_22 : decode cX4_keepRow 22 = .ok (.ireturn, 1) := by decide +kernel
theorem dX4_keepRow_23 : decode cX4_keepRow 23 = .ok (.new 158, 3) := by decide +kernel
theorem dX4_keepRow_26 : decode cX4_keepRow 26 = .ok (.dup, 1) := by decide +kernel
theorem dX4_keepRow_27 : decode cX4_keepRow 27 = .ok (.iload_n 1, 1) := by decide +kernel
theorem dX4_keepRow_28 : decode cX4_keepRow 28 = .ok (.lload_n 2, 1) := by decide +kernel
theorem dX4_keepRow_29 : decode cX4_keepRow 29 = .ok (.aload_n 0, 1) := by decide +kernel
theorem dX4_keepRow_30 : decode cX4_keepRow 30 = .ok (.getfield 19, 3) := by decide +kernel
theorem dX4_keepRow_33 : decode cX4_keepRow 33 = .ok (.invokespecial 194, 3) := by decide +kernel
theorem dX4_keepRow_36 : decode cX4_keepRow 36 = .ok (.astore 4, 2) := by decide +kernel
theorem dX4_keepRow_38 : decode cX4_keepRow 38 = .ok (.aload 4, 2) := by decide +kernel
theorem dX4_keepRow_40 : decode cX4_keepRow 40 = .ok (.aload_n 0, 1) := by decide +kernel
theorem dX4_keepRow_41 : decode cX4_keepRow 41 = .ok (.getfield 10, 3) := by decide +kernel
theorem dX4_keepRow_44 : decode cX4_keepRow 44 = .ok (.invokevirtual 166, 3) := by decide +kernel
theorem dX4_keepRow_47 : decode cX4_keepRow 47 = .ok (.ifCond .ne 17, 3) := by decide +kernel
theorem dX4_keepRow_50 : decode cX4_keepRow 50 = .ok (.aload 4, 2) := by decide +kernel
theorem dX4_keepRow_52 : decode cX4_keepRow 52 = .ok (.aload_n 0, 1) := by decide +kernel
theorem dX4_keepRow_53 : decode cX4_keepRow 53 = .ok (.getfield 10, 3) := by decide +kernel
theorem dX4_keepRow_56 : decode cX4_keepRow 56 = .ok (.invokevirtual 190, 3) := by decide +kernel
theorem dX4_keepRow_59 : decode cX4_keepRow 59 = .ok (.ifCond .ne 5, 3) := by decide +kernel
theorem dX4_keepRow_62 : decode cX4_keepRow 62 = .ok (.iconst 0, 1) := by decide +kernel
theorem dX4_keepRow_63 : decode cX4_keepRow 63 = .ok (.ireturn, 1) := by decide +kernel
theorem dX4_keepRow_64 : decode cX4_keepRow 64 = .ok (.aload_n 0, 1) := by decide +kernel
theorem dX4_keepRow_65 : decode cX4_keepRow 65 = .ok (.getfield 26, 3) := by decide +kernel
theorem dX4_keepRow_68 : decode cX4_keepRow 68 = .ok (.aload 4, 2) := by decide +kernel
theorem dX4_keepRow_70 : decode cX4_keepRow 70 = .ok (.invokevirtual 111, 3) := by decide +kernel
theorem dX4_keepRow_73 : decode cX4_keepRow 73 = .ok (.pop, 1) := by decide +kernel
theorem dX4_keepRow_74 : decode cX4_keepRow 74 = .ok (.iconst 1, 1) := by decide +kernel
theorem dX4_keepRow_75 : decode cX4_keepRow 75 = .ok (.ireturn, 1) := by decide +kernel
set_option maxRecDepth 20000 in
theorem ggX4_countRowsWith_Jx4a65c_size_8abf5 : GoodIn wsX4_countRowsWith wsJx4a65c_size_8abf5 := goodIn_r _ [8, 9, 46, 47, 48] (by decide +kernel) (by decide +kernel)
set_option maxRecDepth 20000 in
theorem gX4_countRowsWith_Jx4a65c_size_8abf5 : GoodIn wsX4_countRowsWith (wsV RX4 109 RJx4a65c yJx4a65c_size_8abf5 wsJx4a65c_size_8abf5) := goodIn_app (goodIn_of _ (by decide +kernel)) ggX4_countRowsWith_Jx4a65c_size_8abf5
set_option maxRecDepth 20000 in
theorem ggX4_countRowsWith_Jx4a65c_get_915e3 : GoodIn wsX4_countRowsWith wsJx4a65c_get_915e3 := goodIn_r _ [13, 9, 14, 15, 16, 17, 18, 19, 20, 21, 22, 23, 24, 7, 25, 26, 46, 47, 48] (by decide +kernel) (by decide +kernel)
set_option maxRecDepth 20000 in
theorem gX4_countRowsWith_Jx4a65c_get_915e3 : GoodIn wsX4_countRowsWith (wsV RX4 115 RJx4a65c yJx4a65c_get_915e3 wsJx4a65c_get_915e3) := goodIn_app (goodIn_of _ (by decide +kernel)) ggX4_countRowsWith_Jx4a65c_get_915e3
set_option maxRecDepth 20000 in
theorem ggX4_countRowsWith_X0_holds : GoodIn wsX4_countRowsWith wsX0_holds := goodIn_r _ [31, 32, 33, 34, 35, 36, 37, 38, 49, 50, 51, 52, 53, 54, 55, 56, 57, 58, 59] (by decide +kernel) (by decide +kernel)
set_option maxRecDepth 20000 in
theorem gX4_countRowsWith_X0_holds : GoodIn wsX4_countRowsWith (wsV RX4 197 RX0 yX0_holds wsX0_holds) := goodIn_app (goodIn_of _ (by decide +kernel)) ggX4_countRowsWith_X0_holds
theorem dX4_countRowsWith_0 : decode cX4_countRowsWith 0 = .ok (.iconst 0, 1) := by decide +kernel
theorem dX4_countRowsWith_1 : decode cX4_countRowsWith 1 = .ok (.istore_n 2, 1) := by decide +kernel
theorem dX4_countRowsWith_2 : decode cX4_countRowsWith 2 = .ok (.iconst 0, 1) := by decide +kernel
theorem dX4_countRowsWith_3 : decode cX4_countRowsWith 3 = .ok (.istore_n 3, 1) := by decide +kernel
theorem dX4_countRowsWith_4 : decode cX4_countRowsWith 4 = .ok (.iload_n 3, 1) := by decide +kernel
theorem dX4_countRowsWith_5 : decode cX4_countRowsWith 5 = .ok (.aload_n 0, 1) := by decide +kernel
theorem dX4_countRowsWith_6 : decode cX4_countRowsWith 6 = .ok (.getfield 26, 3) := by decide +kernel
theorem dX4_countRowsWith_9 : decode cX4_countRowsWith 9 = .ok (.invokevirtual 109, 3) := by decide +kernel
theorem dX4_countRowsWith_12 : decode cX4_countRowsWith 12 = .ok (.if_icmp .ge 34, 3) := by decide +kernel
theorem dX4_countRowsWith_15 : decode cX4_countRowsWith 15 = .ok (.aload_n 0, 1) := by decide +kernel
theorem dX4_countRowsWith_16 : decode cX4_countRowsWith 16 = .ok (.getfield 26, 3) := by decide +kernel
theorem dX4_countRowsWith_19 : decode cX4_countRowsWith 19 = .ok (.iload_n 3, 1) := by decide +kernel
theorem dX4_countRowsWith_20 : decode cX4_countRowsWith 20 = .ok (.invokevirtual 115, 3) := by decide +kernel
theorem dX4_countRowsWith_23 : decode cX4_countRowsWith 23 = .ok (.checkcast 158, 3) := by decide +kernel
theorem dX4_countRowsWith_26 : decode cX4_countRowsWith 26 = .ok (.iload_n 1, 1) := by decide +kernel
theorem dX4_countRowsWith_27 : decode cX4_countRowsWith 27 = .ok (.aload_n 0, 1) := by decide +kernel
theorem dX4_countRowsWith_28 : decode cX4_countRowsWith 28 = .ok (.getfield 10, 3) := by decide +kernel
theorem dX4_countRowsWith_31 : decode cX4_countRowsWith 31 = .ok (.invokevirtual 197, 3) := by decide +kernel
theorem dX4_countRowsWith_34 : decode cX4_countRowsWith 34 = .ok (.ifCond .eq 6, 3) := by decide +kernel
theorem dX4_countRowsWith_37 : decode cX4_countRowsWith 37 = .ok (.iinc 2 1, 3) := by decide +kernel
theorem dX4_countRowsWith_40 : decode cX4_countRowsWith 40 = .ok (.iinc 3 1, 3) := by decide +kernel
theorem dX4_countRowsWith_43 : decode cX4_countRowsWith 43 = .ok (.goto (-39), 3) := by decide +kernel
theorem dX4_countRowsWith_46 : decode cX4_countRowsWith 46 = .ok (.iload_n 2, 1) := by decide +kernel
theorem dX4_countRowsWith_47 : decode cX4_countRowsWith 47 = .ok (.ireturn, 1) := by decide +kernel
theorem dX5_init_0 : decode cX5_init 0 = .ok (.aload_n 0, 1) := by decide +kernel
theorem dX5_init_1 : decode cX5_init 1 = .ok (.invokespecial 1, 3) := by decide +kernel
theorem dX5_init_4 : decode cX5_init 4 = .ok (.aload_n 0, 1) := by decide +kernel
theorem dX5_init_5 : decode cX5_init 5 = .ok (.sipush 6400, 3) := by decide +kernel
theorem dX5_init_8 : decode cX5_init 8 = .ok (.newarray .int, 2) := by decide +kernel
theorem dX5_init_10 : decode cX5_init 10 = .ok (.putfield 9, 3) := by decide +kernel
theorem dX5_init_13 : decode cX5_init 13 = .ok (.aload_n 0, 1) := by decide +kernel
theorem dX5_init_14 : decode cX5_init 14 = .ok (.sipush 6400, 3) := by decide +kernel
theorem dX5_init_17 : decode cX5_init 17 = .ok (.newarray .int, 2) := by decide +kernel
theorem dX5_init_19 : decode cX5_init 19 = .ok (.putfield 13, 3) := by decide +kernel
theorem dX5_init_22 : decode cX5_init 22 = .ok (.aload_n 0, 1) := by decide +kernel
theorem dX5_init_23 : decode cX5_init 23 = .ok (.sipush 6400, 3) := by decide +kernel
theorem dX5_init_26 : decode cX5_init 26 = .ok (.newarray .int, 2) := by decide +kernel
theorem dX5_init_28 : decode cX5_init 28 = .ok (.putfield 16, 3) := by decide +kernel
theorem dX5_init_31 : decode cX5_init 31 = .ok (.aload_n 0, 1) := by decide +kernel
theorem dX5_init_32 : decode cX5_init 32 = .ok (.sipush 6400, 3) := by decide +kernel
theorem dX5_init_35 : decode cX5_init 35 = .ok (.newarray .long, 2) := by decide +kernel
theorem dX5_init_37 : decode cX5_init 37 = .ok (.putfield 19, 3) := by decide +kernel
theorem dX5_init_40 : decode cX5_init 40 = .ok (.aload_n 0, 1) := by decide +kernel
theorem dX5_init_41 : decode cX5_init 41 = .ok (.sipush 6400, 3) := by decide +kernel
theorem dX5_init_44 : decode cX5_init 44 = .ok (.newarray .long, 2) := by decide +kernel
theorem dX5_init_46 : decode cX5_init 46 = .ok (.putfield 23, 3) := by decide +kernel
theorem dX5_init_49 : decode cX5_init 49 = .ok (.aload_n 0, 1) := by decide +kernel
theorem dX5_init_50 : decode cX5_init 50 = .ok (.bipush 32, 2) := by decide +kernel
theorem dX5_init_52 : decode cX5_init 52 = .ok (.newarray .int, 2) := by decide +kernel
theorem dX5_init_54 : decode cX5_init 54 = .ok (.putfield 26, 3) := by decide +kernel
theorem dX5_init_57 : decode cX5_init 57 = .ok (.aload_n 0, 1) := by decide +kernel
theorem dX5_init_58 : decode cX5_init 58 = .ok (.bipush 32, 2) := by decide +kernel
theorem dX5_init_60 : decode cX5_init 60 = .ok (.newarray .long, 2) := by decide +kernel
theorem dX5_init_62 : decode cX5_init 62 = .ok (.putfield 29, 3) := by decide +kernel
theorem dX5_init_65 : decode cX5_init 65 = .ok (.aload_n 0, 1) := by decide +kernel
theorem dX5_init_66 : decode cX5_init 66 = .ok (.bipush 60, 2) := by decide +kernel
theorem dX5_init_68 : decode cX5_init 68 = .ok (.newarray .int, 2) := by decide +kernel
theorem dX5_init_70 : decode cX5_init 70 = .ok (.putfield 32, 3) := by decide +kernel
theorem dX5_init_73 : decode cX5_init 73 = .ok (.aload_n 0, 1) := by decide +kernel
theorem dX5_init_74 : decode cX5_init 74 = .ok (.bipush 60, 2) := by decide +kernel
theorem dX5_init_76 : decode cX5_init 76 = .ok (.newarray .int, 2) := by decide +kernel
theorem dX5_init_78 : decode cX5_init 78 = .ok (.putfield 35, 3) := by decide +kernel
theorem dX5_init_81 : decode cX5_init 81 = .ok (.aload_n 0, 1) := by decide +kernel
theorem dX5_init_82 : decode cX5_init 82 = .ok (.sipush 1920, 3) := by decide +kernel
theorem dX5_init_85 : decode cX5_init 85 = .ok (.newarray .int, 2) := by decide +kernel
theorem dX5_init_87 : decode cX5_init 87 = .ok (.putfield 38, 3) := by decide +kernel
theorem dX5_init_90 : decode cX5_init 90 = .ok (.aload_n 0, 1) := by decide +kernel
theorem dX5_init_91 : decode cX5_init 91 = .ok (.sipush 1920, 3) := by decide +kernel
theorem dX5_init_94 : decode cX5_init 94 = .ok (.newarray .long, 2) := by decide +kernel
theorem dX5_init_96 : decode cX5_init 96 = .ok (.putfield 41, 3) := by decide +kernel
theorem dX5_init_99 : decode cX5_init 99 = .ok (.aload_n 0, 1) := by decide +kernel
theorem dX5_init_100 : decode cX5_init 100 = .ok (.bipush 60, 2) := by decide +kernel
theorem dX5_init_102 : decode cX5_init 102 = .ok (.newarray .long, 2) := by decide +kernel
theorem dX5_init_104 : decode cX5_init 104 = .ok (.putfield 44, 3) := by decide +kernel
theorem dX5_init_107 : decode cX5_init 107 = .ok (.aload_n 0, 1) := by decide +kernel
theorem dX5_init_108 : decode cX5_init 108 = .ok (.bipush 40, 2) := by decide +kernel
theorem dX5_init_110 : decode cX5_init 110 = .ok (.newarray .int, 2) := by decide +kernel
theorem dX5_init_112 : decode cX5_init 112 = .ok (.putfield 47, 3) := by decide +kernel
theorem dX5_init_115 : decode cX5_init 115 = .ok (.aload_n 0, 1) := by decide +kernel
theorem dX5_init_116 : decode cX5_init 116 = .ok (.bipush 40, 2) := by decide +kernel
theorem dX5_init_118 : decode cX5_init 118 = .ok (.newarray .int, 2) := by decide +kernel
theorem dX5_init_120 : decode cX5_init 120 = .ok (.putfield 50, 3) := by decide +kernel
theorem dX5_init_123 : decode cX5_init 123 = .ok (.aload_n 0, 1) := by decide +kernel
theorem dX5_init_124 : decode cX5_init 124 = .ok (.bipush 40, 2) := by decide +kernel
theorem dX5_init_126 : decode cX5_init 126 = .ok (.newarray .int, 2) := by decide +kernel
theorem dX5_init_128 : decode cX5_init 128 = .ok (.putfield 53, 3) := by decide +kernel
theorem dX5_init_131 : decode cX5_init 131 = .ok (.aload_n 0, 1) := by decide +kernel
theorem dX5_init_132 : decode cX5_init 132 = .ok (.bipush 64, 2) := by decide +kernel
theorem dX5_init_134 : decode cX5_init 134 = .ok (.newarray .int, 2) := by decide +kernel
theorem dX5_init_136 : decode cX5_init 136 = .ok (.putfield 56, 3) := by decide +kernel
theorem dX5_init_139 : decode cX5_init 139 = .ok (.aload_n 0, 1) := by decide +kernel
theorem dX5_init_140 : decode cX5_init 140 = .ok (.bipush 64, 2) := by decide +kernel
theorem dX5_init_142 : decode cX5_init 142 = .ok (.newarray .boolean, 2) := by decide +kernel
theorem dX5_init_144 : decode cX5_init 144 = .ok (.putfield 59, 3) := by decide +kernel
theorem dX5_init_147 : decode cX5_init 147 = .ok (.aload_n 0, 1) := by decide +kernel
theorem dX5_init_148 : decode cX5_init 148 = .ok (.bipush 64, 2) := by decide +kernel
theorem dX5_init_150 : decode cX5_init 150 = .ok (.newarray .boolean, 2) := by decide +kernel
theorem dX5_init_152 : decode cX5_init 152 = .ok (.putfield 63, 3) := by decide +kernel
theorem dX5_init_155 : decode cX5_init 155 = .ok (.aload_n 0, 1) := by decide +kernel
theorem dX5_init_156 : decode cX5_init 156 = .ok (.bipush 64, 2) := by decide +kernel
theorem dX5_init_158 : decode cX5_init 158 = .ok (.newarray .long, 2) := by decide +kernel
theorem dX5_init_160 : decode cX5_init 160 = .ok (.putfield 66, 3) := by decide +kernel
theorem dX5_init_163 : decode cX5_init 163 = .ok (.aload_n 0, 1) := by decide +kernel
theorem dX5_init_164 : decode cX5_init 164 = .ok (.bipush 64, 2) := by decide +kernel
theorem dX5_init_166 : decode cX5_init 166 = .ok (.newarray .long, 2) := by decide +kernel
theorem dX5_init_168 : decode cX5_init 168 = .ok (.putfield 69, 3) := by decide +kernel
theorem dX5_init_171 : decode cX5_init 171 = .ok (.aload_n 0, 1) := by decide +kernel
theorem dX5_init_172 : decode cX5_init 172 = .ok (.bipush 64, 2) := by decide +kernel
theorem dX5_init_174 : decode cX5_init 174 = .ok (.newarray .long, 2) := by decide +kernel
theorem dX5_init_176 : decode cX5_init 176 = .ok (.putfield 72, 3) := by decide +kernel
theorem dX5_init_179 : decode cX5_init 179 = .ok (.aload_n 0, 1) := by decide +kernel
theorem dX5_init_180 : decode cX5_init 180 = .ok (.bipush 64, 2) := by decide +kernel
theorem dX5_init_182 : decode cX5_init 182 = .ok (.newarray .boolean, 2) := by decide +kernel
theorem dX5_init_184 : decode cX5_init 184 = .ok (.putfield 75, 3) := by decide +kernel
theorem dX5_init_187 : decode cX5_init 187 = .ok (.aload_n 0, 1) := by decide +kernel
theorem dX5_init_188 : decode cX5_init 188 = .ok (.bipush 64, 2) := by decide +kernel
theorem dX5_init_190 : decode cX5_init 190 = .ok (.newarray .long, 2) := by decide +kernel
theorem dX5_init_192 : decode cX5_init 192 = .ok (.putfield 78, 3) := by decide +kernel
theorem dX5_init_195 : decode cX5_init 195 = .ok (.aload_n 0, 1) := by decide +kernel
theorem dX5_init_196 : decode cX5_init 196 = .ok (.bipush 32, 2) := by decide +kernel
theorem dX5_init_198 : decode cX5_init 198 = .ok (.newarray .int, 2) := by decide +kernel
theorem dX5_init_200 : decode cX5_init 200 = .ok (.putfield 81, 3) := by decide +kernel
theorem dX5_init_203 : decode cX5_init 203 = .ok (.aload_n 0, 1) := by decide +kernel
theorem dX5_init_204 : decode cX5_init 204 = .ok (.sipush 1600, 3) := by decide +kernel
theorem dX5_init_207 : decode cX5_init 207 = .ok (.newarray .long, 2) := by decide +kernel
theorem dX5_init_209 : decode cX5_init 209 = .ok (.putfield 84, 3) := by decide +kernel
theorem dX5_init_212 : decode cX5_init 212 = .ok (.return_, 1) := by decide +kernel
theorem dX5_isName_0 : decode cX5_isName 0 = .ok (.iload_n 1, 1) := by decide +kernel
theorem dX5_isName_1 : decode cX5_isName 1 = .ok (.ifCond .lt 15, 3) := by decide +kernel
theorem dX5_isName_4 : decode cX5_isName 4 = .ok (.iload_n 1, 1) := by decide +kernel
theorem dX5_isName_5 : decode cX5_isName 5 = .ok (.aload_n 0, 1) := by decide +kernel
theorem dX5_isName_6 : decode cX5_isName 6 = .ok (.getfield 87, 3) := by decide +kernel
theorem dX5_isName_9 : decode cX5_isName 9 = .ok (.if_icmp .ge 7, 3) := by decide +kernel
theorem dX5_isName_12 : decode cX5_isName 12 = .ok (.iconst 1, 1) := by decide +kernel
theorem dX5_isName_13 : decode cX5_isName 13 = .ok (.goto 4, 3) := by decide +kernel
theorem dX5_isName_16 : decode cX5_isName 16 = .ok (.iconst 0, 1) := by decide +kernel
theorem dX5_isName_17 : decode cX5_isName 17 = .ok (.ireturn, 1) := by decide +kernel
set_option maxRecDepth 20000 in
theorem ggX5_works_X5_holds : GoodIn wsX5_works wsX5_holds := goodIn_r _ [32, 33, 34, 35, 36, 37, 38, 39, 40, 31, 41, 3, 2, 42, 43, 44, 45, 46, 16, 47, 48, 49, 50, 51, 52, 53, 54, 55, 56, 57, 58, 59, 60, 61, 62, 63, 64, 65, 66, 67, 68, 69, 70, 71, 72, 73, 74, 75, 76, 77, 78, 79, 80, 81] (by decide +kernel) (by decide +kernel)
set_option maxRecDepth 20000 in
theorem gX5_works_X5_holds : GoodIn wsX5_works (wsV RX5 111 RX5 yX5_holds wsX5_holds) := goodIn_app (goodIn_of _ (by decide +kernel)) ggX5_works_X5_holds
theorem dX5_works_0 : decode cX5_works 0 = .ok (.iconst 0, 1) := by decide +kernel
theorem dX5_works_1 : decode cX5_works 1 = .ok (.istore_n 1, 1) := by decide +kernel
theorem dX5_works_2 : decode cX5_works 2 = .ok (.iload_n 1, 1) := by decide +kernel
theorem dX5_works_3 : decode cX5_works 3 = .ok (.aload_n 0, 1) := by decide +kernel
theorem dX5_works_4 : decode cX5_works 4 = .ok (.getfield 87, 3) := by decide +kernel
theorem dX5_works_7 : decode cX5_works 7 = .ok (.if_icmp .ge 30, 3) := by decide +kernel
theorem dX5_works_10 : decode cX5_works 10 = .ok (.aload_n 0, 1) := by decide +kernel
theorem dX5_works_11 : decode cX5_works 11 = .ok (.getfield 56, 3) := by decide +kernel
theorem dX5_works_14 : decode cX5_works 14 = .ok (.iload_n 1, 1) := by decide +kernel
theorem dX5_works_15 : decode cX5_works 15 = .ok (.iload_n 1, 1) := by decide +kernel
theorem dX5_works_16 : decode cX5_works 16 = .ok (.iastore, 1) := by decide +kernel
theorem dX5_works_17 : decode cX5_works 17 = .ok (.aload_n 0, 1) := by decide +kernel
theorem dX5_works_18 : decode cX5_works 18 = .ok (.getfield 59, 3) := by decide +kernel
theorem dX5_works_21 : decode cX5_works 21 = .ok (.iload_n 1, 1) := by decide +kernel
theorem dX5_works_22 : decode cX5_works 22 = .ok (.iconst 0, 1) := by decide +kernel
theorem dX5_works_23 : decode cX5_works 23 = .ok (.bastore, 1) := by decide +kernel
theorem dX5_works_24 : decode cX5_works 24 = .ok (.aload_n 0, 1) := by decide +kernel
theorem dX5_works_25 : decode cX5_works 25 = .ok (.getfield 63, 3) := by decide +kernel
theorem dX5_works_28 : decode cX5_works 28 = .ok (.iload_n 1, 1) := by decide +kernel
theorem dX5_works_29 : decode cX5_works 29 = .ok (.iconst 0, 1) := by decide +kernel
theorem dX5_works_30 : decode cX5_works 30 = .ok (.bastore, 1) := by decide +kernel
theorem dX5_works_31 : decode cX5_works 31 = .ok (.iinc 1 1, 3) := by decide +kernel
theorem dX5_works_34 : decode cX5_works 34 = .ok (.goto (-32), 3) := by decide +kernel
theorem dX5_works_37 : decode cX5_works 37 = .ok (.iconst 0, 1) := by decide +kernel
theorem dX5_works_38 : decode cX5_works 38 = .ok (.istore_n 1, 1) := by decide +kernel
theorem dX5_works_39 : decode cX5_works 39 = .ok (.iload_n 1, 1) := by decide +kernel
theorem dX5_works_40 : decode cX5_works 40 = .ok (.aload_n 0, 1) := by decide +kernel
theorem dX5_works_41 : decode cX5_works 41 = .ok (.getfield 91, 3) := by decide +kernel
theorem dX5_works_44 : decode cX5_works 44 = .ok (.if_icmp .ge 111, 3) := by decide +kernel
theorem dX5_works_47 : decode cX5_works 47 = .ok (.aload_n 0, 1) := by decide +kernel
theorem dX5_works_48 : decode cX5_works 48 = .ok (.getfield 9, 3) := by decide +kernel
theorem dX5_works_51 : decode cX5_works 51 = .ok (.iload_n 1, 1) := by decide +kernel
theorem dX5_works_52 : decode cX5_works 52 = .ok (.iaload, 1) := by decide +kernel
theorem dX5_works_53 : decode cX5_works 53 = .ok (.iconst 2, 1) := by decide +kernel
theorem dX5_works_54 : decode cX5_works 54 = .ok (.if_icmp .eq 6, 3) := by decide +kernel
theorem dX5_works_57 : decode cX5_works 57 = .ok (.goto 92, 3) := by decide +kernel
theorem dX5_works_60 : decode cX5_works 60 = .ok (.aload_n 0, 1) := by decide +kernel
theorem dX5_works_61 : decode cX5_works 61 = .ok (.getfield 56, 3) := by decide +kernel
theorem dX5_works_64 : decode cX5_works 64 = .ok (.aload_n 0, 1) := by decide +kernel
theorem dX5_works_65 : decode cX5_works 65 = .ok (.getfield 13, 3) := by decide +kernel
theorem dX5_works_68 : decode cX5_works 68 = .ok (.iload_n 1, 1) := by decide +kernel
theorem dX5_works_69 : decode cX5_works 69 = .ok (.iaload, 1) := by decide +kernel
theorem dX5_works_70 : decode cX5_works 70 = .ok (.iaload, 1) := by decide +kernel
theorem dX5_works_71 : decode cX5_works 71 = .ok (.aload_n 0, 1) := by decide +kernel
theorem dX5_works_72 : decode cX5_works 72 = .ok (.getfield 56, 3) := by decide +kernel
theorem dX5_works_75 : decode cX5_works 75 = .ok (.aload_n 0, 1) := by decide +kernel
theorem dX5_works_76 : decode cX5_works 76 = .ok (.getfield 16, 3) := by decide +kernel
theorem dX5_works_79 : decode cX5_works 79 = .ok (.iload_n 1, 1) := by decide +kernel
theorem dX5_works_80 : decode cX5_works 80 = .ok (.iaload, 1) := by decide +kernel
theorem dX5_works_81 : decode cX5_works 81 = .ok (.iaload, 1) := by decide +kernel
theorem dX5_works_82 : decode cX5_works 82 = .ok (.invokestatic 94, 3) := by decide +kernel
theorem dX5_works_85 : decode cX5_works 85 = .ok (.istore_n 2, 1) := by decide +kernel
theorem dX5_works_86 : decode cX5_works 86 = .ok (.aload_n 0, 1) := by decide +kernel
theorem dX5_works_87 : decode cX5_works 87 = .ok (.getfield 56, 3) := by decide +kernel
theorem dX5_works_90 : decode cX5_works 90 = .ok (.aload_n 0, 1) := by decide +kernel
theorem dX5_works_91 : decode cX5_works 91 = .ok (.getfield 13, 3) := by decide +kernel
theorem dX5_works_94 : decode cX5_works 94 = .ok (.iload_n 1, 1) := by decide +kernel
theorem dX5_works_95 : decode cX5_works 95 = .ok (.iaload, 1) := by decide +kernel
theorem dX5_works_96 : decode cX5_works 96 = .ok (.iaload, 1) := by decide +kernel
theorem dX5_works_97 : decode cX5_works 97 = .ok (.aload_n 0, 1) := by decide +kernel
theorem dX5_works_98 : decode cX5_works 98 = .ok (.getfield 56, 3) := by decide +kernel
theorem dX5_works_101 : decode cX5_works 101 = .ok (.aload_n 0, 1) := by decide +kernel
theorem dX5_works_102 : decode cX5_works 102 = .ok (.getfield 16, 3) := by decide +kernel
theorem dX5_works_105 : decode cX5_works 105 = .ok (.iload_n 1, 1) := by decide +kernel
theorem dX5_works_106 : decode cX5_works 106 = .ok (.iaload, 1) := by decide +kernel
theorem dX5_works_107 : decode cX5_works 107 = .ok (.iaload, 1) := by decide +kernel
theorem dX5_works_108 : decode cX5_works 108 = .ok (.invokestatic 100, 3) := by decide +kernel
theorem dX5_works_111 : decode cX5_works 111 = .ok (.istore_n 3, 1) := by decide +kernel
theorem dX5_works_112 : decode cX5_works 112 = .ok (.iconst 0, 1) := by decide +kernel
theorem dX5_works_113 : decode cX5_works 113 = .ok (.istore 4, 2) := by decide +kernel
theorem dX5_works_115 : decode cX5_works 115 = .ok (.iload 4, 2) := by decide +kernel
theorem dX5_works_117 : decode cX5_works 117 = .ok (.aload_n 0, 1) := by decide +kernel
theorem dX5_works_118 : decode cX5_works 118 = .ok (.getfield 87, 3) := by decide +kernel
theorem dX5_works_121 : decode cX5_works 121 = .ok (.if_icmp .ge 28, 3) := by decide +kernel
theorem dX5_works_124 : decode cX5_works 124 = .ok (.aload_n 0, 1) := by decide +kernel
theorem dX5_works_125 : decode cX5_works 125 = .ok (.getfield 56, 3) := by decide +kernel
theorem dX5_works_128 : decode cX5_works 128 = .ok (.iload 4, 2) := by decide +kernel
theorem dX5_works_130 : decode cX5_works 130 = .ok (.iaload, 1) := by decide +kernel
theorem dX5_works_131 : decode cX5_works 131 = .ok (.iload_n 3, 1) := by decide +kernel
theorem dX5_works_132 : decode cX5_works 132 = .ok (.if_icmp .ne 11, 3) := by decide +kernel
theorem dX5_works_135 : decode cX5_works 135 = .ok (.aload_n 0, 1) := by decide +kernel
theorem dX5_works_136 : decode cX5_works 136 = .ok (.getfield 56, 3) := by decide +kernel
theorem dX5_works_139 : decode cX5_works 139 = .ok (.iload 4, 2) := by decide +kernel
theorem dX5_works_141 : decode cX5_works 141 = .ok (.iload_n 2, 1) := by decide +kernel
theorem dX5_works_142 : decode cX5_works 142 = .ok (.iastore, 1) := by decide +kernel
theorem dX5_works_143 : decode cX5_works 143 = .ok (.iinc 4 1, 3) := by decide +kernel
theorem dX5_works_146 : decode cX5_works 146 = .ok (.goto (-31), 3) := by decide +kernel
theorem dX5_works_149 : decode cX5_works 149 = .ok (.iinc 1 1, 3) := by decide +kernel
theorem dX5_works_152 : decode cX5_works 152 = .ok (.goto (-113), 3) := by decide +kernel
theorem dX5_works_155 : decode cX5_works 155 = .ok (.iconst 1, 1) := by decide +kernel
theorem dX5_works_156 : decode cX5_works 156 = .ok (.istore_n 1, 1) := by decide +kernel
theorem dX5_works_157 : decode cX5_works 157 = .ok (.iconst 0, 1) := by decide +kernel
theorem dX5_works_158 : decode cX5_works 158 = .ok (.istore_n 2, 1) := by decide +kernel
theorem dX5_works_159 : decode cX5_works 159 = .ok (.iload_n 2, 1) := by decide +kernel
theorem dX5_works_160 : decode cX5_works 160 = .ok (.aload_n 0, 1) := by decide +kernel
theorem dX5_works_161 : decode cX5_works 161 = .ok (.getfield 91, 3) := by decide +kernel
theorem dX5_works_164 : decode cX5_works 164 = .ok (.if_icmp .ge 179, 3) := by decide +kernel
theorem dX5_works_167 : decode cX5_works 167 = .ok (.aload_n 0, 1) := by decide +kernel
theorem dX5_works_168 : decode cX5_works 168 = .ok (.getfield 56, 3) := by decide +kernel
theorem dX5_works_171 : decode cX5_works 171 = .ok (.aload_n 0, 1) := by decide +kernel
theorem dX5_works_172 : decode cX5_works 172 = .ok (.getfield 13, 3) := by decide +kernel
theorem dX5_works_175 : decode cX5_works 175 = .ok (.iload_n 2, 1) := by decide +kernel
theorem dX5_works_176 : decode cX5_works 176 = .ok (.iaload, 1) := by decide +kernel
theorem dX5_works_177 : decode cX5_works 177 = .ok (.iaload, 1) := by decide +kernel
theorem dX5_works_178 : decode cX5_works 178 = .ok (.istore_n 3, 1) := by decide +kernel
theorem dX5_works_179 : decode cX5_works 179 = .ok (.aload_n 0, 1) := by decide +kernel
theorem dX5_works_180 : decode cX5_works 180 = .ok (.getfield 9, 3) := by decide +kernel
theorem dX5_works_183 : decode cX5_works 183 = .ok (.iload_n 2, 1) := by decide +kernel
theorem dX5_works_184 : decode cX5_works 184 = .ok (.iaload, 1) := by decide +kernel
theorem dX5_works_185 : decode cX5_works 185 = .ok (.iconst 1, 1) := by decide +kernel
theorem dX5_works_186 : decode cX5_works 186 = .ok (.if_icmp .ne 57, 3) := by decide +kernel
theorem dX5_works_189 : decode cX5_works 189 = .ok (.iload_n 1, 1) := by decide +kernel
theorem dX5_works_190 : decode cX5_works 190 = .ok (.ifCond .eq 32, 3) := by decide +kernel
theorem dX5_works_193 : decode cX5_works 193 = .ok (.aload_n 0, 1) := by decide +kernel
theorem dX5_works_194 : decode cX5_works 194 = .ok (.getfield 59, 3) := by decide +kernel
theorem dX5_works_197 : decode cX5_works 197 = .ok (.iload_n 3, 1) := by decide +kernel
theorem dX5_works_198 : decode cX5_works 198 = .ok (.baload, 1) := by decide +kernel
theorem dX5_works_199 : decode cX5_works 199 = .ok (.ifCond .eq 19, 3) := by decide +kernel
theorem dX5_works_202 : decode cX5_works 202 = .ok (.aload_n 0, 1) := by decide +kernel
theorem dX5_works_203 : decode cX5_works 203 = .ok (.getfield 66, 3) := by decide +kernel
theorem dX5_works_206 : decode cX5_works 206 = .ok (.iload_n 3, 1) := by decide +kernel
theorem dX5_works_207 : decode cX5_works 207 = .ok (.laload, 1) := by decide +kernel
theorem dX5_works_208 : decode cX5_works 208 = .ok (.aload_n 0, 1) := by decide +kernel
theorem dX5_works_209 : decode cX5_works 209 = .ok (.getfield 19, 3) := by decide +kernel
theorem dX5_works_212 : decode cX5_works 212 = .ok (.iload_n 2, 1) := by decide +kernel
theorem dX5_works_213 : decode cX5_works 213 = .ok (.laload, 1) := by decide +kernel
theorem dX5_works_214 : decode cX5_works 214 = .ok (.lcmp, 1) := by decide +kernel
theorem dX5_works_215 : decode cX5_works 215 = .ok (.ifCond .ne 7, 3) := by decide +kernel
theorem dX5_works_218 : decode cX5_works 218 = .ok (.iconst 1, 1) := by decide +kernel
theorem dX5_works_219 : decode cX5_works 219 = .ok (.goto 4, 3) := by decide +kernel
theorem dX5_works_222 : decode cX5_works 222 = .ok (.iconst 0, 1) := by decide +kernel
theorem dX5_works_223 : decode cX5_works 223 = .ok (.istore_n 1, 1) := by decide +kernel
theorem dX5_works_224 : decode cX5_works 224 = .ok (.aload_n 0, 1) := by decide +kernel
theorem dX5_works_225 : decode cX5_works 225 = .ok (.getfield 59, 3) := by decide +kernel
theorem dX5_works_228 : decode cX5_works 228 = .ok (.iload_n 3, 1) := by decide +kernel
theorem dX5_works_229 : decode cX5_works 229 = .ok (.iconst 1, 1) := by decide +kernel
theorem dX5_works_230 : decode cX5_works 230 = .ok (.bastore, 1) := by decide +kernel
theorem dX5_works_231 : decode cX5_works 231 = .ok (.aload_n 0, 1) := by decide +kernel
theorem dX5_works_232 : decode cX5_works 232 = .ok (.getfield 66, 3) := by decide +kernel
theorem dX5_works_235 : decode cX5_works 235 = .ok (.iload_n 3, 1) := by decide +kernel
theorem dX5_works_236 : decode cX5_works 236 = .ok (.aload_n 0, 1) := by decide +kernel
theorem dX5_works_237 : decode cX5_works 237 = .ok (.getfield 19, 3) := by decide +kernel
theorem dX5_works_240 : decode cX5_works 240 = .ok (.iload_n 2, 1) := by decide +kernel
theorem dX5_works_241 : decode cX5_works 241 = .ok (.laload, 1) := by decide +kernel
theorem dX5_works_242 : decode cX5_works 242 = .ok (.lastore, 1) := by decide +kernel
theorem dX5_works_243 : decode cX5_works 243 = .ok (.aload_n 0, 1) := by decide +kernel
theorem dX5_works_244 : decode cX5_works 244 = .ok (.getfield 9, 3) := by decide +kernel
theorem dX5_works_247 : decode cX5_works 247 = .ok (.iload_n 2, 1) := by decide +kernel
theorem dX5_works_248 : decode cX5_works 248 = .ok (.iaload, 1) := by decide +kernel
theorem dX5_works_249 : decode cX5_works 249 = .ok (.ifCond .ne 88, 3) := by decide +kernel
theorem dX5_works_252 : decode cX5_works 252 = .ok (.aload_n 0, 1) := by decide +kernel
theorem dX5_works_253 : decode cX5_works 253 = .ok (.getfield 69, 3) := by decide +kernel
theorem dX5_works_256 : decode cX5_works 256 = .ok (.iload_n 3, 1) := by decide +kernel
theorem dX5_works_257 : decode cX5_works 257 = .ok (.aload_n 0, 1) := by decide +kernel
theorem dX5_works_258 : decode cX5_works 258 = .ok (.getfield 63, 3) := by decide +kernel
theorem dX5_works_261 : decode cX5_works 261 = .ok (.iload_n 3, 1) := by decide +kernel
theorem dX5_works_262 : decode cX5_works 262 = .ok (.baload, 1) := by decide +kernel
theorem dX5_works_263 : decode cX5_works 263 = .ok (.ifCond .eq 21, 3) := by decide +kernel
theorem dX5_works_266 : decode cX5_works 266 = .ok (.aload_n 0, 1) := by decide +kernel
theorem dX5_works_267 : decode cX5_works 267 = .ok (.getfield 69, 3) := by decide +kernel
theorem dX5_works_270 : decode cX5_works 270 = .ok (.iload_n 3, 1) := by decide +kernel
theorem dX5_works_271 : decode cX5_works 271 = .ok (.laload, 1) := by decide +kernel
theorem dX5_works_272 : decode cX5_works 272 = .ok (.aload_n 0, 1) := by decide +kernel
theorem dX5_works_273 : decode cX5_works 273 = .ok (.getfield 19, 3) := by decide +kernel
theorem dX5_works_276 : decode cX5_works 276 = .ok (.iload_n 2, 1) := by decide +kernel
theorem dX5_works_277 : decode cX5_works 277 = .ok (.laload, 1) := by decide +kernel
theorem dX5_works_278 : decode cX5_works 278 = .ok (.invokestatic 103, 3) := by decide +kernel
theorem dX5_works_281 : decode cX5_works 281 = .ok (.goto 9, 3) := by decide +kernel
theorem dX5_works_284 : decode cX5_works 284 = .ok (.aload_n 0, 1) := by decide +kernel
theorem dX5_works_285 : decode cX5_works 285 = .ok (.getfield 19, 3) := by decide +kernel
theorem dX5_works_288 : decode cX5_works 288 = .ok (.iload_n 2, 1) := by decide +kernel
theorem dX5_works_289 : decode cX5_works 289 = .ok (.laload, 1) := by decide +kernel
theorem dX5_works_290 : decode cX5_works 290 = .ok (.lastore, 1) := by decide +kernel
theorem dX5_works_291 : decode cX5_works 291 = .ok (.aload_n 0, 1) := by decide +kernel
theorem dX5_works_292 : decode cX5_works 292 = .ok (.getfield 72, 3) := by decide +kernel
theorem dX5_works_295 : decode cX5_works 295 = .ok (.iload_n 3, 1) := by decide +kernel
theorem dX5_works_296 : decode cX5_works 296 = .ok (.aload_n 0, 1) := by decide +kernel
theorem dX5_works_297 : decode cX5_works 297 = .ok (.getfield 63, 3) := by decide +kernel
theorem dX5_works_300 : decode cX5_works 300 = .ok (.iload_n 3, 1) := by decide +kernel
theorem dX5_works_301 : decode cX5_works 301 = .ok (.baload, 1) := by decide +kernel
theorem dX5_works_302 : decode cX5_works 302 = .ok (.ifCond .eq 21, 3) := by decide +kernel
theorem dX5_works_305 : decode cX5_works 305 = .ok (.aload_n 0, 1) := by decide +kernel
theorem dX5_works_306 : decode cX5_works 306 = .ok (.getfield 72, 3) := by decide +kernel
theorem dX5_works_309 : decode cX5_works 309 = .ok (.iload_n 3, 1) := by decide +kernel
theorem dX5_works_310 : decode cX5_works 310 = .ok (.laload, 1) := by decide +kernel
theorem dX5_works_311 : decode cX5_works 311 = .ok (.aload_n 0, 1) := by decide +kernel
theorem dX5_works_312 : decode cX5_works 312 = .ok (.getfield 23, 3) := by decide +kernel
theorem dX5_works_315 : decode cX5_works 315 = .ok (.iload_n 2, 1) := by decide +kernel
theorem dX5_works_316 : decode cX5_works 316 = .ok (.laload, 1) := by decide +kernel
theorem dX5_works_317 : decode cX5_works 317 = .ok (.invokestatic 106, 3) := by decide +kernel
theorem dX5_works_320 : decode cX5_works 320 = .ok (.goto 9, 3) := by decide +kernel
theorem dX5_works_323 : decode cX5_works 323 = .ok (.aload_n 0, 1) := by decide +kernel
theorem dX5_works_324 : decode cX5_works 324 = .ok (.getfield 23, 3) := by decide +kernel
theorem dX5_works_327 : decode cX5_works 327 = .ok (.iload_n 2, 1) := by decide +kernel
theorem dX5_works_328 : decode cX5_works 328 = .ok (.laload, 1) := by decide +kernel
theorem dX5_works_329 : decode cX5_works 329 = .ok (.lastore, 1) := by decide +kernel
theorem dX5_works_330 : decode cX5_works 330 = .ok (.aload_n 0, 1) := by decide +kernel
theorem dX5_works_331 : decode cX5_works 331 = .ok (.getfield 63, 3) := by decide +kernel
theorem dX5_works_334 : decode cX5_works 334 = .ok (.iload_n 3, 1) := by decide +kernel
theorem dX5_works_335 : decode cX5_works 335 = .ok (.iconst 1, 1) := by decide +kernel
theorem dX5_works_336 : decode cX5_works 336 = .ok (.bastore, 1) := by decide +kernel
theorem dX5_works_337 : decode cX5_works 337 = .ok (.iinc 2 1, 3) := by decide +kernel
theorem dX5_works_340 : decode cX5_works 340 = .ok (.goto (-181), 3) := by decide +kernel
theorem dX5_works_343 : decode cX5_works 343 = .ok (.iconst 0, 1) := by decide +kernel
theorem dX5_works_344 : decode cX5_works 344 = .ok (.istore_n 2, 1) := by decide +kernel
theorem dX5_works_345 : decode cX5_works 345 = .ok (.iload_n 2, 1) := by decide +kernel
theorem dX5_works_346 : decode cX5_works 346 = .ok (.aload_n 0, 1) := by decide +kernel
theorem dX5_works_347 : decode cX5_works 347 = .ok (.getfield 87, 3) := by decide +kernel
theorem dX5_works_350 : decode cX5_works 350 = .ok (.if_icmp .ge 77, 3) := by decide +kernel
theorem dX5_works_353 : decode cX5_works 353 = .ok (.aload_n 0, 1) := by decide +kernel
theorem dX5_works_354 : decode cX5_works 354 = .ok (.getfield 63, 3) := by decide +kernel
theorem dX5_works_357 : decode cX5_works 357 = .ok (.iload_n 2, 1) := by decide +kernel
theorem dX5_works_358 : decode cX5_works 358 = .ok (.baload, 1) := by decide +kernel
theorem dX5_works_359 : decode cX5_works 359 = .ok (.ifCond .eq 62, 3) := by decide +kernel
theorem dX5_works_362 : decode cX5_works 362 = .ok (.aload_n 0, 1) := by decide +kernel
theorem dX5_works_363 : decode cX5_works 363 = .ok (.getfield 69, 3) := by decide +kernel
theorem dX5_works_366 : decode cX5_works 366 = .ok (.iload_n 2, 1) := by decide +kernel
theorem dX5_works_367 : decode cX5_works 367 = .ok (.laload, 1) := by decide +kernel
theorem dX5_works_368 : decode cX5_works 368 = .ok (.aload_n 0, 1) := by decide +kernel
theorem dX5_works_369 : decode cX5_works 369 = .ok (.getfield 72, 3) := by decide +kernel
theorem dX5_works_372 : decode cX5_works 372 = .ok (.iload_n 2, 1) := by decide +kernel
theorem dX5_works_373 : decode cX5_works 373 = .ok (.laload, 1) := by decide +kernel
theorem dX5_works_374 : decode cX5_works 374 = .ok (.lcmp, 1) := by decide +kernel
theorem dX5_works_375 : decode cX5_works 375 = .ok (.ifCond .gt 44, 3) := by decide +kernel
theorem dX5_works_378 : decode cX5_works 378 = .ok (.aload_n 0, 1) := by decide +kernel
theorem dX5_works_379 : decode cX5_works 379 = .ok (.getfield 59, 3) := by decide +kernel
theorem dX5_works_382 : decode cX5_works 382 = .ok (.iload_n 2, 1) := by decide +kernel
theorem dX5_works_383 : decode cX5_works 383 = .ok (.baload, 1) := by decide +kernel
theorem dX5_works_384 : decode cX5_works 384 = .ok (.ifCond .eq 37, 3) := by decide +kernel
theorem dX5_works_387 : decode cX5_works 387 = .ok (.aload_n 0, 1) := by decide +kernel
theorem dX5_works_388 : decode cX5_works 388 = .ok (.getfield 66, 3) := by decide +kernel
end
section
theorem dX5_works_391 : decode cX5_works 391 = .ok (.iload_n 2, 1) := by decide +kernel
theorem dX5_works_392 : decode cX5_works 392 = .ok (.laload, 1) := by decide +kernel
theorem dX5_works_393 : decode cX5_works 393 = .ok (.aload_n 0, 1) := by decide +kernel
theorem dX5_works_394 : decode cX5_works 394 = .ok (.getfield 69, 3) := by decide +kernel
theorem dX5_works_397 : decode cX5_works 397 = .ok (.iload_n 2, 1) := by decide +kernel
theorem dX5_works_398 : decode cX5_works 398 = .ok (.laload, 1) := by decide +kernel
theorem dX5_works_399 : decode cX5_works 399 = .ok (.lcmp, 1) := by decide +kernel
theorem dX5_works_400 : decode cX5_works 400 = .ok (.ifCond .lt 19, 3) := by decide +kernel
theorem dX5_works_403 : decode cX5_works 403 = .ok (.aload_n 0, 1) := by decide +kernel
theorem dX5_works_404 : decode cX5_works 404 = .ok (.getfield 66, 3) := by decide +kernel
theorem dX5_works_407 : decode cX5_works 407 = .ok (.iload_n 2, 1) := by decide +kernel
theorem dX5_works_408 : decode cX5_works 408 = .ok (.laload, 1) := by decide +kernel
theorem dX5_works_409 : decode cX5_works 409 = .ok (.aload_n 0, 1) := by decide +kernel
theorem dX5_works_410 : decode cX5_works 410 = .ok (.getfield 72, 3) := by decide +kernel
theorem dX5_works_413 : decode cX5_works 413 = .ok (.iload_n 2, 1) := by decide +kernel
theorem dX5_works_414 : decode cX5_works 414 = .ok (.laload, 1) := by decide +kernel
theorem dX5_works_415 : decode cX5_works 415 = .ok (.lcmp, 1) := by decide +kernel
theorem dX5_works_416 : decode cX5_works 416 = .ok (.ifCond .le 5, 3) := by decide +kernel
theorem dX5_works_419 : decode cX5_works 419 = .ok (.iconst 0, 1) := by decide +kernel
theorem dX5_works_420 : decode cX5_works 420 = .ok (.istore_n 1, 1) := by decide +kernel
theorem dX5_works_421 : decode cX5_works 421 = .ok (.iinc 2 1, 3) := by decide +kernel
theorem dX5_works_424 : decode cX5_works 424 = .ok (.goto (-79), 3) := by decide +kernel
theorem dX5_works_427 : decode cX5_works 427 = .ok (.iconst 0, 1) := by decide +kernel
theorem dX5_works_428 : decode cX5_works 428 = .ok (.istore_n 2, 1) := by decide +kernel
theorem dX5_works_429 : decode cX5_works 429 = .ok (.iload_n 2, 1) := by decide +kernel
theorem dX5_works_430 : decode cX5_works 430 = .ok (.aload_n 0, 1) := by decide +kernel
theorem dX5_works_431 : decode cX5_works 431 = .ok (.getfield 108, 3) := by decide +kernel
theorem dX5_works_434 : decode cX5_works 434 = .ok (.if_icmp .ge 27, 3) := by decide +kernel
theorem dX5_works_437 : decode cX5_works 437 = .ok (.iload_n 1, 1) := by decide +kernel
theorem dX5_works_438 : decode cX5_works 438 = .ok (.ifCond .eq 15, 3) := by decide +kernel
theorem dX5_works_441 : decode cX5_works 441 = .ok (.aload_n 0, 1) := by decide +kernel
theorem dX5_works_442 : decode cX5_works 442 = .ok (.iload_n 2, 1) := by decide +kernel
theorem dX5_works_443 : decode cX5_works 443 = .ok (.invokevirtual 111, 3) := by decide +kernel
theorem dX5_works_446 : decode cX5_works 446 = .ok (.ifCond .eq 7, 3) := by decide +kernel
theorem dX5_works_449 : decode cX5_works 449 = .ok (.iconst 1, 1) := by decide +kernel
theorem dX5_works_450 : decode cX5_works 450 = .ok (.goto 4, 3) := by decide +kernel
theorem dX5_works_453 : decode cX5_works 453 = .ok (.iconst 0, 1) := by decide +kernel
theorem dX5_works_454 : decode cX5_works 454 = .ok (.istore_n 1, 1) := by decide +kernel
theorem dX5_works_455 : decode cX5_works 455 = .ok (.iinc 2 1, 3) := by decide +kernel
theorem dX5_works_458 : decode cX5_works 458 = .ok (.goto (-29), 3) := by decide +kernel
theorem dX5_works_461 : decode cX5_works 461 = .ok (.iload_n 1, 1) := by decide +kernel
theorem dX5_works_462 : decode cX5_works 462 = .ok (.ireturn, 1) := by decide +kernel
theorem dX5_isKnown_0 : decode cX5_isKnown 0 = .ok (.aload_n 0, 1) := by decide +kernel
theorem dX5_isKnown_1 : decode cX5_isKnown 1 = .ok (.getfield 59, 3) := by decide +kernel
theorem dX5_isKnown_4 : decode cX5_isKnown 4 = .ok (.aload_n 0, 1) := by decide +kernel
theorem dX5_isKnown_5 : decode cX5_isKnown 5 = .ok (.getfield 56, 3) := by decide +kernel
theorem dX5_isKnown_8 : decode cX5_isKnown 8 = .ok (.iload_n 1, 1) := by decide +kernel
theorem dX5_isKnown_9 : decode cX5_isKnown 9 = .ok (.iaload, 1) := by decide +kernel
theorem dX5_isKnown_10 : decode cX5_isKnown 10 = .ok (.baload, 1) := by decide +kernel
theorem dX5_isKnown_11 : decode cX5_isKnown 11 = .ok (.ifCond .ne 17, 3) := by decide +kernel
theorem dX5_isKnown_14 : decode cX5_isKnown 14 = .ok (.aload_n 0, 1) := by decide +kernel
theorem dX5_isKnown_15 : decode cX5_isKnown 15 = .ok (.getfield 75, 3) := by decide +kernel
theorem dX5_isKnown_18 : decode cX5_isKnown 18 = .ok (.aload_n 0, 1) := by decide +kernel
theorem dX5_isKnown_19 : decode cX5_isKnown 19 = .ok (.getfield 56, 3) := by decide +kernel
theorem dX5_isKnown_22 : decode cX5_isKnown 22 = .ok (.iload_n 1, 1) := by decide +kernel
theorem dX5_isKnown_23 : decode cX5_isKnown 23 = .ok (.iaload, 1) := by decide +kernel
theorem dX5_isKnown_24 : decode cX5_isKnown 24 = .ok (.baload, 1) := by decide +kernel
theorem dX5_isKnown_25 : decode cX5_isKnown 25 = .ok (.ifCond .eq 7, 3) := by decide +kernel
theorem dX5_isKnown_28 : decode cX5_isKnown 28 = .ok (.iconst 1, 1) := by decide +kernel
theorem dX5_isKnown_29 : decode cX5_isKnown 29 = .ok (.goto 4, 3) := by decide +kernel
theorem dX5_isKnown_32 : decode cX5_isKnown 32 = .ok (.iconst 0, 1) := by decide +kernel
theorem dX5_isKnown_33 : decode cX5_isKnown 33 = .ok (.ireturn, 1) := by decide +kernel
theorem dX5_numberOf_0 : decode cX5_numberOf 0 = .ok (.aload_n 0, 1) := by decide +kernel
theorem dX5_numberOf_1 : decode cX5_numberOf 1 = .ok (.getfield 59, 3) := by decide +kernel
theorem dX5_numberOf_4 : decode cX5_numberOf 4 = .ok (.aload_n 0, 1) := by decide +kernel
theorem dX5_numberOf_5 : decode cX5_numberOf 5 = .ok (.getfield 56, 3) := by decide +kernel
theorem dX5_numberOf_8 : decode cX5_numberOf 8 = .ok (.iload_n 1, 1) := by decide +kernel
theorem dX5_numberOf_9 : decode cX5_numberOf 9 = .ok (.iaload, 1) := by decide +kernel
theorem dX5_numberOf_10 : decode cX5_numberOf 10 = .ok (.baload, 1) := by decide +kernel
theorem dX5_numberOf_11 : decode cX5_numberOf 11 = .ok (.ifCond .eq 17, 3) := by decide +kernel
theorem dX5_numberOf_14 : decode cX5_numberOf 14 = .ok (.aload_n 0, 1) := by decide +kernel
theorem dX5_numberOf_15 : decode cX5_numberOf 15 = .ok (.getfield 66, 3) := by decide +kernel
theorem dX5_numberOf_18 : decode cX5_numberOf 18 = .ok (.aload_n 0, 1) := by decide +kernel
theorem dX5_numberOf_19 : decode cX5_numberOf 19 = .ok (.getfield 56, 3) := by decide +kernel
theorem dX5_numberOf_22 : decode cX5_numberOf 22 = .ok (.iload_n 1, 1) := by decide +kernel
theorem dX5_numberOf_23 : decode cX5_numberOf 23 = .ok (.iaload, 1) := by decide +kernel
theorem dX5_numberOf_24 : decode cX5_numberOf 24 = .ok (.laload, 1) := by decide +kernel
theorem dX5_numberOf_25 : decode cX5_numberOf 25 = .ok (.goto 14, 3) := by decide +kernel
theorem dX5_numberOf_28 : decode cX5_numberOf 28 = .ok (.aload_n 0, 1) := by decide +kernel
theorem dX5_numberOf_29 : decode cX5_numberOf 29 = .ok (.getfield 78, 3) := by decide +kernel
theorem dX5_numberOf_32 : decode cX5_numberOf 32 = .ok (.aload_n 0, 1) := by decide +kernel
theorem dX5_numberOf_33 : decode cX5_numberOf 33 = .ok (.getfield 56, 3) := by decide +kernel
theorem dX5_numberOf_36 : decode cX5_numberOf 36 = .ok (.iload_n 1, 1) := by decide +kernel
theorem dX5_numberOf_37 : decode cX5_numberOf 37 = .ok (.iaload, 1) := by decide +kernel
theorem dX5_numberOf_38 : decode cX5_numberOf 38 = .ok (.laload, 1) := by decide +kernel
theorem dX5_numberOf_39 : decode cX5_numberOf 39 = .ok (.lreturn, 1) := by decide +kernel
set_option maxRecDepth 20000 in
theorem ggX5_holds_X5_isKnown : GoodIn wsX5_holds wsX5_isKnown := goodIn_r _ [10, 11, 12, 13, 20, 21, 22, 23, 24, 25, 26, 27, 28, 29, 30, 31, 32, 33, 34, 35, 36, 37, 38, 39, 40, 41, 42, 43, 44, 45, 46, 47, 48, 49, 50, 51, 52, 53] (by decide +kernel) (by decide +kernel)
set_option maxRecDepth 20000 in
theorem gX5_holds_X5_isKnown : GoodIn wsX5_holds (wsV RX5 115 RX5 yX5_isKnown wsX5_isKnown) := goodIn_app (goodIn_of _ (by decide +kernel)) ggX5_holds_X5_isKnown
set_option maxRecDepth 20000 in
theorem ggX5_holds_X5_numberOf : GoodIn wsX5_holds wsX5_numberOf := goodIn_r _ [17, 11, 12, 18, 19, 20, 21, 22, 23, 24, 25, 26, 27, 28, 29, 30, 31, 32, 33, 34, 35, 36, 37, 38, 39, 40, 41, 42, 43, 44, 45, 46, 47, 48, 49, 50, 51, 52, 53] (by decide +kernel) (by decide +kernel)
set_option maxRecDepth 20000 in
theorem gX5_holds_X5_numberOf : GoodIn wsX5_holds (wsV RX5 118 RX5 yX5_numberOf wsX5_numberOf) := goodIn_app (goodIn_of _ (by decide +kernel)) ggX5_holds_X5_numberOf
theorem dX5_holds_0 : decode cX5_holds 0 = .ok (.lconst 0, 1) := by decide +kernel
theorem dX5_holds_1 : decode cX5_holds 1 = .ok (.lstore_n 2, 1) := by decide +kernel
theorem dX5_holds_2 : decode cX5_holds 2 = .ok (.iconst 0, 1) := by decide +kernel
theorem dX5_holds_3 : decode cX5_holds 3 = .ok (.istore 4, 2) := by decide +kernel
theorem dX5_holds_5 : decode cX5_holds 5 = .ok (.iload 4, 2) := by decide +kernel
theorem dX5_holds_7 : decode cX5_holds 7 = .ok (.aload_n 0, 1) := by decide +kernel
theorem dX5_holds_8 : decode cX5_holds 8 = .ok (.getfield 35, 3) := by decide +kernel
theorem dX5_holds_11 : decode cX5_holds 11 = .ok (.iload_n 1, 1) := by decide +kernel
theorem dX5_holds_12 : decode cX5_holds 12 = .ok (.iaload, 1) := by decide +kernel
theorem dX5_holds_13 : decode cX5_holds 13 = .ok (.if_icmp .ge 56, 3) := by decide +kernel
theorem dX5_holds_16 : decode cX5_holds 16 = .ok (.aload_n 0, 1) := by decide +kernel
theorem dX5_holds_17 : decode cX5_holds 17 = .ok (.getfield 38, 3) := by decide +kernel
theorem dX5_holds_20 : decode cX5_holds 20 = .ok (.bipush 32, 2) := by decide +kernel
theorem dX5_holds_22 : decode cX5_holds 22 = .ok (.iload_n 1, 1) := by decide +kernel
theorem dX5_holds_23 : decode cX5_holds 23 = .ok (.imul, 1) := by decide +kernel
theorem dX5_holds_24 : decode cX5_holds 24 = .ok (.iload 4, 2) := by decide +kernel
theorem dX5_holds_26 : decode cX5_holds 26 = .ok (.iadd, 1) := by decide +kernel
theorem dX5_holds_27 : decode cX5_holds 27 = .ok (.iaload, 1) := by decide +kernel
theorem dX5_holds_28 : decode cX5_holds 28 = .ok (.istore 5, 2) := by decide +kernel
theorem dX5_holds_30 : decode cX5_holds 30 = .ok (.aload_n 0, 1) := by decide +kernel
theorem dX5_holds_31 : decode cX5_holds 31 = .ok (.iload 5, 2) := by decide +kernel
theorem dX5_holds_33 : decode cX5_holds 33 = .ok (.invokevirtual 115, 3) := by decide +kernel
theorem dX5_holds_36 : decode cX5_holds 36 = .ok (.ifCond .ne 5, 3) := by decide +kernel
theorem dX5_holds_39 : decode cX5_holds 39 = .ok (.iconst 1, 1) := by decide +kernel
theorem dX5_holds_40 : decode cX5_holds 40 = .ok (.ireturn, 1) := by decide +kernel
theorem dX5_holds_41 : decode cX5_holds 41 = .ok (.lload_n 2, 1) := by decide +kernel
theorem dX5_holds_42 : decode cX5_holds 42 = .ok (.aload_n 0, 1) := by decide +kernel
theorem dX5_holds_43 : decode cX5_holds 43 = .ok (.getfield 41, 3) := by decide +kernel
theorem dX5_holds_46 : decode cX5_holds 46 = .ok (.bipush 32, 2) := by decide +kernel
theorem dX5_holds_48 : decode cX5_holds 48 = .ok (.iload_n 1, 1) := by decide +kernel
theorem dX5_holds_49 : decode cX5_holds 49 = .ok (.imul, 1) := by decide +kernel
theorem dX5_holds_50 : decode cX5_holds 50 = .ok (.iload 4, 2) := by decide +kernel
theorem dX5_holds_52 : decode cX5_holds 52 = .ok (.iadd, 1) := by decide +kernel
theorem dX5_holds_53 : decode cX5_holds 53 = .ok (.laload, 1) := by decide +kernel
theorem dX5_holds_54 : decode cX5_holds 54 = .ok (.aload_n 0, 1) := by decide +kernel
theorem dX5_holds_55 : decode cX5_holds 55 = .ok (.iload 5, 2) := by decide +kernel
theorem dX5_holds_57 : decode cX5_holds 57 = .ok (.invokevirtual 118, 3) := by decide +kernel
theorem dX5_holds_60 : decode cX5_holds 60 = .ok (.lmul, 1) := by decide +kernel
theorem dX5_holds_61 : decode cX5_holds 61 = .ok (.ladd, 1) := by decide +kernel
theorem dX5_holds_62 : decode cX5_holds 62 = .ok (.lstore_n 2, 1) := by decide +kernel
theorem dX5_holds_63 : decode cX5_holds 63 = .ok (.iinc 4 1, 3) := by decide +kernel
theorem dX5_holds_66 : decode cX5_holds 66 = .ok (.goto (-61), 3) := by decide +kernel
theorem dX5_holds_69 : decode cX5_holds 69 = .ok (.aload_n 0, 1) := by decide +kernel
theorem dX5_holds_70 : decode cX5_holds 70 = .ok (.getfield 32, 3) := by decide +kernel
theorem dX5_holds_73 : decode cX5_holds 73 = .ok (.iload_n 1, 1) := by decide +kernel
theorem dX5_holds_74 : decode cX5_holds 74 = .ok (.iaload, 1) := by decide +kernel
theorem dX5_holds_75 : decode cX5_holds 75 = .ok (.ifCond .ne 20, 3) := by decide +kernel
theorem dX5_holds_78 : decode cX5_holds 78 = .ok (.lload_n 2, 1) := by decide +kernel
theorem dX5_holds_79 : decode cX5_holds 79 = .ok (.aload_n 0, 1) := by decide +kernel
theorem dX5_holds_80 : decode cX5_holds 80 = .ok (.getfield 44, 3) := by decide +kernel
theorem dX5_holds_83 : decode cX5_holds 83 = .ok (.iload_n 1, 1) := by decide +kernel
theorem dX5_holds_84 : decode cX5_holds 84 = .ok (.laload, 1) := by decide +kernel
theorem dX5_holds_85 : decode cX5_holds 85 = .ok (.lcmp, 1) := by decide +kernel
theorem dX5_holds_86 : decode cX5_holds 86 = .ok (.ifCond .gt 7, 3) := by decide +kernel
theorem dX5_holds_89 : decode cX5_holds 89 = .ok (.iconst 1, 1) := by decide +kernel
theorem dX5_holds_90 : decode cX5_holds 90 = .ok (.goto 4, 3) := by decide +kernel
theorem dX5_holds_93 : decode cX5_holds 93 = .ok (.iconst 0, 1) := by decide +kernel
theorem dX5_holds_94 : decode cX5_holds 94 = .ok (.ireturn, 1) := by decide +kernel
theorem dX5_holds_95 : decode cX5_holds 95 = .ok (.aload_n 0, 1) := by decide +kernel
theorem dX5_holds_96 : decode cX5_holds 96 = .ok (.getfield 32, 3) := by decide +kernel
theorem dX5_holds_99 : decode cX5_holds 99 = .ok (.iload_n 1, 1) := by decide +kernel
theorem dX5_holds_100 : decode cX5_holds 100 = .ok (.iaload, 1) := by decide +kernel
theorem dX5_holds_101 : decode cX5_holds 101 = .ok (.iconst 1, 1) := by decide +kernel
theorem dX5_holds_102 : decode cX5_holds 102 = .ok (.if_icmp .ne 20, 3) := by decide +kernel
theorem dX5_holds_105 : decode cX5_holds 105 = .ok (.lload_n 2, 1) := by decide +kernel
theorem dX5_holds_106 : decode cX5_holds 106 = .ok (.aload_n 0, 1) := by decide +kernel
theorem dX5_holds_107 : decode cX5_holds 107 = .ok (.getfield 44, 3) := by decide +kernel
theorem dX5_holds_110 : decode cX5_holds 110 = .ok (.iload_n 1, 1) := by decide +kernel
theorem dX5_holds_111 : decode cX5_holds 111 = .ok (.laload, 1) := by decide +kernel
theorem dX5_holds_112 : decode cX5_holds 112 = .ok (.lcmp, 1) := by decide +kernel
theorem dX5_holds_113 : decode cX5_holds 113 = .ok (.ifCond .ne 7, 3) := by decide +kernel
theorem dX5_holds_116 : decode cX5_holds 116 = .ok (.iconst 1, 1) := by decide +kernel
theorem dX5_holds_117 : decode cX5_holds 117 = .ok (.goto 4, 3) := by decide +kernel
theorem dX5_holds_120 : decode cX5_holds 120 = .ok (.iconst 0, 1) := by decide +kernel
theorem dX5_holds_121 : decode cX5_holds 121 = .ok (.ireturn, 1) := by decide +kernel
theorem dX5_holds_122 : decode cX5_holds 122 = .ok (.iconst 0, 1) := by decide +kernel
theorem dX5_holds_123 : decode cX5_holds 123 = .ok (.istore 4, 2) := by decide +kernel
theorem dX5_holds_125 : decode cX5_holds 125 = .ok (.iload 4, 2) := by decide +kernel
theorem dX5_holds_127 : decode cX5_holds 127 = .ok (.aload_n 0, 1) := by decide +kernel
theorem dX5_holds_128 : decode cX5_holds 128 = .ok (.getfield 35, 3) := by decide +kernel
theorem dX5_holds_131 : decode cX5_holds 131 = .ok (.iload_n 1, 1) := by decide +kernel
theorem dX5_holds_132 : decode cX5_holds 132 = .ok (.iaload, 1) := by decide +kernel
theorem dX5_holds_133 : decode cX5_holds 133 = .ok (.if_icmp .ge 63, 3) := by decide +kernel
theorem dX5_holds_136 : decode cX5_holds 136 = .ok (.iconst 0, 1) := by decide +kernel
theorem dX5_holds_137 : decode cX5_holds 137 = .ok (.istore 5, 2) := by decide +kernel
theorem dX5_holds_139 : decode cX5_holds 139 = .ok (.iload 5, 2) := by decide +kernel
theorem dX5_holds_141 : decode cX5_holds 141 = .ok (.iload 4, 2) := by decide +kernel
theorem dX5_holds_143 : decode cX5_holds 143 = .ok (.if_icmp .ge 47, 3) := by decide +kernel
theorem dX5_holds_146 : decode cX5_holds 146 = .ok (.aload_n 0, 1) := by decide +kernel
theorem dX5_holds_147 : decode cX5_holds 147 = .ok (.aload_n 0, 1) := by decide +kernel
theorem dX5_holds_148 : decode cX5_holds 148 = .ok (.getfield 38, 3) := by decide +kernel
theorem dX5_holds_151 : decode cX5_holds 151 = .ok (.bipush 32, 2) := by decide +kernel
theorem dX5_holds_153 : decode cX5_holds 153 = .ok (.iload_n 1, 1) := by decide +kernel
theorem dX5_holds_154 : decode cX5_holds 154 = .ok (.imul, 1) := by decide +kernel
theorem dX5_holds_155 : decode cX5_holds 155 = .ok (.iload 4, 2) := by decide +kernel
theorem dX5_holds_157 : decode cX5_holds 157 = .ok (.iadd, 1) := by decide +kernel
theorem dX5_holds_158 : decode cX5_holds 158 = .ok (.iaload, 1) := by decide +kernel
theorem dX5_holds_159 : decode cX5_holds 159 = .ok (.invokevirtual 118, 3) := by decide +kernel
theorem dX5_holds_162 : decode cX5_holds 162 = .ok (.aload_n 0, 1) := by decide +kernel
theorem dX5_holds_163 : decode cX5_holds 163 = .ok (.aload_n 0, 1) := by decide +kernel
theorem dX5_holds_164 : decode cX5_holds 164 = .ok (.getfield 38, 3) := by decide +kernel
theorem dX5_holds_167 : decode cX5_holds 167 = .ok (.bipush 32, 2) := by decide +kernel
theorem dX5_holds_169 : decode cX5_holds 169 = .ok (.iload_n 1, 1) := by decide +kernel
theorem dX5_holds_170 : decode cX5_holds 170 = .ok (.imul, 1) := by decide +kernel
theorem dX5_holds_171 : decode cX5_holds 171 = .ok (.iload 5, 2) := by decide +kernel
theorem dX5_holds_173 : decode cX5_holds 173 = .ok (.iadd, 1) := by decide +kernel
theorem dX5_holds_174 : decode cX5_holds 174 = .ok (.iaload, 1) := by decide +kernel
theorem dX5_holds_175 : decode cX5_holds 175 = .ok (.invokevirtual 118, 3) := by decide +kernel
theorem dX5_holds_178 : decode cX5_holds 178 = .ok (.lcmp, 1) := by decide +kernel
theorem dX5_holds_179 : decode cX5_holds 179 = .ok (.ifCond .ne 5, 3) := by decide +kernel
theorem dX5_holds_182 : decode cX5_holds 182 = .ok (.iconst 0, 1) := by decide +kernel
theorem dX5_holds_183 : decode cX5_holds 183 = .ok (.ireturn, 1) := by decide +kernel
theorem dX5_holds_184 : decode cX5_holds 184 = .ok (.iinc 5 1, 3) := by decide +kernel
theorem dX5_holds_187 : decode cX5_holds 187 = .ok (.goto (-48), 3) := by decide +kernel
theorem dX5_holds_190 : decode cX5_holds 190 = .ok (.iinc 4 1, 3) := by decide +kernel
theorem dX5_holds_193 : decode cX5_holds 193 = .ok (.goto (-68), 3) := by decide +kernel
theorem dX5_holds_196 : decode cX5_holds 196 = .ok (.iconst 1, 1) := by decide +kernel
theorem dX5_holds_197 : decode cX5_holds 197 = .ok (.ireturn, 1) := by decide +kernel
set_option maxRecDepth 20000 in
theorem ggX5_tells_X5_works : GoodIn wsX5_tells wsX5_works := goodIn_r _ [11, 12, 13, 14, 15, 2, 1, 3, 4, 16, 17, 18, 19, 20, 21, 22, 23, 5, 24, 25, 26, 27, 28, 6, 29, 30, 31, 32, 33, 34, 35, 10, 36, 37, 38, 39, 40, 41, 42, 43, 44, 45, 46, 47, 48, 49, 50, 51, 59, 60, 61, 62, 63, 64, 65, 66, 67, 68, 69, 70, 71, 72, 73, 74, 75, 76, 77, 78, 79, 80, 81, 82, 83, 84, 85, 86, 87, 88, 89, 90, 91, 92] (by decide +kernel) (by decide +kernel)
set_option maxRecDepth 20000 in
theorem gX5_tells_X5_works : GoodIn wsX5_tells (wsV RX5 122 RX5 yX5_works wsX5_works) := goodIn_app (goodIn_of _ (by decide +kernel)) ggX5_tells_X5_works
set_option maxRecDepth 20000 in
theorem ggX5_tells_X5_forget : GoodIn wsX5_tells wsX5_forget := goodIn_r _ [55, 56, 57, 58, 59, 60, 61, 62, 63, 64, 65, 66, 67, 68, 69, 70, 71, 72, 73, 74, 75, 76, 77, 78, 79, 80, 81, 82, 83, 84, 85, 86, 87, 88, 89, 90, 91, 92] (by decide +kernel) (by decide +kernel)
set_option maxRecDepth 20000 in
theorem gX5_tells_X5_forget : GoodIn wsX5_tells (wsV RX5 126 RX5 yX5_forget wsX5_forget) := goodIn_app (goodIn_of _ (by decide +kernel)) ggX5_tells_X5_forget
theorem dX5_tells_0 : decode cX5_tells 0 = .ok (.aload_n 0, 1) := by decide +kernel
theorem dX5_tells_1 : decode cX5_tells 1 = .ok (.getfield 9, 3) := by decide +kernel
theorem dX5_tells_4 : decode cX5_tells 4 = .ok (.aload_n 0, 1) := by decide +kernel
theorem dX5_tells_5 : decode cX5_tells 5 = .ok (.getfield 91, 3) := by decide +kernel
theorem dX5_tells_8 : decode cX5_tells 8 = .ok (.iload_n 1, 1) := by decide +kernel
theorem dX5_tells_9 : decode cX5_tells 9 = .ok (.iastore, 1) := by decide +kernel
theorem dX5_tells_10 : decode cX5_tells 10 = .ok (.aload_n 0, 1) := by decide +kernel
theorem dX5_tells_11 : decode cX5_tells 11 = .ok (.getfield 13, 3) := by decide +kernel
theorem dX5_tells_14 : decode cX5_tells 14 = .ok (.aload_n 0, 1) := by decide +kernel
theorem dX5_tells_15 : decode cX5_tells 15 = .ok (.getfield 91, 3) := by decide +kernel
theorem dX5_tells_18 : decode cX5_tells 18 = .ok (.iload_n 2, 1) := by decide +kernel
theorem dX5_tells_19 : decode cX5_tells 19 = .ok (.iastore, 1) := by decide +kernel
theorem dX5_tells_20 : decode cX5_tells 20 = .ok (.aload_n 0, 1) := by decide +kernel
theorem dX5_tells_21 : decode cX5_tells 21 = .ok (.getfield 16, 3) := by decide +kernel
theorem dX5_tells_24 : decode cX5_tells 24 = .ok (.aload_n 0, 1) := by decide +kernel
theorem dX5_tells_25 : decode cX5_tells 25 = .ok (.getfield 91, 3) := by decide +kernel
theorem dX5_tells_28 : decode cX5_tells 28 = .ok (.iload_n 3, 1) := by decide +kernel
theorem dX5_tells_29 : decode cX5_tells 29 = .ok (.iastore, 1) := by decide +kernel
theorem dX5_tells_30 : decode cX5_tells 30 = .ok (.aload_n 0, 1) := by decide +kernel
theorem dX5_tells_31 : decode cX5_tells 31 = .ok (.getfield 19, 3) := by decide +kernel
theorem dX5_tells_34 : decode cX5_tells 34 = .ok (.aload_n 0, 1) := by decide +kernel
theorem dX5_tells_35 : decode cX5_tells 35 = .ok (.getfield 91, 3) := by decide +kernel
theorem dX5_tells_38 : decode cX5_tells 38 = .ok (.lload 4, 2) := by decide +kernel
theorem dX5_tells_40 : decode cX5_tells 40 = .ok (.lastore, 1) := by decide +kernel
theorem dX5_tells_41 : decode cX5_tells 41 = .ok (.aload_n 0, 1) := by decide +kernel
theorem dX5_tells_42 : decode cX5_tells 42 = .ok (.getfield 23, 3) := by decide +kernel
theorem dX5_tells_45 : decode cX5_tells 45 = .ok (.aload_n 0, 1) := by decide +kernel
theorem dX5_tells_46 : decode cX5_tells 46 = .ok (.getfield 91, 3) := by decide +kernel
theorem dX5_tells_49 : decode cX5_tells 49 = .ok (.lload 6, 2) := by decide +kernel
theorem dX5_tells_51 : decode cX5_tells 51 = .ok (.lastore, 1) := by decide +kernel
theorem dX5_tells_52 : decode cX5_tells 52 = .ok (.aload_n 0, 1) := by decide +kernel
theorem dX5_tells_53 : decode cX5_tells 53 = .ok (.dup, 1) := by decide +kernel
theorem dX5_tells_54 : decode cX5_tells 54 = .ok (.getfield 91, 3) := by decide +kernel
theorem dX5_tells_57 : decode cX5_tells 57 = .ok (.iconst 1, 1) := by decide +kernel
theorem dX5_tells_58 : decode cX5_tells 58 = .ok (.iadd, 1) := by decide +kernel
theorem dX5_tells_59 : decode cX5_tells 59 = .ok (.putfield 91, 3) := by decide +kernel
theorem dX5_tells_62 : decode cX5_tells 62 = .ok (.aload_n 0, 1) := by decide +kernel
theorem dX5_tells_63 : decode cX5_tells 63 = .ok (.invokevirtual 122, 3) := by decide +kernel
theorem dX5_tells_66 : decode cX5_tells 66 = .ok (.ifCond .eq 9, 3) := by decide +kernel
theorem dX5_tells_69 : decode cX5_tells 69 = .ok (.aload_n 0, 1) := by decide +kernel
theorem dX5_tells_70 : decode cX5_tells 70 = .ok (.invokevirtual 126, 3) := by decide +kernel
theorem dX5_tells_73 : decode cX5_tells 73 = .ok (.iconst 1, 1) := by decide +kernel
theorem dX5_tells_74 : decode cX5_tells 74 = .ok (.ireturn, 1) := by decide +kernel
theorem dX5_tells_75 : decode cX5_tells 75 = .ok (.aload_n 0, 1) := by decide +kernel
theorem dX5_tells_76 : decode cX5_tells 76 = .ok (.dup, 1) := by decide +kernel
theorem dX5_tells_77 : decode cX5_tells 77 = .ok (.getfield 91, 3) := by decide +kernel
theorem dX5_tells_80 : decode cX5_tells 80 = .ok (.iconst 1, 1) := by decide +kernel
theorem dX5_tells_81 : decode cX5_tells 81 = .ok (.isub, 1) := by decide +kernel
theorem dX5_tells_82 : decode cX5_tells 82 = .ok (.putfield 91, 3) := by decide +kernel
theorem dX5_tells_85 : decode cX5_tells 85 = .ok (.aload_n 0, 1) := by decide +kernel
theorem dX5_tells_86 : decode cX5_tells 86 = .ok (.invokevirtual 122, 3) := by decide +kernel
theorem dX5_tells_89 : decode cX5_tells 89 = .ok (.istore 8, 2) := by decide +kernel
theorem dX5_tells_91 : decode cX5_tells 91 = .ok (.iconst 0, 1) := by decide +kernel
theorem dX5_tells_92 : decode cX5_tells 92 = .ok (.ireturn, 1) := by decide +kernel
set_option maxRecDepth 20000 in
theorem ggX5_name_X5_works : GoodIn wsX5_name wsX5_works := goodIn_r _ [6, 1, 7, 8, 9, 10, 11, 12, 13, 14, 15, 16, 17, 18, 19, 20, 21, 22, 23, 24, 25, 26, 27, 28, 29, 30, 31, 32, 33, 34, 35, 5, 36, 37, 38, 39, 40, 41, 42, 43, 44, 45, 46, 47, 48, 49, 50, 51, 59, 60, 61, 62, 63, 64, 65, 66, 67, 68, 69, 70, 71, 72, 73, 74, 75, 76, 77, 78, 79, 80, 81, 82, 83, 84, 85, 86, 87, 88, 89, 90, 91, 92] (by decide +kernel) (by decide +kernel)
set_option maxRecDepth 20000 in
theorem gX5_name_X5_works : GoodIn wsX5_name (wsV RX5 122 RX5 yX5_works wsX5_works) := goodIn_app (goodIn_of _ (by decide +kernel)) ggX5_name_X5_works
set_option maxRecDepth 20000 in
theorem ggX5_name_X5_forget : GoodIn wsX5_name wsX5_forget := goodIn_r _ [55, 56, 57, 58, 59, 60, 61, 62, 63, 64, 65, 66, 67, 68, 69, 70, 71, 72, 73, 74, 75, 76, 77, 78, 79, 80, 81, 82, 83, 84, 85, 86, 87, 88, 89, 90, 91, 92] (by decide +kernel) (by decide +kernel)
set_option maxRecDepth 20000 in
theorem gX5_name_X5_forget : GoodIn wsX5_name (wsV RX5 126 RX5 yX5_forget wsX5_forget) := goodIn_app (goodIn_of _ (by decide +kernel)) ggX5_name_X5_forget
theorem dX5_name_0 : decode cX5_name 0 = .ok (.aload_n 0, 1) := by decide +kernel
theorem dX5_name_1 : decode cX5_name 1 = .ok (.getfield 87, 3) := by decide +kernel
theorem dX5_name_4 : decode cX5_name 4 = .ok (.bipush 64, 2) := by decide +kernel
theorem dX5_name_6 : decode cX5_name 6 = .ok (.if_icmp .ne 5, 3) := by decide +kernel
theorem dX5_name_9 : decode cX5_name 9 = .ok (.iconst (-1), 1) := by decide +kernel
theorem dX5_name_10 : decode cX5_name 10 = .ok (.ireturn, 1) := by decide +kernel
theorem dX5_name_11 : decode cX5_name 11 = .ok (.aload_n 0, 1) := by decide +kernel
theorem dX5_name_12 : decode cX5_name 12 = .ok (.dup, 1) := by decide +kernel
theorem dX5_name_13 : decode cX5_name 13 = .ok (.getfield 87, 3) := by decide +kernel
theorem dX5_name_16 : decode cX5_name 16 = .ok (.iconst 1, 1) := by decide +kernel
theorem dX5_name_17 : decode cX5_name 17 = .ok (.iadd, 1) := by decide +kernel
theorem dX5_name_18 : decode cX5_name 18 = .ok (.putfield 87, 3) := by decide +kernel
theorem dX5_name_21 : decode cX5_name 21 = .ok (.aload_n 0, 1) := by decide +kernel
theorem dX5_name_22 : decode cX5_name 22 = .ok (.invokevirtual 122, 3) := by decide +kernel
theorem dX5_name_25 : decode cX5_name 25 = .ok (.istore_n 1, 1) := by decide +kernel
theorem dX5_name_26 : decode cX5_name 26 = .ok (.aload_n 0, 1) := by decide +kernel
theorem dX5_name_27 : decode cX5_name 27 = .ok (.invokevirtual 126, 3) := by decide +kernel
theorem dX5_name_30 : decode cX5_name 30 = .ok (.aload_n 0, 1) := by decide +kernel
theorem dX5_name_31 : decode cX5_name 31 = .ok (.getfield 87, 3) := by decide +kernel
theorem dX5_name_34 : decode cX5_name 34 = .ok (.iconst 1, 1) := by decide +kernel
theorem dX5_name_35 : decode cX5_name 35 = .ok (.isub, 1) := by decide +kernel
theorem dX5_name_36 : decode cX5_name 36 = .ok (.ireturn, 1) := by decide +kernel
set_option maxRecDepth 20000 in
theorem ggX5_span_X5_isName : GoodIn wsX5_span wsX5_isName := goodIn_r _ [5, 6, 67, 68, 69, 70, 71, 72, 73, 74, 75, 76, 77, 78, 79, 80, 81, 82, 83, 84, 85, 86, 87, 88, 89, 90, 91, 92, 93, 94, 95, 96, 97, 98, 99, 100] (by decide +kernel) (by decide +kernel)
set_option maxRecDepth 20000 in
theorem gX5_span_X5_isName : GoodIn wsX5_span (wsV RX5 129 RX5 yX5_isName wsX5_isName) := goodIn_app (goodIn_of _ (by decide +kernel)) ggX5_span_X5_isName
set_option maxRecDepth 20000 in
theorem ggX5_span_X5_tells : GoodIn wsX5_span wsX5_tells := goodIn_r _ [10, 11, 12, 13, 14, 15, 16, 17, 18, 19, 4, 20, 6, 21, 22, 23, 24, 25, 26, 27, 28, 29, 30, 31, 32, 33, 34, 35, 36, 37, 38, 39, 40, 41, 42, 43, 44, 45, 46, 47, 48, 49, 50, 51, 52, 53, 54, 55, 56, 57, 58, 59, 60, 61, 62, 63, 64, 65, 66, 67, 68, 69, 70, 71, 72, 73, 74, 75, 76, 77, 78, 79, 80, 81, 82, 83, 84, 85, 86, 87, 88, 89, 90, 91, 92, 93, 94, 95, 96, 97, 98, 99, 100] (by decide +kernel) (by decide +kernel)
set_option maxRecDepth 20000 in
theorem gX5_span_X5_tells : GoodIn wsX5_span (wsV RX5 132 RX5 yX5_tells wsX5_tells) := goodIn_app (goodIn_of _ (by decide +kernel)) ggX5_span_X5_tells
theorem dX5_span_0 : decode cX5_span 0 = .ok (.aload_n 0, 1) := by decide +kernel
theorem dX5_span_1 : decode cX5_span 1 = .ok (.iload_n 1, 1) := by decide +kernel
theorem dX5_span_2 : decode cX5_span 2 = .ok (.invokevirtual 129, 3) := by decide +kernel
theorem dX5_span_5 : decode cX5_span 5 = .ok (.ifCond .eq 20, 3) := by decide +kernel
theorem dX5_span_8 : decode cX5_span 8 = .ok (.aload_n 0, 1) := by decide +kernel
theorem dX5_span_9 : decode cX5_span 9 = .ok (.iconst 0, 1) := by decide +kernel
theorem dX5_span_10 : decode cX5_span 10 = .ok (.iload_n 1, 1) := by decide +kernel
theorem dX5_span_11 : decode cX5_span 11 = .ok (.iload_n 1, 1) := by decide +kernel
theorem dX5_span_12 : decode cX5_span 12 = .ok (.lload_n 2, 1) := by decide +kernel
theorem dX5_span_13 : decode cX5_span 13 = .ok (.lload 4, 2) := by decide +kernel
theorem dX5_span_15 : decode cX5_span 15 = .ok (.invokevirtual 132, 3) := by decide +kernel
theorem dX5_span_18 : decode cX5_span 18 = .ok (.ifCond .eq 7, 3) := by decide +kernel
theorem dX5_span_21 : decode cX5_span 21 = .ok (.iconst 1, 1) := by decide +kernel
theorem dX5_span_22 : decode cX5_span 22 = .ok (.goto 4, 3) := by decide +kernel
theorem dX5_span_25 : decode cX5_span 25 = .ok (.iconst 0, 1) := by decide +kernel
theorem dX5_span_26 : decode cX5_span 26 = .ok (.ireturn, 1) := by decide +kernel
set_option maxRecDepth 20000 in
theorem ggX5_give_X5_isName : GoodIn wsX5_give wsX5_isName := goodIn_r _ [5, 6, 67, 68, 69, 70, 71, 72, 73, 74, 75, 76, 77, 78, 79, 80, 81, 82, 83, 84, 85, 86, 87, 88, 89, 90, 91, 92, 93, 94, 95, 96, 97, 98, 99, 100] (by decide +kernel) (by decide +kernel)
set_option maxRecDepth 20000 in
theorem gX5_give_X5_isName : GoodIn wsX5_give (wsV RX5 129 RX5 yX5_isName wsX5_isName) := goodIn_app (goodIn_of _ (by decide +kernel)) ggX5_give_X5_isName
set_option maxRecDepth 20000 in
theorem ggX5_give_X5_tells : GoodIn wsX5_give wsX5_tells := goodIn_r _ [10, 11, 12, 13, 14, 15, 16, 17, 18, 19, 4, 20, 6, 21, 22, 23, 24, 25, 26, 27, 28, 29, 30, 31, 32, 33, 34, 35, 36, 37, 38, 39, 40, 41, 42, 43, 44, 45, 46, 47, 48, 49, 50, 51, 52, 53, 54, 55, 56, 57, 58, 59, 60, 61, 62, 63, 64, 65, 66, 67, 68, 69, 70, 71, 72, 73, 74, 75, 76, 77, 78, 79, 80, 81, 82, 83, 84, 85, 86, 87, 88, 89, 90, 91, 92, 93, 94, 95, 96, 97, 98, 99, 100] (by decide +kernel) (by decide +kernel)
set_option maxRecDepth 20000 in
theorem gX5_give_X5_tells : GoodIn wsX5_give (wsV RX5 132 RX5 yX5_tells wsX5_tells) := goodIn_app (goodIn_of _ (by decide +kernel)) ggX5_give_X5_tells
theorem dX5_give_0 : decode cX5_give 0 = .ok (.aload_n 0, 1) := by decide +kernel
theorem dX5_give_1 : decode cX5_give 1 = .ok (.iload_n 1, 1) := by decide +kernel
theorem dX5_give_2 : decode cX5_give 2 = .ok (.invokevirtual 129, 3) := by decide +kernel
theorem dX5_give_5 : decode cX5_give 5 = .ok (.ifCond .eq 19, 3) := by decide +kernel
theorem dX5_give_8 : decode cX5_give 8 = .ok (.aload_n 0, 1) := by decide +kernel
theorem dX5_give_9 : decode cX5_give 9 = .ok (.iconst 1, 1) := by decide +kernel
theorem dX5_give_10 : decode cX5_give 10 = .ok (.iload_n 1, 1) := by decide +kernel
theorem dX5_give_11 : decode cX5_give 11 = .ok (.iload_n 1, 1) := by decide +kernel
theorem dX5_give_12 : decode cX5_give 12 = .ok (.lload_n 2, 1) := by decide +kernel
theorem dX5_give_13 : decode cX5_give 13 = .ok (.lload_n 2, 1) := by decide +kernel
theorem dX5_give_14 : decode cX5_give 14 = .ok (.invokevirtual 132, 3) := by decide +kernel
theorem dX5_give_17 : decode cX5_give 17 = .ok (.ifCond .eq 7, 3) := by decide +kernel
theorem dX5_give_20 : decode cX5_give 20 = .ok (.iconst 1, 1) := by decide +kernel
theorem dX5_give_21 : decode cX5_give 21 = .ok (.goto 4, 3) := by decide +kernel
theorem dX5_give_24 : decode cX5_give 24 = .ok (.iconst 0, 1) := by decide +kernel
theorem dX5_give_25 : decode cX5_give 25 = .ok (.ireturn, 1) := by decide +kernel
set_option maxRecDepth 20000 in
theorem ggX5_equal_X5_isName : GoodIn wsX5_equal wsX5_isName := goodIn_r _ [5, 6, 67, 68, 69, 70, 71, 72, 73, 74, 75, 76, 77, 78, 79, 80, 81, 82, 83, 84, 85, 86, 87, 88, 89, 90, 91, 92, 93, 94, 95, 96, 97, 98, 99, 100] (by decide +kernel) (by decide +kernel)
set_option maxRecDepth 20000 in
theorem gX5_equal_X5_isName : GoodIn wsX5_equal (wsV RX5 129 RX5 yX5_isName wsX5_isName) := goodIn_app (goodIn_of _ (by decide +kernel)) ggX5_equal_X5_isName
set_option maxRecDepth 20000 in
theorem ggX5_equal_X5_tells : GoodIn wsX5_equal wsX5_tells := goodIn_r _ [10, 11, 12, 13, 14, 15, 16, 17, 18, 19, 4, 20, 6, 21, 22, 23, 24, 25, 26, 27, 28, 29, 30, 31, 32, 33, 34, 35, 36, 37, 38, 39, 40, 41, 42, 43, 44, 45, 46, 47, 48, 49, 50, 51, 52, 53, 54, 55, 56, 57, 58, 59, 60, 61, 62, 63, 64, 65, 66, 67, 68, 69, 70, 71, 72, 73, 74, 75, 76, 77, 78, 79, 80, 81, 82, 83, 84, 85, 86, 87, 88, 89, 90, 91, 92, 93, 94, 95, 96, 97, 98, 99, 100] (by decide +kernel) (by decide +kernel)
set_option maxRecDepth 20000 in
theorem gX5_equal_X5_tells : GoodIn wsX5_equal (wsV RX5 132 RX5 yX5_tells wsX5_tells) := goodIn_app (goodIn_of _ (by decide +kernel)) ggX5_equal_X5_tells
theorem dX5_equal_0 : decode cX5_equal 0 = .ok (.aload_n 0, 1) := by decide +kernel
theorem dX5_equal_1 : decode cX5_equal 1 = .ok (.iload_n 1, 1) := by decide +kernel
theorem dX5_equal_2 : decode cX5_equal 2 = .ok (.invokevirtual 129, 3) := by decide +kernel
theorem dX5_equal_5 : decode cX5_equal 5 = .ok (.ifCond .eq 27, 3) := by decide +kernel
theorem dX5_equal_8 : decode cX5_equal 8 = .ok (.aload_n 0, 1) := by decide +kernel
theorem dX5_equal_9 : decode cX5_equal 9 = .ok (.iload_n 2, 1) := by decide +kernel
theorem dX5_equal_10 : decode cX5_equal 10 = .ok (.invokevirtual 129, 3) := by decide +kernel
theorem dX5_equal_13 : decode cX5_equal 13 = .ok (.ifCond .eq 19, 3) := by decide +kernel
theorem dX5_equal_16 : decode cX5_equal 16 = .ok (.aload_n 0, 1) := by decide +kernel
theorem dX5_equal_17 : decode cX5_equal 17 = .ok (.iconst 2, 1) := by decide +kernel
theorem dX5_equal_18 : decode cX5_equal 18 = .ok (.iload_n 1, 1) := by decide +kernel
theorem dX5_equal_19 : decode cX5_equal 19 = .ok (.iload_n 2, 1) := by decide +kernel
theorem dX5_equal_20 : decode cX5_equal 20 = .ok (.lconst 0, 1) := by decide +kernel
theorem dX5_equal_21 : decode cX5_equal 21 = .ok (.lconst 0, 1) := by decide +kernel
theorem dX5_equal_22 : decode cX5_equal 22 = .ok (.invokevirtual 132, 3) := by decide +kernel
theorem dX5_equal_25 : decode cX5_equal 25 = .ok (.ifCond .eq 7, 3) := by decide +kernel
theorem dX5_equal_28 : decode cX5_equal 28 = .ok (.iconst 1, 1) := by decide +kernel
theorem dX5_equal_29 : decode cX5_equal 29 = .ok (.goto 4, 3) := by decide +kernel
theorem dX5_equal_32 : decode cX5_equal 32 = .ok (.iconst 0, 1) := by decide +kernel
theorem dX5_equal_33 : decode cX5_equal 33 = .ok (.ireturn, 1) := by decide +kernel
set_option maxRecDepth 20000 in
theorem ggX5_put_X5_isName : GoodIn wsX5_put wsX5_isName := goodIn_r _ [8, 9, 10, 11, 12, 13, 14, 15, 16, 17, 18, 19, 20, 21, 22, 23, 24, 25, 26, 27, 28, 29, 30, 31, 32, 33, 34, 35, 36, 37, 38, 39, 40, 41, 42, 43] (by decide +kernel) (by decide +kernel)
set_option maxRecDepth 20000 in
theorem gX5_put_X5_isName : GoodIn wsX5_put (wsV RX5 129 RX5 yX5_isName wsX5_isName) := goodIn_app (goodIn_of _ (by decide +kernel)) ggX5_put_X5_isName
theorem dX5_put_0 : decode cX5_put 0 = .ok (.aload_n 0, 1) := by decide +kernel
theorem dX5_put_1 : decode cX5_put 1 = .ok (.iload_n 1, 1) := by decide +kernel
theorem dX5_put_2 : decode cX5_put 2 = .ok (.invokevirtual 129, 3) := by decide +kernel
theorem dX5_put_5 : decode cX5_put 5 = .ok (.ifCond .eq 12, 3) := by decide +kernel
theorem dX5_put_8 : decode cX5_put 8 = .ok (.aload_n 0, 1) := by decide +kernel
theorem dX5_put_9 : decode cX5_put 9 = .ok (.getfield 136, 3) := by decide +kernel
theorem dX5_put_12 : decode cX5_put 12 = .ok (.bipush 32, 2) := by decide +kernel
theorem dX5_put_14 : decode cX5_put 14 = .ok (.if_icmp .ne 5, 3) := by decide +kernel
theorem dX5_put_17 : decode cX5_put 17 = .ok (.iconst (-1), 1) := by decide +kernel
theorem dX5_put_18 : decode cX5_put 18 = .ok (.ireturn, 1) := by decide +kernel
theorem dX5_put_19 : decode cX5_put 19 = .ok (.aload_n 0, 1) := by decide +kernel
theorem dX5_put_20 : decode cX5_put 20 = .ok (.getfield 26, 3) := by decide +kernel
theorem dX5_put_23 : decode cX5_put 23 = .ok (.aload_n 0, 1) := by decide +kernel
theorem dX5_put_24 : decode cX5_put 24 = .ok (.getfield 136, 3) := by decide +kernel
theorem dX5_put_27 : decode cX5_put 27 = .ok (.iload_n 1, 1) := by decide +kernel
theorem dX5_put_28 : decode cX5_put 28 = .ok (.iastore, 1) := by decide +kernel
theorem dX5_put_29 : decode cX5_put 29 = .ok (.aload_n 0, 1) := by decide +kernel
theorem dX5_put_30 : decode cX5_put 30 = .ok (.getfield 29, 3) := by decide +kernel
theorem dX5_put_33 : decode cX5_put 33 = .ok (.aload_n 0, 1) := by decide +kernel
theorem dX5_put_34 : decode cX5_put 34 = .ok (.getfield 136, 3) := by decide +kernel
theorem dX5_put_37 : decode cX5_put 37 = .ok (.lload_n 2, 1) := by decide +kernel
theorem dX5_put_38 : decode cX5_put 38 = .ok (.lastore, 1) := by decide +kernel
theorem dX5_put_39 : decode cX5_put 39 = .ok (.aload_n 0, 1) := by decide +kernel
theorem dX5_put_40 : decode cX5_put 40 = .ok (.dup, 1) := by decide +kernel
theorem dX5_put_41 : decode cX5_put 41 = .ok (.getfield 136, 3) := by decide +kernel
theorem dX5_put_44 : decode cX5_put 44 = .ok (.iconst 1, 1) := by decide +kernel
theorem dX5_put_45 : decode cX5_put 45 = .ok (.iadd, 1) := by decide +kernel
theorem dX5_put_46 : decode cX5_put 46 = .ok (.putfield 136, 3) := by decide +kernel
theorem dX5_put_49 : decode cX5_put 49 = .ok (.aload_n 0, 1) := by decide +kernel
theorem dX5_put_50 : decode cX5_put 50 = .ok (.getfield 136, 3) := by decide +kernel
theorem dX5_put_53 : decode cX5_put 53 = .ok (.ireturn, 1) := by decide +kernel
set_option maxRecDepth 20000 in
theorem ggX5_keep_X5_forget : GoodIn wsX5_keep wsX5_forget := goodIn_r _ [14, 15, 16, 17, 35, 36, 37, 38, 39, 40, 41, 42, 43, 44, 45, 46, 47, 48, 49, 50, 51, 52, 53, 54, 55, 56, 57, 58, 59, 60, 61, 62, 63, 64, 65, 66, 67, 68] (by decide +kernel) (by decide +kernel)
set_option maxRecDepth 20000 in
theorem gX5_keep_X5_forget : GoodIn wsX5_keep (wsV RX5 126 RX5 yX5_forget wsX5_forget) := goodIn_app (goodIn_of _ (by decide +kernel)) ggX5_keep_X5_forget
set_option maxRecDepth 20000 in
theorem ggX5_keep_X5_holds : GoodIn wsX5_keep wsX5_holds := goodIn_r _ [21, 4, 6, 8, 3, 5, 22, 23, 24, 13, 25, 26, 27, 28, 29, 30, 31, 32, 33, 34, 35, 36, 37, 38, 39, 40, 41, 42, 43, 44, 45, 46, 47, 48, 49, 50, 51, 52, 53, 54, 55, 56, 57, 58, 59, 60, 61, 62, 63, 64, 65, 66, 67, 68] (by decide +kernel) (by decide +kernel)
set_option maxRecDepth 20000 in
theorem gX5_keep_X5_holds : GoodIn wsX5_keep (wsV RX5 111 RX5 yX5_holds wsX5_holds) := goodIn_app (goodIn_of _ (by decide +kernel)) ggX5_keep_X5_holds
theorem dX5_keep_0 : decode cX5_keep 0 = .ok (.aload_n 0, 1) := by decide +kernel
theorem dX5_keep_1 : decode cX5_keep 1 = .ok (.invokevirtual 126, 3) := by decide +kernel
theorem dX5_keep_4 : decode cX5_keep 4 = .ok (.aload_n 0, 1) := by decide +kernel
theorem dX5_keep_5 : decode cX5_keep 5 = .ok (.getfield 136, 3) := by decide +kernel
theorem dX5_keep_8 : decode cX5_keep 8 = .ok (.istore 4, 2) := by decide +kernel
theorem dX5_keep_10 : decode cX5_keep 10 = .ok (.aload_n 0, 1) := by decide +kernel
theorem dX5_keep_11 : decode cX5_keep 11 = .ok (.iconst 0, 1) := by decide +kernel
theorem dX5_keep_12 : decode cX5_keep 12 = .ok (.putfield 136, 3) := by decide +kernel
theorem dX5_keep_15 : decode cX5_keep 15 = .ok (.iload_n 1, 1) := by decide +kernel
theorem dX5_keep_16 : decode cX5_keep 16 = .ok (.ifCond .lt 17, 3) := by decide +kernel
theorem dX5_keep_19 : decode cX5_keep 19 = .ok (.iload_n 1, 1) := by decide +kernel
theorem dX5_keep_20 : decode cX5_keep 20 = .ok (.iconst 2, 1) := by decide +kernel
theorem dX5_keep_21 : decode cX5_keep 21 = .ok (.if_icmp .gt 12, 3) := by decide +kernel
theorem dX5_keep_24 : decode cX5_keep 24 = .ok (.aload_n 0, 1) := by decide +kernel
theorem dX5_keep_25 : decode cX5_keep 25 = .ok (.getfield 108, 3) := by decide +kernel
theorem dX5_keep_28 : decode cX5_keep 28 = .ok (.bipush 60, 2) := by decide +kernel
theorem dX5_keep_30 : decode cX5_keep 30 = .ok (.if_icmp .ne 5, 3) := by decide +kernel
theorem dX5_keep_33 : decode cX5_keep 33 = .ok (.iconst (-1), 1) := by decide +kernel
theorem dX5_keep_34 : decode cX5_keep 34 = .ok (.ireturn, 1) := by decide +kernel
theorem dX5_keep_35 : decode cX5_keep 35 = .ok (.aload_n 0, 1) := by decide +kernel
theorem dX5_keep_36 : decode cX5_keep 36 = .ok (.getfield 32, 3) := by decide +kernel
theorem dX5_keep_39 : decode cX5_keep 39 = .ok (.aload_n 0, 1) := by decide +kernel
theorem dX5_keep_40 : decode cX5_keep 40 = .ok (.getfield 108, 3) := by decide +kernel
theorem dX5_keep_43 : decode cX5_keep 43 = .ok (.iload_n 1, 1) := by decide +kernel
theorem dX5_keep_44 : decode cX5_keep 44 = .ok (.iastore, 1) := by decide +kernel
theorem dX5_keep_45 : decode cX5_keep 45 = .ok (.aload_n 0, 1) := by decide +kernel
theorem dX5_keep_46 : decode cX5_keep 46 = .ok (.getfield 35, 3) := by decide +kernel
theorem dX5_keep_49 : decode cX5_keep 49 = .ok (.aload_n 0, 1) := by decide +kernel
theorem dX5_keep_50 : decode cX5_keep 50 = .ok (.getfield 108, 3) := by decide +kernel
theorem dX5_keep_53 : decode cX5_keep 53 = .ok (.iload 4, 2) := by decide +kernel
theorem dX5_keep_55 : decode cX5_keep 55 = .ok (.iastore, 1) := by decide +kernel
theorem dX5_keep_56 : decode cX5_keep 56 = .ok (.aload_n 0, 1) := by decide +kernel
theorem dX5_keep_57 : decode cX5_keep 57 = .ok (.getfield 44, 3) := by decide +kernel
theorem dX5_keep_60 : decode cX5_keep 60 = .ok (.aload_n 0, 1) := by decide +kernel
theorem dX5_keep_61 : decode cX5_keep 61 = .ok (.getfield 108, 3) := by decide +kernel
theorem dX5_keep_64 : decode cX5_keep 64 = .ok (.lload_n 2, 1) := by decide +kernel
theorem dX5_keep_65 : decode cX5_keep 65 = .ok (.lastore, 1) := by decide +kernel
theorem dX5_keep_66 : decode cX5_keep 66 = .ok (.iconst 0, 1) := by decide +kernel
theorem dX5_keep_67 : decode cX5_keep 67 = .ok (.istore 5, 2) := by decide +kernel
theorem dX5_keep_69 : decode cX5_keep 69 = .ok (.iload 5, 2) := by decide +kernel
theorem dX5_keep_71 : decode cX5_keep 71 = .ok (.iload 4, 2) := by decide +kernel
theorem dX5_keep_73 : decode cX5_keep 73 = .ok (.if_icmp .ge 53, 3) := by decide +kernel
theorem dX5_keep_76 : decode cX5_keep 76 = .ok (.aload_n 0, 1) := by decide +kernel
theorem dX5_keep_77 : decode cX5_keep 77 = .ok (.getfield 38, 3) := by decide +kernel
theorem dX5_keep_80 : decode cX5_keep 80 = .ok (.bipush 32, 2) := by decide +kernel
theorem dX5_keep_82 : decode cX5_keep 82 = .ok (.aload_n 0, 1) := by decide +kernel
theorem dX5_keep_83 : decode cX5_keep 83 = .ok (.getfield 108, 3) := by decide +kernel
theorem dX5_keep_86 : decode cX5_keep 86 = .ok (.imul, 1) := by decide +kernel
theorem dX5_keep_87 : decode cX5_keep 87 = .ok (.iload 5, 2) := by decide +kernel
theorem dX5_keep_89 : decode cX5_keep 89 = .ok (.iadd, 1) := by decide +kernel
theorem dX5_keep_90 : decode cX5_keep 90 = .ok (.aload_n 0, 1) := by decide +kernel
theorem dX5_keep_91 : decode cX5_keep 91 = .ok (.getfield 26, 3) := by decide +kernel
theorem dX5_keep_94 : decode cX5_keep 94 = .ok (.iload 5, 2) := by decide +kernel
theorem dX5_keep_96 : decode cX5_keep 96 = .ok (.iaload, 1) := by decide +kernel
theorem dX5_keep_97 : decode cX5_keep 97 = .ok (.iastore, 1) := by decide +kernel
theorem dX5_keep_98 : decode cX5_keep 98 = .ok (.aload_n 0, 1) := by decide +kernel
theorem dX5_keep_99 : decode cX5_keep 99 = .ok (.getfield 41, 3) := by decide +kernel
theorem dX5_keep_102 : decode cX5_keep 102 = .ok (.bipush 32, 2) := by decide +kernel
theorem dX5_keep_104 : decode cX5_keep 104 = .ok (.aload_n 0, 1) := by decide +kernel
theorem dX5_keep_105 : decode cX5_keep 105 = .ok (.getfield 108, 3) := by decide +kernel
theorem dX5_keep_108 : decode cX5_keep 108 = .ok (.imul, 1) := by decide +kernel
theorem dX5_keep_109 : decode cX5_keep 109 = .ok (.iload 5, 2) := by decide +kernel
theorem dX5_keep_111 : decode cX5_keep 111 = .ok (.iadd, 1) := by decide +kernel
theorem dX5_keep_112 : decode cX5_keep 112 = .ok (.aload_n 0, 1) := by decide +kernel
theorem dX5_keep_113 : decode cX5_keep 113 = .ok (.getfield 29, 3) := by decide +kernel
theorem dX5_keep_116 : decode cX5_keep 116 = .ok (.iload 5, 2) := by decide +kernel
theorem dX5_keep_118 : decode cX5_keep 118 = .ok (.laload, 1) := by decide +kernel
theorem dX5_keep_119 : decode cX5_keep 119 = .ok (.lastore, 1) := by decide +kernel
theorem dX5_keep_120 : decode cX5_keep 120 = .ok (.iinc 5 1, 3) := by decide +kernel
theorem dX5_keep_123 : decode cX5_keep 123 = .ok (.goto (-54), 3) := by decide +kernel
theorem dX5_keep_126 : decode cX5_keep 126 = .ok (.aload_n 0, 1) := by decide +kernel
theorem dX5_keep_127 : decode cX5_keep 127 = .ok (.aload_n 0, 1) := by decide +kernel
theorem dX5_keep_128 : decode cX5_keep 128 = .ok (.getfield 108, 3) := by decide +kernel
theorem dX5_keep_131 : decode cX5_keep 131 = .ok (.invokevirtual 111, 3) := by decide +kernel
theorem dX5_keep_134 : decode cX5_keep 134 = .ok (.ifCond .ne 5, 3) := by decide +kernel
theorem dX5_keep_137 : decode cX5_keep 137 = .ok (.iconst 0, 1) := by decide +kernel
theorem dX5_keep_138 : decode cX5_keep 138 = .ok (.ireturn, 1) := by decide +kernel
theorem dX5_keep_139 : decode cX5_keep 139 = .ok (.aload_n 0, 1) := by decide +kernel
theorem dX5_keep_140 : decode cX5_keep 140 = .ok (.dup, 1) := by decide +kernel
theorem dX5_keep_141 : decode cX5_keep 141 = .ok (.getfield 108, 3) := by decide +kernel
theorem dX5_keep_144 : decode cX5_keep 144 = .ok (.iconst 1, 1) := by decide +kernel
theorem dX5_keep_145 : decode cX5_keep 145 = .ok (.iadd, 1) := by decide +kernel
theorem dX5_keep_146 : decode cX5_keep 146 = .ok (.putfield 108, 3) := by decide +kernel
theorem dX5_keep_149 : decode cX5_keep 149 = .ok (.iconst 1, 1) := by decide +kernel
theorem dX5_keep_150 : decode cX5_keep 150 = .ok (.ireturn, 1) := by decide +kernel
theorem dX5_forget_0 : decode cX5_forget 0 = .ok (.aload_n 0, 1) := by decide +kernel
theorem dX5_forget_1 : decode cX5_forget 1 = .ok (.iconst 0, 1) := by decide +kernel
theorem dX5_forget_2 : decode cX5_forget 2 = .ok (.putfield 139, 3) := by decide +kernel
theorem dX5_forget_5 : decode cX5_forget 5 = .ok (.aload_n 0, 1) := by decide +kernel
theorem dX5_forget_6 : decode cX5_forget 6 = .ok (.iconst 0, 1) := by decide +kernel
theorem dX5_forget_7 : decode cX5_forget 7 = .ok (.putfield 143, 3) := by decide +kernel
theorem dX5_forget_10 : decode cX5_forget 10 = .ok (.aload_n 0, 1) := by decide +kernel
theorem dX5_forget_11 : decode cX5_forget 11 = .ok (.iconst 0, 1) := by decide +kernel
theorem dX5_forget_12 : decode cX5_forget 12 = .ok (.putfield 146, 3) := by decide +kernel
theorem dX5_forget_15 : decode cX5_forget 15 = .ok (.return_, 1) := by decide +kernel
theorem dX5_collect_0 : decode cX5_collect 0 = .ok (.iconst 0, 1) := by decide +kernel
theorem dX5_collect_1 : decode cX5_collect 1 = .ok (.istore_n 1, 1) := by decide +kernel
theorem dX5_collect_2 : decode cX5_collect 2 = .ok (.iconst 1, 1) := by decide +kernel
theorem dX5_collect_3 : decode cX5_collect 3 = .ok (.istore_n 2, 1) := by decide +kernel
theorem dX5_collect_4 : decode cX5_collect 4 = .ok (.iconst 0, 1) := by decide +kernel
theorem dX5_collect_5 : decode cX5_collect 5 = .ok (.istore_n 3, 1) := by decide +kernel
theorem dX5_collect_6 : decode cX5_collect 6 = .ok (.iload_n 3, 1) := by decide +kernel
theorem dX5_collect_7 : decode cX5_collect 7 = .ok (.aload_n 0, 1) := by decide +kernel
theorem dX5_collect_8 : decode cX5_collect 8 = .ok (.getfield 136, 3) := by decide +kernel
theorem dX5_collect_11 : decode cX5_collect 11 = .ok (.if_icmp .ge 109, 3) := by decide +kernel
theorem dX5_collect_14 : decode cX5_collect 14 = .ok (.aload_n 0, 1) := by decide +kernel
theorem dX5_collect_15 : decode cX5_collect 15 = .ok (.getfield 56, 3) := by decide +kernel
theorem dX5_collect_18 : decode cX5_collect 18 = .ok (.aload_n 0, 1) := by decide +kernel
theorem dX5_collect_19 : decode cX5_collect 19 = .ok (.getfield 26, 3) := by decide +kernel
theorem dX5_collect_22 : decode cX5_collect 22 = .ok (.iload_n 3, 1) := by decide +kernel
theorem dX5_collect_23 : decode cX5_collect 23 = .ok (.iaload, 1) := by decide +kernel
theorem dX5_collect_24 : decode cX5_collect 24 = .ok (.iaload, 1) := by decide +kernel
theorem dX5_collect_25 : decode cX5_collect 25 = .ok (.istore 4, 2) := by decide +kernel
theorem dX5_collect_27 : decode cX5_collect 27 = .ok (.aload_n 0, 1) := by decide +kernel
theorem dX5_collect_28 : decode cX5_collect 28 = .ok (.getfield 59, 3) := by decide +kernel
theorem dX5_collect_31 : decode cX5_collect 31 = .ok (.iload 4, 2) := by decide +kernel
theorem dX5_collect_33 : decode cX5_collect 33 = .ok (.baload, 1) := by decide +kernel
theorem dX5_collect_34 : decode cX5_collect 34 = .ok (.istore 5, 2) := by decide +kernel
theorem dX5_collect_36 : decode cX5_collect 36 = .ok (.iconst 0, 1) := by decide +kernel
theorem dX5_collect_37 : decode cX5_collect 37 = .ok (.istore 6, 2) := by decide +kernel
theorem dX5_collect_39 : decode cX5_collect 39 = .ok (.iload 6, 2) := by decide +kernel
theorem dX5_collect_41 : decode cX5_collect 41 = .ok (.iload_n 1, 1) := by decide +kernel
theorem dX5_collect_42 : decode cX5_collect 42 = .ok (.if_icmp .ge 33, 3) := by decide +kernel
theorem dX5_collect_45 : decode cX5_collect 45 = .ok (.iload 5, 2) := by decide +kernel
theorem dX5_collect_47 : decode cX5_collect 47 = .ok (.ifCond .ne 15, 3) := by decide +kernel
theorem dX5_collect_50 : decode cX5_collect 50 = .ok (.aload_n 0, 1) := by decide +kernel
theorem dX5_collect_51 : decode cX5_collect 51 = .ok (.getfield 81, 3) := by decide +kernel
theorem dX5_collect_54 : decode cX5_collect 54 = .ok (.iload 6, 2) := by decide +kernel
theorem dX5_collect_56 : decode cX5_collect 56 = .ok (.iaload, 1) := by decide +kernel
theorem dX5_collect_57 : decode cX5_collect 57 = .ok (.iload 4, 2) := by decide +kernel
theorem dX5_collect_59 : decode cX5_collect 59 = .ok (.if_icmp .ne 7, 3) := by decide +kernel
theorem dX5_collect_62 : decode cX5_collect 62 = .ok (.iconst 1, 1) := by decide +kernel
theorem dX5_collect_63 : decode cX5_collect 63 = .ok (.goto 4, 3) := by decide +kernel
theorem dX5_collect_66 : decode cX5_collect 66 = .ok (.iconst 0, 1) := by decide +kernel
theorem dX5_collect_67 : decode cX5_collect 67 = .ok (.istore 5, 2) := by decide +kernel
theorem dX5_collect_69 : decode cX5_collect 69 = .ok (.iinc 6 1, 3) := by decide +kernel
theorem dX5_collect_72 : decode cX5_collect 72 = .ok (.goto (-33), 3) := by decide +kernel
theorem dX5_collect_75 : decode cX5_collect 75 = .ok (.iload 5, 2) := by decide +kernel
theorem dX5_collect_77 : decode cX5_collect 77 = .ok (.ifCond .eq 6, 3) := by decide +kernel
theorem dX5_collect_80 : decode cX5_collect 80 = .ok (.goto 34, 3) := by decide +kernel
theorem dX5_collect_83 : decode cX5_collect 83 = .ok (.iload_n 2, 1) := by decide +kernel
theorem dX5_collect_84 : decode cX5_collect 84 = .ok (.ifCond .eq 17, 3) := by decide +kernel
theorem dX5_collect_87 : decode cX5_collect 87 = .ok (.aload_n 0, 1) := by decide +kernel
theorem dX5_collect_88 : decode cX5_collect 88 = .ok (.getfield 63, 3) := by decide +kernel
theorem dX5_collect_91 : decode cX5_collect 91 = .ok (.iload 4, 2) := by decide +kernel
theorem dX5_collect_93 : decode cX5_collect 93 = .ok (.baload, 1) := by decide +kernel
theorem dX5_collect_94 : decode cX5_collect 94 = .ok (.ifCond .eq 7, 3) := by decide +kernel
theorem dX5_collect_97 : decode cX5_collect 97 = .ok (.iconst 1, 1) := by decide +kernel
theorem dX5_collect_98 : decode cX5_collect 98 = .ok (.goto 4, 3) := by decide +kernel
theorem dX5_collect_101 : decode cX5_collect 101 = .ok (.iconst 0, 1) := by decide +kernel
theorem dX5_collect_102 : decode cX5_collect 102 = .ok (.istore_n 2, 1) := by decide +kernel
theorem dX5_collect_103 : decode cX5_collect 103 = .ok (.aload_n 0, 1) := by decide +kernel
theorem dX5_collect_104 : decode cX5_collect 104 = .ok (.getfield 81, 3) := by decide +kernel
theorem dX5_collect_107 : decode cX5_collect 107 = .ok (.iload_n 1, 1) := by decide +kernel
theorem dX5_collect_108 : decode cX5_collect 108 = .ok (.iload 4, 2) := by decide +kernel
theorem dX5_collect_110 : decode cX5_collect 110 = .ok (.iastore, 1) := by decide +kernel
theorem dX5_collect_111 : decode cX5_collect 111 = .ok (.iinc 1 1, 3) := by decide +kernel
theorem dX5_collect_114 : decode cX5_collect 114 = .ok (.iinc 3 1, 3) := by decide +kernel
theorem dX5_collect_117 : decode cX5_collect 117 = .ok (.goto (-111), 3) := by decide +kernel
theorem dX5_collect_120 : decode cX5_collect 120 = .ok (.iload_n 2, 1) := by decide +kernel
theorem dX5_collect_121 : decode cX5_collect 121 = .ok (.ifCond .eq 7, 3) := by decide +kernel
theorem dX5_collect_124 : decode cX5_collect 124 = .ok (.iload_n 1, 1) := by decide +kernel
theorem dX5_collect_125 : decode cX5_collect 125 = .ok (.goto 4, 3) := by decide +kernel
theorem dX5_collect_128 : decode cX5_collect 128 = .ok (.iconst (-1), 1) := by decide +kernel
theorem dX5_collect_129 : decode cX5_collect 129 = .ok (.ireturn, 1) := by decide +kernel
set_option maxRecDepth 20000 in
theorem ggX5_label_X5_forget : GoodIn wsX5_label wsX5_forget := goodIn_r _ [12, 7, 5, 6, 48, 49, 50, 51, 52, 53, 54, 55, 56, 57, 58, 59, 60, 61, 62, 63, 64, 65, 66, 67, 68, 69, 70, 71, 72, 73, 74, 75, 76, 77, 78, 79, 80, 81] (by decide +kernel) (by decide +kernel)
set_option maxRecDepth 20000 in
theorem gX5_label_X5_forget : GoodIn wsX5_label (wsV RX5 126 RX5 yX5_forget wsX5_forget) := goodIn_app (goodIn_of _ (by decide +kernel)) ggX5_label_X5_forget
set_option maxRecDepth 20000 in
theorem ggX5_label_X5_collect : GoodIn wsX5_label wsX5_collect := goodIn_r _ [16, 2, 17, 18, 19, 4, 20, 48, 49, 50, 51, 52, 53, 54, 55, 56, 57, 58, 59, 60, 61, 62, 63, 64, 65, 66, 67, 68, 69, 70, 71, 72, 73, 74, 75, 76, 77, 78, 79, 80, 81] (by decide +kernel) (by decide +kernel)
set_option maxRecDepth 20000 in
theorem gX5_label_X5_collect : GoodIn wsX5_label (wsV RX5 152 RX5 yX5_collect wsX5_collect) := goodIn_app (goodIn_of _ (by decide +kernel)) ggX5_label_X5_collect
set_option maxRecDepth 20000 in
theorem ggX5_label_X5_tries : GoodIn wsX5_label wsX5_tries := goodIn_r _ [24, 25, 4, 26, 1, 3, 27, 28, 29, 30, 31, 32, 11, 33, 34, 35, 36, 37, 38, 39, 40, 41, 42, 19, 17, 43, 44, 45, 46, 47, 48, 49, 50, 51, 52, 53, 54, 55, 56, 57, 58, 59, 60, 61, 62, 63, 64, 65, 66, 67, 68, 69, 70, 71, 72, 73, 74, 75, 76, 77, 78, 79, 80, 81] (by decide +kernel) (by decide +kernel)
set_option maxRecDepth 20000 in
theorem gX5_label_X5_tries : GoodIn wsX5_label (wsV RX5 156 RX5 yX5_tries wsX5_tries) := goodIn_app (goodIn_of _ (by decide +kernel)) ggX5_label_X5_tries
theorem dX5_label_0 : decode cX5_label 0 = .ok (.aload_n 0, 1) := by decide +kernel
theorem dX5_label_1 : decode cX5_label 1 = .ok (.invokevirtual 126, 3) := by decide +kernel
theorem dX5_label_4 : decode cX5_label 4 = .ok (.aload_n 0, 1) := by decide +kernel
theorem dX5_label_5 : decode cX5_label 5 = .ok (.iconst 0, 1) := by decide +kernel
theorem dX5_label_6 : decode cX5_label 6 = .ok (.putfield 149, 3) := by decide +kernel
theorem dX5_label_9 : decode cX5_label 9 = .ok (.aload_n 0, 1) := by decide +kernel
theorem dX5_label_10 : decode cX5_label 10 = .ok (.invokevirtual 152, 3) := by decide +kernel
theorem dX5_label_13 : decode cX5_label 13 = .ok (.istore_n 1, 1) := by decide +kernel
theorem dX5_label_14 : decode cX5_label 14 = .ok (.aload_n 0, 1) := by decide +kernel
theorem dX5_label_15 : decode cX5_label 15 = .ok (.iconst 0, 1) := by decide +kernel
theorem dX5_label_16 : decode cX5_label 16 = .ok (.putfield 136, 3) := by decide +kernel
theorem dX5_label_19 : decode cX5_label 19 = .ok (.iload_n 1, 1) := by decide +kernel
theorem dX5_label_20 : decode cX5_label 20 = .ok (.iconst (-1), 1) := by decide +kernel
theorem dX5_label_21 : decode cX5_label 21 = .ok (.if_icmp .eq 9, 3) := by decide +kernel
theorem dX5_label_24 : decode cX5_label 24 = .ok (.iload_n 1, 1) := by decide +kernel
theorem dX5_label_25 : decode cX5_label 25 = .ok (.bipush 8, 2) := by decide +kernel
theorem dX5_label_27 : decode cX5_label 27 = .ok (.if_icmp .le 15, 3) := by decide +kernel
theorem dX5_label_30 : decode cX5_label 30 = .ok (.iload_n 1, 1) := by decide +kernel
theorem dX5_label_31 : decode cX5_label 31 = .ok (.iconst (-1), 1) := by decide +kernel
theorem dX5_label_32 : decode cX5_label 32 = .ok (.if_icmp .ne 7, 3) := by decide +kernel
end
section
theorem dX5_label_35 : decode cX5_label 35 = .ok (.iconst (-1), 1) := by decide +kernel
theorem dX5_label_36 : decode cX5_label 36 = .ok (.goto 5, 3) := by decide +kernel
theorem dX5_label_39 : decode cX5_label 39 = .ok (.bipush (-2), 2) := by decide +kernel
theorem dX5_label_41 : decode cX5_label 41 = .ok (.ireturn, 1) := by decide +kernel
theorem dX5_label_42 : decode cX5_label 42 = .ok (.iload_n 1, 1) := by decide +kernel
theorem dX5_label_43 : decode cX5_label 43 = .ok (.ifCond .ne 7, 3) := by decide +kernel
theorem dX5_label_46 : decode cX5_label 46 = .ok (.iconst 1, 1) := by decide +kernel
theorem dX5_label_47 : decode cX5_label 47 = .ok (.goto 8, 3) := by decide +kernel
theorem dX5_label_50 : decode cX5_label 50 = .ok (.aload_n 0, 1) := by decide +kernel
theorem dX5_label_51 : decode cX5_label 51 = .ok (.iload_n 1, 1) := by decide +kernel
theorem dX5_label_52 : decode cX5_label 52 = .ok (.invokevirtual 156, 3) := by decide +kernel
theorem dX5_label_55 : decode cX5_label 55 = .ok (.istore_n 2, 1) := by decide +kernel
theorem dX5_label_56 : decode cX5_label 56 = .ok (.iconst 0, 1) := by decide +kernel
theorem dX5_label_57 : decode cX5_label 57 = .ok (.istore_n 3, 1) := by decide +kernel
theorem dX5_label_58 : decode cX5_label 58 = .ok (.iload_n 3, 1) := by decide +kernel
theorem dX5_label_59 : decode cX5_label 59 = .ok (.iload_n 1, 1) := by decide +kernel
theorem dX5_label_60 : decode cX5_label 60 = .ok (.if_icmp .ge 21, 3) := by decide +kernel
theorem dX5_label_63 : decode cX5_label 63 = .ok (.aload_n 0, 1) := by decide +kernel
theorem dX5_label_64 : decode cX5_label 64 = .ok (.getfield 75, 3) := by decide +kernel
theorem dX5_label_67 : decode cX5_label 67 = .ok (.aload_n 0, 1) := by decide +kernel
theorem dX5_label_68 : decode cX5_label 68 = .ok (.getfield 81, 3) := by decide +kernel
theorem dX5_label_71 : decode cX5_label 71 = .ok (.iload_n 3, 1) := by decide +kernel
theorem dX5_label_72 : decode cX5_label 72 = .ok (.iaload, 1) := by decide +kernel
theorem dX5_label_73 : decode cX5_label 73 = .ok (.iconst 0, 1) := by decide +kernel
theorem dX5_label_74 : decode cX5_label 74 = .ok (.bastore, 1) := by decide +kernel
theorem dX5_label_75 : decode cX5_label 75 = .ok (.iinc 3 1, 3) := by decide +kernel
theorem dX5_label_78 : decode cX5_label 78 = .ok (.goto (-20), 3) := by decide +kernel
theorem dX5_label_81 : decode cX5_label 81 = .ok (.iload_n 2, 1) := by decide +kernel
theorem dX5_label_82 : decode cX5_label 82 = .ok (.ifCond .ge 10, 3) := by decide +kernel
theorem dX5_label_85 : decode cX5_label 85 = .ok (.aload_n 0, 1) := by decide +kernel
theorem dX5_label_86 : decode cX5_label 86 = .ok (.iconst 0, 1) := by decide +kernel
theorem dX5_label_87 : decode cX5_label 87 = .ok (.putfield 143, 3) := by decide +kernel
theorem dX5_label_90 : decode cX5_label 90 = .ok (.iload_n 2, 1) := by decide +kernel
theorem dX5_label_91 : decode cX5_label 91 = .ok (.ireturn, 1) := by decide +kernel
theorem dX5_label_92 : decode cX5_label 92 = .ok (.aload_n 0, 1) := by decide +kernel
theorem dX5_label_93 : decode cX5_label 93 = .ok (.iload_n 2, 1) := by decide +kernel
theorem dX5_label_94 : decode cX5_label 94 = .ok (.putfield 143, 3) := by decide +kernel
theorem dX5_label_97 : decode cX5_label 97 = .ok (.aload_n 0, 1) := by decide +kernel
theorem dX5_label_98 : decode cX5_label 98 = .ok (.iload_n 1, 1) := by decide +kernel
theorem dX5_label_99 : decode cX5_label 99 = .ok (.putfield 146, 3) := by decide +kernel
theorem dX5_label_102 : decode cX5_label 102 = .ok (.aload_n 0, 1) := by decide +kernel
theorem dX5_label_103 : decode cX5_label 103 = .ok (.iconst 1, 1) := by decide +kernel
theorem dX5_label_104 : decode cX5_label 104 = .ok (.putfield 139, 3) := by decide +kernel
theorem dX5_label_107 : decode cX5_label 107 = .ok (.aload_n 0, 1) := by decide +kernel
theorem dX5_label_108 : decode cX5_label 108 = .ok (.getfield 143, 3) := by decide +kernel
theorem dX5_label_111 : decode cX5_label 111 = .ok (.ireturn, 1) := by decide +kernel
set_option maxRecDepth 20000 in
theorem ggX5_tries_X5_holds : GoodIn wsX5_tries wsX5_holds := goodIn_r _ [13, 14, 15, 16, 17, 18, 19, 20, 21, 12, 22, 23, 24, 5, 25, 26, 27, 28, 29, 1, 30, 31, 32, 33, 34, 35, 36, 37, 38, 39, 40, 41, 42, 43, 44, 45, 46, 47, 48, 49, 50, 51, 52, 53, 54, 55, 56, 57, 58, 59, 60, 61, 62, 63] (by decide +kernel) (by decide +kernel)
set_option maxRecDepth 20000 in
theorem gX5_tries_X5_holds : GoodIn wsX5_tries (wsV RX5 111 RX5 yX5_holds wsX5_holds) := goodIn_app (goodIn_of _ (by decide +kernel)) ggX5_tries_X5_holds
theorem dX5_tries_0 : decode cX5_tries 0 = .ok (.iconst 0, 1) := by decide +kernel
theorem dX5_tries_1 : decode cX5_tries 1 = .ok (.istore_n 2, 1) := by decide +kernel
theorem dX5_tries_2 : decode cX5_tries 2 = .ok (.iconst 0, 1) := by decide +kernel
theorem dX5_tries_3 : decode cX5_tries 3 = .ok (.istore_n 3, 1) := by decide +kernel
theorem dX5_tries_4 : decode cX5_tries 4 = .ok (.aload_n 0, 1) := by decide +kernel
theorem dX5_tries_5 : decode cX5_tries 5 = .ok (.getfield 78, 3) := by decide +kernel
theorem dX5_tries_8 : decode cX5_tries 8 = .ok (.aload_n 0, 1) := by decide +kernel
theorem dX5_tries_9 : decode cX5_tries 9 = .ok (.getfield 81, 3) := by decide +kernel
theorem dX5_tries_12 : decode cX5_tries 12 = .ok (.iconst 0, 1) := by decide +kernel
theorem dX5_tries_13 : decode cX5_tries 13 = .ok (.iaload, 1) := by decide +kernel
theorem dX5_tries_14 : decode cX5_tries 14 = .ok (.aload_n 0, 1) := by decide +kernel
theorem dX5_tries_15 : decode cX5_tries 15 = .ok (.getfield 69, 3) := by decide +kernel
theorem dX5_tries_18 : decode cX5_tries 18 = .ok (.aload_n 0, 1) := by decide +kernel
theorem dX5_tries_19 : decode cX5_tries 19 = .ok (.getfield 81, 3) := by decide +kernel
theorem dX5_tries_22 : decode cX5_tries 22 = .ok (.iconst 0, 1) := by decide +kernel
theorem dX5_tries_23 : decode cX5_tries 23 = .ok (.iaload, 1) := by decide +kernel
theorem dX5_tries_24 : decode cX5_tries 24 = .ok (.laload, 1) := by decide +kernel
theorem dX5_tries_25 : decode cX5_tries 25 = .ok (.lastore, 1) := by decide +kernel
theorem dX5_tries_26 : decode cX5_tries 26 = .ok (.iload_n 3, 1) := by decide +kernel
theorem dX5_tries_27 : decode cX5_tries 27 = .ok (.ifCond .lt 246, 3) := by decide +kernel
theorem dX5_tries_30 : decode cX5_tries 30 = .ok (.aload_n 0, 1) := by decide +kernel
theorem dX5_tries_31 : decode cX5_tries 31 = .ok (.getfield 149, 3) := by decide +kernel
theorem dX5_tries_34 : decode cX5_tries 34 = .ok (.sipush 5000, 3) := by decide +kernel
theorem dX5_tries_37 : decode cX5_tries 37 = .ok (.if_icmp .ne 6, 3) := by decide +kernel
theorem dX5_tries_40 : decode cX5_tries 40 = .ok (.bipush (-3), 2) := by decide +kernel
theorem dX5_tries_42 : decode cX5_tries 42 = .ok (.ireturn, 1) := by decide +kernel
theorem dX5_tries_43 : decode cX5_tries 43 = .ok (.aload_n 0, 1) := by decide +kernel
theorem dX5_tries_44 : decode cX5_tries 44 = .ok (.dup, 1) := by decide +kernel
theorem dX5_tries_45 : decode cX5_tries 45 = .ok (.getfield 149, 3) := by decide +kernel
theorem dX5_tries_48 : decode cX5_tries 48 = .ok (.iconst 1, 1) := by decide +kernel
theorem dX5_tries_49 : decode cX5_tries 49 = .ok (.iadd, 1) := by decide +kernel
theorem dX5_tries_50 : decode cX5_tries 50 = .ok (.putfield 149, 3) := by decide +kernel
theorem dX5_tries_53 : decode cX5_tries 53 = .ok (.aload_n 0, 1) := by decide +kernel
theorem dX5_tries_54 : decode cX5_tries 54 = .ok (.getfield 81, 3) := by decide +kernel
theorem dX5_tries_57 : decode cX5_tries 57 = .ok (.iload_n 3, 1) := by decide +kernel
theorem dX5_tries_58 : decode cX5_tries 58 = .ok (.iaload, 1) := by decide +kernel
theorem dX5_tries_59 : decode cX5_tries 59 = .ok (.istore 4, 2) := by decide +kernel
theorem dX5_tries_61 : decode cX5_tries 61 = .ok (.aload_n 0, 1) := by decide +kernel
theorem dX5_tries_62 : decode cX5_tries 62 = .ok (.getfield 75, 3) := by decide +kernel
theorem dX5_tries_65 : decode cX5_tries 65 = .ok (.iload 4, 2) := by decide +kernel
theorem dX5_tries_67 : decode cX5_tries 67 = .ok (.iconst 1, 1) := by decide +kernel
theorem dX5_tries_68 : decode cX5_tries 68 = .ok (.bastore, 1) := by decide +kernel
theorem dX5_tries_69 : decode cX5_tries 69 = .ok (.iconst 1, 1) := by decide +kernel
theorem dX5_tries_70 : decode cX5_tries 70 = .ok (.istore 5, 2) := by decide +kernel
theorem dX5_tries_72 : decode cX5_tries 72 = .ok (.iconst 0, 1) := by decide +kernel
theorem dX5_tries_73 : decode cX5_tries 73 = .ok (.istore 6, 2) := by decide +kernel
theorem dX5_tries_75 : decode cX5_tries 75 = .ok (.iload 6, 2) := by decide +kernel
theorem dX5_tries_77 : decode cX5_tries 77 = .ok (.aload_n 0, 1) := by decide +kernel
theorem dX5_tries_78 : decode cX5_tries 78 = .ok (.getfield 108, 3) := by decide +kernel
theorem dX5_tries_81 : decode cX5_tries 81 = .ok (.if_icmp .ge 22, 3) := by decide +kernel
theorem dX5_tries_84 : decode cX5_tries 84 = .ok (.iload 5, 2) := by decide +kernel
theorem dX5_tries_86 : decode cX5_tries 86 = .ok (.ifCond .eq 17, 3) := by decide +kernel
theorem dX5_tries_89 : decode cX5_tries 89 = .ok (.aload_n 0, 1) := by decide +kernel
theorem dX5_tries_90 : decode cX5_tries 90 = .ok (.iload 6, 2) := by decide +kernel
theorem dX5_tries_92 : decode cX5_tries 92 = .ok (.invokevirtual 111, 3) := by decide +kernel
theorem dX5_tries_95 : decode cX5_tries 95 = .ok (.istore 5, 2) := by decide +kernel
theorem dX5_tries_97 : decode cX5_tries 97 = .ok (.iinc 6 1, 3) := by decide +kernel
theorem dX5_tries_100 : decode cX5_tries 100 = .ok (.goto (-25), 3) := by decide +kernel
theorem dX5_tries_103 : decode cX5_tries 103 = .ok (.iload 5, 2) := by decide +kernel
theorem dX5_tries_105 : decode cX5_tries 105 = .ok (.ifCond .eq 65, 3) := by decide +kernel
theorem dX5_tries_108 : decode cX5_tries 108 = .ok (.iload_n 3, 1) := by decide +kernel
theorem dX5_tries_109 : decode cX5_tries 109 = .ok (.iload_n 1, 1) := by decide +kernel
theorem dX5_tries_110 : decode cX5_tries 110 = .ok (.iconst 1, 1) := by decide +kernel
theorem dX5_tries_111 : decode cX5_tries 111 = .ok (.isub, 1) := by decide +kernel
theorem dX5_tries_112 : decode cX5_tries 112 = .ok (.if_icmp .ne 58, 3) := by decide +kernel
theorem dX5_tries_115 : decode cX5_tries 115 = .ok (.iload_n 2, 1) := by decide +kernel
theorem dX5_tries_116 : decode cX5_tries 116 = .ok (.sipush 200, 3) := by decide +kernel
theorem dX5_tries_119 : decode cX5_tries 119 = .ok (.if_icmp .ne 6, 3) := by decide +kernel
theorem dX5_tries_122 : decode cX5_tries 122 = .ok (.bipush (-4), 2) := by decide +kernel
theorem dX5_tries_124 : decode cX5_tries 124 = .ok (.ireturn, 1) := by decide +kernel
theorem dX5_tries_125 : decode cX5_tries 125 = .ok (.iconst 0, 1) := by decide +kernel
theorem dX5_tries_126 : decode cX5_tries 126 = .ok (.istore 6, 2) := by decide +kernel
theorem dX5_tries_128 : decode cX5_tries 128 = .ok (.iload 6, 2) := by decide +kernel
theorem dX5_tries_130 : decode cX5_tries 130 = .ok (.iload_n 1, 1) := by decide +kernel
theorem dX5_tries_131 : decode cX5_tries 131 = .ok (.if_icmp .ge 33, 3) := by decide +kernel
theorem dX5_tries_134 : decode cX5_tries 134 = .ok (.aload_n 0, 1) := by decide +kernel
theorem dX5_tries_135 : decode cX5_tries 135 = .ok (.getfield 84, 3) := by decide +kernel
theorem dX5_tries_138 : decode cX5_tries 138 = .ok (.bipush 8, 2) := by decide +kernel
theorem dX5_tries_140 : decode cX5_tries 140 = .ok (.iload_n 2, 1) := by decide +kernel
theorem dX5_tries_141 : decode cX5_tries 141 = .ok (.imul, 1) := by decide +kernel
theorem dX5_tries_142 : decode cX5_tries 142 = .ok (.iload 6, 2) := by decide +kernel
theorem dX5_tries_144 : decode cX5_tries 144 = .ok (.iadd, 1) := by decide +kernel
theorem dX5_tries_145 : decode cX5_tries 145 = .ok (.aload_n 0, 1) := by decide +kernel
theorem dX5_tries_146 : decode cX5_tries 146 = .ok (.getfield 78, 3) := by decide +kernel
theorem dX5_tries_149 : decode cX5_tries 149 = .ok (.aload_n 0, 1) := by decide +kernel
theorem dX5_tries_150 : decode cX5_tries 150 = .ok (.getfield 81, 3) := by decide +kernel
theorem dX5_tries_153 : decode cX5_tries 153 = .ok (.iload 6, 2) := by decide +kernel
theorem dX5_tries_155 : decode cX5_tries 155 = .ok (.iaload, 1) := by decide +kernel
theorem dX5_tries_156 : decode cX5_tries 156 = .ok (.laload, 1) := by decide +kernel
theorem dX5_tries_157 : decode cX5_tries 157 = .ok (.lastore, 1) := by decide +kernel
theorem dX5_tries_158 : decode cX5_tries 158 = .ok (.iinc 6 1, 3) := by decide +kernel
theorem dX5_tries_161 : decode cX5_tries 161 = .ok (.goto (-33), 3) := by decide +kernel
theorem dX5_tries_164 : decode cX5_tries 164 = .ok (.iinc 2 1, 3) := by decide +kernel
theorem dX5_tries_167 : decode cX5_tries 167 = .ok (.iconst 0, 1) := by decide +kernel
theorem dX5_tries_168 : decode cX5_tries 168 = .ok (.istore 5, 2) := by decide +kernel
theorem dX5_tries_170 : decode cX5_tries 170 = .ok (.iload 5, 2) := by decide +kernel
theorem dX5_tries_172 : decode cX5_tries 172 = .ok (.ifCond .eq 31, 3) := by decide +kernel
theorem dX5_tries_175 : decode cX5_tries 175 = .ok (.iinc 3 1, 3) := by decide +kernel
theorem dX5_tries_178 : decode cX5_tries 178 = .ok (.aload_n 0, 1) := by decide +kernel
theorem dX5_tries_179 : decode cX5_tries 179 = .ok (.getfield 78, 3) := by decide +kernel
theorem dX5_tries_182 : decode cX5_tries 182 = .ok (.aload_n 0, 1) := by decide +kernel
theorem dX5_tries_183 : decode cX5_tries 183 = .ok (.getfield 81, 3) := by decide +kernel
theorem dX5_tries_186 : decode cX5_tries 186 = .ok (.iload_n 3, 1) := by decide +kernel
theorem dX5_tries_187 : decode cX5_tries 187 = .ok (.iaload, 1) := by decide +kernel
theorem dX5_tries_188 : decode cX5_tries 188 = .ok (.aload_n 0, 1) := by decide +kernel
theorem dX5_tries_189 : decode cX5_tries 189 = .ok (.getfield 69, 3) := by decide +kernel
theorem dX5_tries_192 : decode cX5_tries 192 = .ok (.aload_n 0, 1) := by decide +kernel
theorem dX5_tries_193 : decode cX5_tries 193 = .ok (.getfield 81, 3) := by decide +kernel
theorem dX5_tries_196 : decode cX5_tries 196 = .ok (.iload_n 3, 1) := by decide +kernel
theorem dX5_tries_197 : decode cX5_tries 197 = .ok (.iaload, 1) := by decide +kernel
theorem dX5_tries_198 : decode cX5_tries 198 = .ok (.laload, 1) := by decide +kernel
theorem dX5_tries_199 : decode cX5_tries 199 = .ok (.lastore, 1) := by decide +kernel
theorem dX5_tries_200 : decode cX5_tries 200 = .ok (.goto (-174), 3) := by decide +kernel
theorem dX5_tries_203 : decode cX5_tries 203 = .ok (.iload_n 3, 1) := by decide +kernel
theorem dX5_tries_204 : decode cX5_tries 204 = .ok (.ifCond .lt 47, 3) := by decide +kernel
theorem dX5_tries_207 : decode cX5_tries 207 = .ok (.aload_n 0, 1) := by decide +kernel
theorem dX5_tries_208 : decode cX5_tries 208 = .ok (.getfield 78, 3) := by decide +kernel
theorem dX5_tries_211 : decode cX5_tries 211 = .ok (.aload_n 0, 1) := by decide +kernel
theorem dX5_tries_212 : decode cX5_tries 212 = .ok (.getfield 81, 3) := by decide +kernel
theorem dX5_tries_215 : decode cX5_tries 215 = .ok (.iload_n 3, 1) := by decide +kernel
theorem dX5_tries_216 : decode cX5_tries 216 = .ok (.iaload, 1) := by decide +kernel
theorem dX5_tries_217 : decode cX5_tries 217 = .ok (.laload, 1) := by decide +kernel
theorem dX5_tries_218 : decode cX5_tries 218 = .ok (.aload_n 0, 1) := by decide +kernel
theorem dX5_tries_219 : decode cX5_tries 219 = .ok (.getfield 72, 3) := by decide +kernel
theorem dX5_tries_222 : decode cX5_tries 222 = .ok (.aload_n 0, 1) := by decide +kernel
theorem dX5_tries_223 : decode cX5_tries 223 = .ok (.getfield 81, 3) := by decide +kernel
theorem dX5_tries_226 : decode cX5_tries 226 = .ok (.iload_n 3, 1) := by decide +kernel
theorem dX5_tries_227 : decode cX5_tries 227 = .ok (.iaload, 1) := by decide +kernel
theorem dX5_tries_228 : decode cX5_tries 228 = .ok (.laload, 1) := by decide +kernel
theorem dX5_tries_229 : decode cX5_tries 229 = .ok (.lcmp, 1) := by decide +kernel
theorem dX5_tries_230 : decode cX5_tries 230 = .ok (.ifCond .ne 21, 3) := by decide +kernel
theorem dX5_tries_233 : decode cX5_tries 233 = .ok (.aload_n 0, 1) := by decide +kernel
theorem dX5_tries_234 : decode cX5_tries 234 = .ok (.getfield 75, 3) := by decide +kernel
theorem dX5_tries_237 : decode cX5_tries 237 = .ok (.aload_n 0, 1) := by decide +kernel
theorem dX5_tries_238 : decode cX5_tries 238 = .ok (.getfield 81, 3) := by decide +kernel
theorem dX5_tries_241 : decode cX5_tries 241 = .ok (.iload_n 3, 1) := by decide +kernel
theorem dX5_tries_242 : decode cX5_tries 242 = .ok (.iaload, 1) := by decide +kernel
theorem dX5_tries_243 : decode cX5_tries 243 = .ok (.iconst 0, 1) := by decide +kernel
theorem dX5_tries_244 : decode cX5_tries 244 = .ok (.bastore, 1) := by decide +kernel
theorem dX5_tries_245 : decode cX5_tries 245 = .ok (.iinc 3 (-1), 3) := by decide +kernel
theorem dX5_tries_248 : decode cX5_tries 248 = .ok (.goto (-45), 3) := by decide +kernel
theorem dX5_tries_251 : decode cX5_tries 251 = .ok (.iload_n 3, 1) := by decide +kernel
theorem dX5_tries_252 : decode cX5_tries 252 = .ok (.ifCond .lt 18, 3) := by decide +kernel
theorem dX5_tries_255 : decode cX5_tries 255 = .ok (.aload_n 0, 1) := by decide +kernel
theorem dX5_tries_256 : decode cX5_tries 256 = .ok (.getfield 78, 3) := by decide +kernel
theorem dX5_tries_259 : decode cX5_tries 259 = .ok (.aload_n 0, 1) := by decide +kernel
theorem dX5_tries_260 : decode cX5_tries 260 = .ok (.getfield 81, 3) := by decide +kernel
theorem dX5_tries_263 : decode cX5_tries 263 = .ok (.iload_n 3, 1) := by decide +kernel
theorem dX5_tries_264 : decode cX5_tries 264 = .ok (.iaload, 1) := by decide +kernel
theorem dX5_tries_265 : decode cX5_tries 265 = .ok (.dup2, 1) := by decide +kernel
theorem dX5_tries_266 : decode cX5_tries 266 = .ok (.laload, 1) := by decide +kernel
theorem dX5_tries_267 : decode cX5_tries 267 = .ok (.lconst 1, 1) := by decide +kernel
theorem dX5_tries_268 : decode cX5_tries 268 = .ok (.ladd, 1) := by decide +kernel
theorem dX5_tries_269 : decode cX5_tries 269 = .ok (.lastore, 1) := by decide +kernel
theorem dX5_tries_270 : decode cX5_tries 270 = .ok (.goto (-244), 3) := by decide +kernel
theorem dX5_tries_273 : decode cX5_tries 273 = .ok (.iload_n 2, 1) := by decide +kernel
theorem dX5_tries_274 : decode cX5_tries 274 = .ok (.ireturn, 1) := by decide +kernel
theorem dX5_isWay_0 : decode cX5_isWay 0 = .ok (.aload_n 0, 1) := by decide +kernel
theorem dX5_isWay_1 : decode cX5_isWay 1 = .ok (.getfield 139, 3) := by decide +kernel
theorem dX5_isWay_4 : decode cX5_isWay 4 = .ok (.ifCond .eq 19, 3) := by decide +kernel
theorem dX5_isWay_7 : decode cX5_isWay 7 = .ok (.iload_n 1, 1) := by decide +kernel
theorem dX5_isWay_8 : decode cX5_isWay 8 = .ok (.ifCond .lt 15, 3) := by decide +kernel
theorem dX5_isWay_11 : decode cX5_isWay 11 = .ok (.iload_n 1, 1) := by decide +kernel
theorem dX5_isWay_12 : decode cX5_isWay 12 = .ok (.aload_n 0, 1) := by decide +kernel
theorem dX5_isWay_13 : decode cX5_isWay 13 = .ok (.getfield 143, 3) := by decide +kernel
theorem dX5_isWay_16 : decode cX5_isWay 16 = .ok (.if_icmp .ge 7, 3) := by decide +kernel
theorem dX5_isWay_19 : decode cX5_isWay 19 = .ok (.iconst 1, 1) := by decide +kernel
theorem dX5_isWay_20 : decode cX5_isWay 20 = .ok (.goto 4, 3) := by decide +kernel
theorem dX5_isWay_23 : decode cX5_isWay 23 = .ok (.iconst 0, 1) := by decide +kernel
theorem dX5_isWay_24 : decode cX5_isWay 24 = .ok (.ireturn, 1) := by decide +kernel
set_option maxRecDepth 20000 in
theorem ggX5_way_X5_isWay : GoodIn wsX5_way wsX5_isWay := goodIn_r _ [7, 8, 9, 10, 11, 12, 13, 14, 15, 16, 17, 18, 19, 20, 21, 22, 23, 24, 25, 26, 27, 28, 29, 30, 31, 32, 33, 34, 35, 36, 37, 38, 39, 40, 41, 42, 43] (by decide +kernel) (by decide +kernel)
set_option maxRecDepth 20000 in
theorem gX5_way_X5_isWay : GoodIn wsX5_way (wsV RX5 159 RX5 yX5_isWay wsX5_isWay) := goodIn_app (goodIn_of _ (by decide +kernel)) ggX5_way_X5_isWay
theorem dX5_way_0 : decode cX5_way 0 = .ok (.aload_n 0, 1) := by decide +kernel
theorem dX5_way_1 : decode cX5_way 1 = .ok (.iload_n 1, 1) := by decide +kernel
theorem dX5_way_2 : decode cX5_way 2 = .ok (.invokevirtual 159, 3) := by decide +kernel
theorem dX5_way_5 : decode cX5_way 5 = .ok (.ifCond .eq 29, 3) := by decide +kernel
theorem dX5_way_8 : decode cX5_way 8 = .ok (.iload_n 2, 1) := by decide +kernel
theorem dX5_way_9 : decode cX5_way 9 = .ok (.ifCond .lt 25, 3) := by decide +kernel
theorem dX5_way_12 : decode cX5_way 12 = .ok (.iload_n 2, 1) := by decide +kernel
theorem dX5_way_13 : decode cX5_way 13 = .ok (.aload_n 0, 1) := by decide +kernel
theorem dX5_way_14 : decode cX5_way 14 = .ok (.getfield 146, 3) := by decide +kernel
theorem dX5_way_17 : decode cX5_way 17 = .ok (.if_icmp .ge 17, 3) := by decide +kernel
theorem dX5_way_20 : decode cX5_way 20 = .ok (.aload_n 0, 1) := by decide +kernel
theorem dX5_way_21 : decode cX5_way 21 = .ok (.getfield 84, 3) := by decide +kernel
theorem dX5_way_24 : decode cX5_way 24 = .ok (.bipush 8, 2) := by decide +kernel
theorem dX5_way_26 : decode cX5_way 26 = .ok (.iload_n 1, 1) := by decide +kernel
theorem dX5_way_27 : decode cX5_way 27 = .ok (.imul, 1) := by decide +kernel
theorem dX5_way_28 : decode cX5_way 28 = .ok (.iload_n 2, 1) := by decide +kernel
theorem dX5_way_29 : decode cX5_way 29 = .ok (.iadd, 1) := by decide +kernel
theorem dX5_way_30 : decode cX5_way 30 = .ok (.laload, 1) := by decide +kernel
theorem dX5_way_31 : decode cX5_way 31 = .ok (.goto 4, 3) := by decide +kernel
theorem dX5_way_34 : decode cX5_way 34 = .ok (.lconst 0, 1) := by decide +kernel
theorem dX5_way_35 : decode cX5_way 35 = .ok (.lreturn, 1) := by decide +kernel
set_option maxRecDepth 20000 in
theorem ggX5_take_X5_isWay : GoodIn wsX5_take wsX5_isWay := goodIn_r _ [13, 14, 15, 65, 66, 67, 68, 69, 70, 71, 72, 73, 74, 75, 76, 77, 78, 79, 80, 81, 82, 83, 84, 85, 86, 87, 88, 89, 90, 91, 92, 93, 94, 95, 96, 97, 98] (by decide +kernel) (by decide +kernel)
set_option maxRecDepth 20000 in
theorem gX5_take_X5_isWay : GoodIn wsX5_take (wsV RX5 159 RX5 yX5_isWay wsX5_isWay) := goodIn_app (goodIn_of _ (by decide +kernel)) ggX5_take_X5_isWay
set_option maxRecDepth 20000 in
theorem ggX5_take_X5_works : GoodIn wsX5_take wsX5_works := goodIn_r _ [19, 20, 21, 22, 23, 3, 2, 4, 6, 24, 25, 26, 27, 28, 29, 30, 31, 7, 32, 33, 34, 35, 36, 37, 38, 39, 40, 41, 42, 43, 44, 12, 45, 46, 47, 48, 49, 50, 51, 52, 53, 54, 55, 56, 57, 58, 59, 60, 65, 66, 67, 68, 69, 70, 71, 72, 73, 74, 75, 76, 77, 78, 79, 80, 81, 82, 83, 84, 85, 86, 87, 88, 89, 90, 91, 92, 93, 94, 95, 96, 97, 98] (by decide +kernel) (by decide +kernel)
set_option maxRecDepth 20000 in
theorem gX5_take_X5_works : GoodIn wsX5_take (wsV RX5 122 RX5 yX5_works wsX5_works) := goodIn_app (goodIn_of _ (by decide +kernel)) ggX5_take_X5_works
set_option maxRecDepth 20000 in
theorem ggX5_take_X5_forget : GoodIn wsX5_take wsX5_forget := goodIn_r _ [64, 14, 15, 1, 65, 66, 67, 68, 69, 70, 71, 72, 73, 74, 75, 76, 77, 78, 79, 80, 81, 82, 83, 84, 85, 86, 87, 88, 89, 90, 91, 92, 93, 94, 95, 96, 97, 98] (by decide +kernel) (by decide +kernel)
set_option maxRecDepth 20000 in
theorem gX5_take_X5_forget : GoodIn wsX5_take (wsV RX5 126 RX5 yX5_forget wsX5_forget) := goodIn_app (goodIn_of _ (by decide +kernel)) ggX5_take_X5_forget
theorem dX5_take_0 : decode cX5_take 0 = .ok (.aload_n 0, 1) := by decide +kernel
theorem dX5_take_1 : decode cX5_take 1 = .ok (.iload_n 1, 1) := by decide +kernel
theorem dX5_take_2 : decode cX5_take 2 = .ok (.invokevirtual 159, 3) := by decide +kernel
theorem dX5_take_5 : decode cX5_take 5 = .ok (.ifCond .ne 5, 3) := by decide +kernel
theorem dX5_take_8 : decode cX5_take 8 = .ok (.iconst 0, 1) := by decide +kernel
theorem dX5_take_9 : decode cX5_take 9 = .ok (.ireturn, 1) := by decide +kernel
theorem dX5_take_10 : decode cX5_take 10 = .ok (.aload_n 0, 1) := by decide +kernel
theorem dX5_take_11 : decode cX5_take 11 = .ok (.getfield 146, 3) := by decide +kernel
theorem dX5_take_14 : decode cX5_take 14 = .ok (.istore_n 2, 1) := by decide +kernel
theorem dX5_take_15 : decode cX5_take 15 = .ok (.iconst 0, 1) := by decide +kernel
theorem dX5_take_16 : decode cX5_take 16 = .ok (.istore_n 3, 1) := by decide +kernel
theorem dX5_take_17 : decode cX5_take 17 = .ok (.iload_n 3, 1) := by decide +kernel
theorem dX5_take_18 : decode cX5_take 18 = .ok (.iload_n 2, 1) := by decide +kernel
theorem dX5_take_19 : decode cX5_take 19 = .ok (.if_icmp .ge 79, 3) := by decide +kernel
theorem dX5_take_22 : decode cX5_take 22 = .ok (.aload_n 0, 1) := by decide +kernel
theorem dX5_take_23 : decode cX5_take 23 = .ok (.getfield 9, 3) := by decide +kernel
theorem dX5_take_26 : decode cX5_take 26 = .ok (.aload_n 0, 1) := by decide +kernel
theorem dX5_take_27 : decode cX5_take 27 = .ok (.getfield 91, 3) := by decide +kernel
theorem dX5_take_30 : decode cX5_take 30 = .ok (.iconst 1, 1) := by decide +kernel
theorem dX5_take_31 : decode cX5_take 31 = .ok (.iastore, 1) := by decide +kernel
theorem dX5_take_32 : decode cX5_take 32 = .ok (.aload_n 0, 1) := by decide +kernel
theorem dX5_take_33 : decode cX5_take 33 = .ok (.getfield 13, 3) := by decide +kernel
theorem dX5_take_36 : decode cX5_take 36 = .ok (.aload_n 0, 1) := by decide +kernel
theorem dX5_take_37 : decode cX5_take 37 = .ok (.getfield 91, 3) := by decide +kernel
theorem dX5_take_40 : decode cX5_take 40 = .ok (.aload_n 0, 1) := by decide +kernel
theorem dX5_take_41 : decode cX5_take 41 = .ok (.getfield 81, 3) := by decide +kernel
theorem dX5_take_44 : decode cX5_take 44 = .ok (.iload_n 3, 1) := by decide +kernel
theorem dX5_take_45 : decode cX5_take 45 = .ok (.iaload, 1) := by decide +kernel
theorem dX5_take_46 : decode cX5_take 46 = .ok (.iastore, 1) := by decide +kernel
theorem dX5_take_47 : decode cX5_take 47 = .ok (.aload_n 0, 1) := by decide +kernel
theorem dX5_take_48 : decode cX5_take 48 = .ok (.getfield 16, 3) := by decide +kernel
theorem dX5_take_51 : decode cX5_take 51 = .ok (.aload_n 0, 1) := by decide +kernel
theorem dX5_take_52 : decode cX5_take 52 = .ok (.getfield 91, 3) := by decide +kernel
theorem dX5_take_55 : decode cX5_take 55 = .ok (.aload_n 0, 1) := by decide +kernel
theorem dX5_take_56 : decode cX5_take 56 = .ok (.getfield 81, 3) := by decide +kernel
theorem dX5_take_59 : decode cX5_take 59 = .ok (.iload_n 3, 1) := by decide +kernel
theorem dX5_take_60 : decode cX5_take 60 = .ok (.iaload, 1) := by decide +kernel
theorem dX5_take_61 : decode cX5_take 61 = .ok (.iastore, 1) := by decide +kernel
theorem dX5_take_62 : decode cX5_take 62 = .ok (.aload_n 0, 1) := by decide +kernel
theorem dX5_take_63 : decode cX5_take 63 = .ok (.getfield 19, 3) := by decide +kernel
theorem dX5_take_66 : decode cX5_take 66 = .ok (.aload_n 0, 1) := by decide +kernel
theorem dX5_take_67 : decode cX5_take 67 = .ok (.getfield 91, 3) := by decide +kernel
theorem dX5_take_70 : decode cX5_take 70 = .ok (.aload_n 0, 1) := by decide +kernel
theorem dX5_take_71 : decode cX5_take 71 = .ok (.getfield 84, 3) := by decide +kernel
theorem dX5_take_74 : decode cX5_take 74 = .ok (.bipush 8, 2) := by decide +kernel
theorem dX5_take_76 : decode cX5_take 76 = .ok (.iload_n 1, 1) := by decide +kernel
theorem dX5_take_77 : decode cX5_take 77 = .ok (.imul, 1) := by decide +kernel
theorem dX5_take_78 : decode cX5_take 78 = .ok (.iload_n 3, 1) := by decide +kernel
theorem dX5_take_79 : decode cX5_take 79 = .ok (.iadd, 1) := by decide +kernel
theorem dX5_take_80 : decode cX5_take 80 = .ok (.laload, 1) := by decide +kernel
theorem dX5_take_81 : decode cX5_take 81 = .ok (.lastore, 1) := by decide +kernel
theorem dX5_take_82 : decode cX5_take 82 = .ok (.aload_n 0, 1) := by decide +kernel
theorem dX5_take_83 : decode cX5_take 83 = .ok (.dup, 1) := by decide +kernel
theorem dX5_take_84 : decode cX5_take 84 = .ok (.getfield 91, 3) := by decide +kernel
theorem dX5_take_87 : decode cX5_take 87 = .ok (.iconst 1, 1) := by decide +kernel
theorem dX5_take_88 : decode cX5_take 88 = .ok (.iadd, 1) := by decide +kernel
theorem dX5_take_89 : decode cX5_take 89 = .ok (.putfield 91, 3) := by decide +kernel
theorem dX5_take_92 : decode cX5_take 92 = .ok (.iinc 3 1, 3) := by decide +kernel
theorem dX5_take_95 : decode cX5_take 95 = .ok (.goto (-78), 3) := by decide +kernel
theorem dX5_take_98 : decode cX5_take 98 = .ok (.aload_n 0, 1) := by decide +kernel
theorem dX5_take_99 : decode cX5_take 99 = .ok (.invokevirtual 122, 3) := by decide +kernel
theorem dX5_take_102 : decode cX5_take 102 = .ok (.istore_n 3, 1) := by decide +kernel
theorem dX5_take_103 : decode cX5_take 103 = .ok (.aload_n 0, 1) := by decide +kernel
theorem dX5_take_104 : decode cX5_take 104 = .ok (.invokevirtual 126, 3) := by decide +kernel
theorem dX5_take_107 : decode cX5_take 107 = .ok (.iconst 1, 1) := by decide +kernel
theorem dX5_take_108 : decode cX5_take 108 = .ok (.ireturn, 1) := by decide +kernel
theorem dX5_mark_0 : decode cX5_mark 0 = .ok (.aload_n 0, 1) := by decide +kernel
theorem dX5_mark_1 : decode cX5_mark 1 = .ok (.getfield 162, 3) := by decide +kernel
theorem dX5_mark_4 : decode cX5_mark 4 = .ok (.bipush 40, 2) := by decide +kernel
theorem dX5_mark_6 : decode cX5_mark 6 = .ok (.if_icmp .ne 5, 3) := by decide +kernel
theorem dX5_mark_9 : decode cX5_mark 9 = .ok (.iconst (-1), 1) := by decide +kernel
theorem dX5_mark_10 : decode cX5_mark 10 = .ok (.ireturn, 1) := by decide +kernel
theorem dX5_mark_11 : decode cX5_mark 11 = .ok (.aload_n 0, 1) := by decide +kernel
theorem dX5_mark_12 : decode cX5_mark 12 = .ok (.getfield 47, 3) := by decide +kernel
theorem dX5_mark_15 : decode cX5_mark 15 = .ok (.aload_n 0, 1) := by decide +kernel
theorem dX5_mark_16 : decode cX5_mark 16 = .ok (.getfield 162, 3) := by decide +kernel
theorem dX5_mark_19 : decode cX5_mark 19 = .ok (.aload_n 0, 1) := by decide +kernel
theorem dX5_mark_20 : decode cX5_mark 20 = .ok (.getfield 87, 3) := by decide +kernel
theorem dX5_mark_23 : decode cX5_mark 23 = .ok (.iastore, 1) := by decide +kernel
theorem dX5_mark_24 : decode cX5_mark 24 = .ok (.aload_n 0, 1) := by decide +kernel
theorem dX5_mark_25 : decode cX5_mark 25 = .ok (.getfield 50, 3) := by decide +kernel
theorem dX5_mark_28 : decode cX5_mark 28 = .ok (.aload_n 0, 1) := by decide +kernel
theorem dX5_mark_29 : decode cX5_mark 29 = .ok (.getfield 162, 3) := by decide +kernel
theorem dX5_mark_32 : decode cX5_mark 32 = .ok (.aload_n 0, 1) := by decide +kernel
theorem dX5_mark_33 : decode cX5_mark 33 = .ok (.getfield 91, 3) := by decide +kernel
theorem dX5_mark_36 : decode cX5_mark 36 = .ok (.iastore, 1) := by decide +kernel
theorem dX5_mark_37 : decode cX5_mark 37 = .ok (.aload_n 0, 1) := by decide +kernel
theorem dX5_mark_38 : decode cX5_mark 38 = .ok (.getfield 53, 3) := by decide +kernel
theorem dX5_mark_41 : decode cX5_mark 41 = .ok (.aload_n 0, 1) := by decide +kernel
theorem dX5_mark_42 : decode cX5_mark 42 = .ok (.getfield 162, 3) := by decide +kernel
theorem dX5_mark_45 : decode cX5_mark 45 = .ok (.aload_n 0, 1) := by decide +kernel
theorem dX5_mark_46 : decode cX5_mark 46 = .ok (.getfield 108, 3) := by decide +kernel
theorem dX5_mark_49 : decode cX5_mark 49 = .ok (.iastore, 1) := by decide +kernel
theorem dX5_mark_50 : decode cX5_mark 50 = .ok (.aload_n 0, 1) := by decide +kernel
theorem dX5_mark_51 : decode cX5_mark 51 = .ok (.dup, 1) := by decide +kernel
theorem dX5_mark_52 : decode cX5_mark 52 = .ok (.getfield 162, 3) := by decide +kernel
theorem dX5_mark_55 : decode cX5_mark 55 = .ok (.iconst 1, 1) := by decide +kernel
theorem dX5_mark_56 : decode cX5_mark 56 = .ok (.iadd, 1) := by decide +kernel
theorem dX5_mark_57 : decode cX5_mark 57 = .ok (.putfield 162, 3) := by decide +kernel
theorem dX5_mark_60 : decode cX5_mark 60 = .ok (.aload_n 0, 1) := by decide +kernel
theorem dX5_mark_61 : decode cX5_mark 61 = .ok (.getfield 162, 3) := by decide +kernel
theorem dX5_mark_64 : decode cX5_mark 64 = .ok (.ireturn, 1) := by decide +kernel
set_option maxRecDepth 20000 in
theorem ggX5_back_X5_works : GoodIn wsX5_back wsX5_works := goodIn_r _ [14, 3, 15, 16, 17, 5, 18, 19, 20, 21, 22, 23, 24, 25, 26, 27, 28, 29, 30, 31, 32, 33, 34, 35, 36, 37, 38, 7, 39, 40, 41, 13, 42, 43, 44, 45, 46, 47, 48, 49, 50, 51, 52, 53, 54, 55, 56, 57, 65, 66, 67, 68, 69, 70, 71, 72, 73, 74, 75, 76, 77, 78, 79, 80, 81, 82, 83, 84, 85, 86, 87, 88, 89, 90, 91, 92, 93, 94, 95, 96, 97, 98] (by decide +kernel) (by decide +kernel)
set_option maxRecDepth 20000 in
theorem gX5_back_X5_works : GoodIn wsX5_back (wsV RX5 122 RX5 yX5_works wsX5_works) := goodIn_app (goodIn_of _ (by decide +kernel)) ggX5_back_X5_works
set_option maxRecDepth 20000 in
theorem ggX5_back_X5_forget : GoodIn wsX5_back wsX5_forget := goodIn_r _ [61, 62, 63, 64, 65, 66, 67, 68, 69, 70, 71, 72, 73, 74, 75, 76, 77, 78, 79, 80, 81, 82, 83, 84, 85, 86, 87, 88, 89, 90, 91, 92, 93, 94, 95, 96, 97, 98] (by decide +kernel) (by decide +kernel)
set_option maxRecDepth 20000 in
theorem gX5_back_X5_forget : GoodIn wsX5_back (wsV RX5 126 RX5 yX5_forget wsX5_forget) := goodIn_app (goodIn_of _ (by decide +kernel)) ggX5_back_X5_forget
theorem dX5_back_0 : decode cX5_back 0 = .ok (.aload_n 0, 1) := by decide +kernel
theorem dX5_back_1 : decode cX5_back 1 = .ok (.getfield 162, 3) := by decide +kernel
theorem dX5_back_4 : decode cX5_back 4 = .ok (.ifCond .ne 5, 3) := by decide +kernel
theorem dX5_back_7 : decode cX5_back 7 = .ok (.iconst (-1), 1) := by decide +kernel
theorem dX5_back_8 : decode cX5_back 8 = .ok (.ireturn, 1) := by decide +kernel
theorem dX5_back_9 : decode cX5_back 9 = .ok (.aload_n 0, 1) := by decide +kernel
theorem dX5_back_10 : decode cX5_back 10 = .ok (.dup, 1) := by decide +kernel
theorem dX5_back_11 : decode cX5_back 11 = .ok (.getfield 162, 3) := by decide +kernel
theorem dX5_back_14 : decode cX5_back 14 = .ok (.iconst 1, 1) := by decide +kernel
theorem dX5_back_15 : decode cX5_back 15 = .ok (.isub, 1) := by decide +kernel
theorem dX5_back_16 : decode cX5_back 16 = .ok (.putfield 162, 3) := by decide +kernel
theorem dX5_back_19 : decode cX5_back 19 = .ok (.aload_n 0, 1) := by decide +kernel
theorem dX5_back_20 : decode cX5_back 20 = .ok (.aload_n 0, 1) := by decide +kernel
theorem dX5_back_21 : decode cX5_back 21 = .ok (.getfield 47, 3) := by decide +kernel
theorem dX5_back_24 : decode cX5_back 24 = .ok (.aload_n 0, 1) := by decide +kernel
theorem dX5_back_25 : decode cX5_back 25 = .ok (.getfield 162, 3) := by decide +kernel
theorem dX5_back_28 : decode cX5_back 28 = .ok (.iaload, 1) := by decide +kernel
theorem dX5_back_29 : decode cX5_back 29 = .ok (.putfield 87, 3) := by decide +kernel
theorem dX5_back_32 : decode cX5_back 32 = .ok (.aload_n 0, 1) := by decide +kernel
theorem dX5_back_33 : decode cX5_back 33 = .ok (.aload_n 0, 1) := by decide +kernel
theorem dX5_back_34 : decode cX5_back 34 = .ok (.getfield 50, 3) := by decide +kernel
theorem dX5_back_37 : decode cX5_back 37 = .ok (.aload_n 0, 1) := by decide +kernel
theorem dX5_back_38 : decode cX5_back 38 = .ok (.getfield 162, 3) := by decide +kernel
theorem dX5_back_41 : decode cX5_back 41 = .ok (.iaload, 1) := by decide +kernel
theorem dX5_back_42 : decode cX5_back 42 = .ok (.putfield 91, 3) := by decide +kernel
theorem dX5_back_45 : decode cX5_back 45 = .ok (.aload_n 0, 1) := by decide +kernel
theorem dX5_back_46 : decode cX5_back 46 = .ok (.aload_n 0, 1) := by decide +kernel
theorem dX5_back_47 : decode cX5_back 47 = .ok (.getfield 53, 3) := by decide +kernel
theorem dX5_back_50 : decode cX5_back 50 = .ok (.aload_n 0, 1) := by decide +kernel
theorem dX5_back_51 : decode cX5_back 51 = .ok (.getfield 162, 3) := by decide +kernel
theorem dX5_back_54 : decode cX5_back 54 = .ok (.iaload, 1) := by decide +kernel
theorem dX5_back_55 : decode cX5_back 55 = .ok (.putfield 108, 3) := by decide +kernel
theorem dX5_back_58 : decode cX5_back 58 = .ok (.iconst 0, 1) := by decide +kernel
theorem dX5_back_59 : decode cX5_back 59 = .ok (.istore_n 1, 1) := by decide +kernel
theorem dX5_back_60 : decode cX5_back 60 = .ok (.iload_n 1, 1) := by decide +kernel
theorem dX5_back_61 : decode cX5_back 61 = .ok (.aload_n 0, 1) := by decide +kernel
theorem dX5_back_62 : decode cX5_back 62 = .ok (.getfield 136, 3) := by decide +kernel
theorem dX5_back_65 : decode cX5_back 65 = .ok (.if_icmp .ge 22, 3) := by decide +kernel
theorem dX5_back_68 : decode cX5_back 68 = .ok (.aload_n 0, 1) := by decide +kernel
theorem dX5_back_69 : decode cX5_back 69 = .ok (.getfield 26, 3) := by decide +kernel
theorem dX5_back_72 : decode cX5_back 72 = .ok (.iload_n 1, 1) := by decide +kernel
theorem dX5_back_73 : decode cX5_back 73 = .ok (.iaload, 1) := by decide +kernel
theorem dX5_back_74 : decode cX5_back 74 = .ok (.aload_n 0, 1) := by decide +kernel
theorem dX5_back_75 : decode cX5_back 75 = .ok (.getfield 87, 3) := by decide +kernel
theorem dX5_back_78 : decode cX5_back 78 = .ok (.if_icmp .ge 9, 3) := by decide +kernel
theorem dX5_back_81 : decode cX5_back 81 = .ok (.iinc 1 1, 3) := by decide +kernel
theorem dX5_back_84 : decode cX5_back 84 = .ok (.goto (-24), 3) := by decide +kernel
theorem dX5_back_87 : decode cX5_back 87 = .ok (.aload_n 0, 1) := by decide +kernel
theorem dX5_back_88 : decode cX5_back 88 = .ok (.iload_n 1, 1) := by decide +kernel
theorem dX5_back_89 : decode cX5_back 89 = .ok (.putfield 136, 3) := by decide +kernel
theorem dX5_back_92 : decode cX5_back 92 = .ok (.aload_n 0, 1) := by decide +kernel
theorem dX5_back_93 : decode cX5_back 93 = .ok (.invokevirtual 122, 3) := by decide +kernel
theorem dX5_back_96 : decode cX5_back 96 = .ok (.istore_n 2, 1) := by decide +kernel
theorem dX5_back_97 : decode cX5_back 97 = .ok (.aload_n 0, 1) := by decide +kernel
theorem dX5_back_98 : decode cX5_back 98 = .ok (.invokevirtual 126, 3) := by decide +kernel
theorem dX5_back_101 : decode cX5_back 101 = .ok (.aload_n 0, 1) := by decide +kernel
theorem dX5_back_102 : decode cX5_back 102 = .ok (.getfield 162, 3) := by decide +kernel
theorem dX5_back_105 : decode cX5_back 105 = .ok (.ireturn, 1) := by decide +kernel
set_option maxRecDepth 20000 in
theorem ggX5_about_X5_isName : GoodIn wsX5_about wsX5_isName := goodIn_r _ [15, 4, 16, 17, 18, 19, 20, 21, 22, 23, 24, 25, 26, 27, 28, 29, 30, 31, 32, 33, 34, 35, 36, 37, 38, 39, 40, 41, 42, 43, 44, 45, 46, 47, 48, 49] (by decide +kernel) (by decide +kernel)
set_option maxRecDepth 20000 in
theorem gX5_about_X5_isName : GoodIn wsX5_about (wsV RX5 129 RX5 yX5_isName wsX5_isName) := goodIn_app (goodIn_of _ (by decide +kernel)) ggX5_about_X5_isName
theorem dX5_about_0 : decode cX5_about 0 = .ok (.aload_n 0, 1) := by decide +kernel
theorem dX5_about_1 : decode cX5_about 1 = .ok (.iload_n 1, 1) := by decide +kernel
theorem dX5_about_2 : decode cX5_about 2 = .ok (.invokevirtual 129, 3) := by decide +kernel
theorem dX5_about_5 : decode cX5_about 5 = .ok (.ifCond .ne 5, 3) := by decide +kernel
theorem dX5_about_8 : decode cX5_about 8 = .ok (.iconst (-1), 1) := by decide +kernel
theorem dX5_about_9 : decode cX5_about 9 = .ok (.ireturn, 1) := by decide +kernel
theorem dX5_about_10 : decode cX5_about 10 = .ok (.iconst 0, 1) := by decide +kernel
theorem dX5_about_11 : decode cX5_about 11 = .ok (.istore_n 3, 1) := by decide +kernel
theorem dX5_about_12 : decode cX5_about 12 = .ok (.iload_n 2, 1) := by decide +kernel
theorem dX5_about_13 : decode cX5_about 13 = .ok (.tableswitch 269 0 4 #[35, 73, 80, 124, 220], 35) := by decide +kernel
theorem dX5_about_48 : decode cX5_about 48 = .ok (.aload_n 0, 1) := by decide +kernel
theorem dX5_about_49 : decode cX5_about 49 = .ok (.getfield 59, 3) := by decide +kernel
theorem dX5_about_52 : decode cX5_about 52 = .ok (.aload_n 0, 1) := by decide +kernel
theorem dX5_about_53 : decode cX5_about 53 = .ok (.getfield 56, 3) := by decide +kernel
theorem dX5_about_56 : decode cX5_about 56 = .ok (.iload_n 1, 1) := by decide +kernel
theorem dX5_about_57 : decode cX5_about 57 = .ok (.iaload, 1) := by decide +kernel
theorem dX5_about_58 : decode cX5_about 58 = .ok (.baload, 1) := by decide +kernel
theorem dX5_about_59 : decode cX5_about 59 = .ok (.ifCond .eq 7, 3) := by decide +kernel
theorem dX5_about_62 : decode cX5_about 62 = .ok (.iconst 2, 1) := by decide +kernel
theorem dX5_about_63 : decode cX5_about 63 = .ok (.goto 22, 3) := by decide +kernel
theorem dX5_about_66 : decode cX5_about 66 = .ok (.aload_n 0, 1) := by decide +kernel
theorem dX5_about_67 : decode cX5_about 67 = .ok (.getfield 63, 3) := by decide +kernel
theorem dX5_about_70 : decode cX5_about 70 = .ok (.aload_n 0, 1) := by decide +kernel
theorem dX5_about_71 : decode cX5_about 71 = .ok (.getfield 56, 3) := by decide +kernel
theorem dX5_about_74 : decode cX5_about 74 = .ok (.iload_n 1, 1) := by decide +kernel
theorem dX5_about_75 : decode cX5_about 75 = .ok (.iaload, 1) := by decide +kernel
theorem dX5_about_76 : decode cX5_about 76 = .ok (.baload, 1) := by decide +kernel
theorem dX5_about_77 : decode cX5_about 77 = .ok (.ifCond .eq 7, 3) := by decide +kernel
theorem dX5_about_80 : decode cX5_about 80 = .ok (.iconst 1, 1) := by decide +kernel
theorem dX5_about_81 : decode cX5_about 81 = .ok (.goto 4, 3) := by decide +kernel
theorem dX5_about_84 : decode cX5_about 84 = .ok (.iconst 0, 1) := by decide +kernel
theorem dX5_about_85 : decode cX5_about 85 = .ok (.ireturn, 1) := by decide +kernel
theorem dX5_about_86 : decode cX5_about 86 = .ok (.aload_n 0, 1) := by decide +kernel
theorem dX5_about_87 : decode cX5_about 87 = .ok (.getfield 56, 3) := by decide +kernel
theorem dX5_about_90 : decode cX5_about 90 = .ok (.iload_n 1, 1) := by decide +kernel
theorem dX5_about_91 : decode cX5_about 91 = .ok (.iaload, 1) := by decide +kernel
theorem dX5_about_92 : decode cX5_about 92 = .ok (.ireturn, 1) := by decide +kernel
theorem dX5_about_93 : decode cX5_about 93 = .ok (.iconst 0, 1) := by decide +kernel
theorem dX5_about_94 : decode cX5_about 94 = .ok (.istore 4, 2) := by decide +kernel
theorem dX5_about_96 : decode cX5_about 96 = .ok (.iload 4, 2) := by decide +kernel
theorem dX5_about_98 : decode cX5_about 98 = .ok (.aload_n 0, 1) := by decide +kernel
theorem dX5_about_99 : decode cX5_about 99 = .ok (.getfield 87, 3) := by decide +kernel
theorem dX5_about_102 : decode cX5_about 102 = .ok (.if_icmp .ge 33, 3) := by decide +kernel
theorem dX5_about_105 : decode cX5_about 105 = .ok (.iload_n 3, 1) := by decide +kernel
theorem dX5_about_106 : decode cX5_about 106 = .ok (.aload_n 0, 1) := by decide +kernel
theorem dX5_about_107 : decode cX5_about 107 = .ok (.getfield 56, 3) := by decide +kernel
theorem dX5_about_110 : decode cX5_about 110 = .ok (.iload 4, 2) := by decide +kernel
theorem dX5_about_112 : decode cX5_about 112 = .ok (.iaload, 1) := by decide +kernel
theorem dX5_about_113 : decode cX5_about 113 = .ok (.aload_n 0, 1) := by decide +kernel
theorem dX5_about_114 : decode cX5_about 114 = .ok (.getfield 56, 3) := by decide +kernel
theorem dX5_about_117 : decode cX5_about 117 = .ok (.iload_n 1, 1) := by decide +kernel
theorem dX5_about_118 : decode cX5_about 118 = .ok (.iaload, 1) := by decide +kernel
theorem dX5_about_119 : decode cX5_about 119 = .ok (.if_icmp .ne 7, 3) := by decide +kernel
theorem dX5_about_122 : decode cX5_about 122 = .ok (.iconst 1, 1) := by decide +kernel
theorem dX5_about_123 : decode cX5_about 123 = .ok (.goto 4, 3) := by decide +kernel
theorem dX5_about_126 : decode cX5_about 126 = .ok (.iconst 0, 1) := by decide +kernel
theorem dX5_about_127 : decode cX5_about 127 = .ok (.iadd, 1) := by decide +kernel
theorem dX5_about_128 : decode cX5_about 128 = .ok (.istore_n 3, 1) := by decide +kernel
theorem dX5_about_129 : decode cX5_about 129 = .ok (.iinc 4 1, 3) := by decide +kernel
theorem dX5_about_132 : decode cX5_about 132 = .ok (.goto (-36), 3) := by decide +kernel
theorem dX5_about_135 : decode cX5_about 135 = .ok (.iload_n 3, 1) := by decide +kernel
theorem dX5_about_136 : decode cX5_about 136 = .ok (.ireturn, 1) := by decide +kernel
theorem dX5_about_137 : decode cX5_about 137 = .ok (.iconst 0, 1) := by decide +kernel
theorem dX5_about_138 : decode cX5_about 138 = .ok (.istore 4, 2) := by decide +kernel
theorem dX5_about_140 : decode cX5_about 140 = .ok (.iload 4, 2) := by decide +kernel
theorem dX5_about_142 : decode cX5_about 142 = .ok (.aload_n 0, 1) := by decide +kernel
theorem dX5_about_143 : decode cX5_about 143 = .ok (.getfield 108, 3) := by decide +kernel
theorem dX5_about_146 : decode cX5_about 146 = .ok (.if_icmp .ge 85, 3) := by decide +kernel
theorem dX5_about_149 : decode cX5_about 149 = .ok (.iconst 0, 1) := by decide +kernel
theorem dX5_about_150 : decode cX5_about 150 = .ok (.istore 5, 2) := by decide +kernel
theorem dX5_about_152 : decode cX5_about 152 = .ok (.iconst 0, 1) := by decide +kernel
theorem dX5_about_153 : decode cX5_about 153 = .ok (.istore 6, 2) := by decide +kernel
theorem dX5_about_155 : decode cX5_about 155 = .ok (.iload 6, 2) := by decide +kernel
theorem dX5_about_157 : decode cX5_about 157 = .ok (.aload_n 0, 1) := by decide +kernel
theorem dX5_about_158 : decode cX5_about 158 = .ok (.getfield 35, 3) := by decide +kernel
theorem dX5_about_161 : decode cX5_about 161 = .ok (.iload 4, 2) := by decide +kernel
theorem dX5_about_163 : decode cX5_about 163 = .ok (.iaload, 1) := by decide +kernel
theorem dX5_about_164 : decode cX5_about 164 = .ok (.if_icmp .ge 48, 3) := by decide +kernel
theorem dX5_about_167 : decode cX5_about 167 = .ok (.iload 5, 2) := by decide +kernel
theorem dX5_about_169 : decode cX5_about 169 = .ok (.ifCond .ne 30, 3) := by decide +kernel
theorem dX5_about_172 : decode cX5_about 172 = .ok (.aload_n 0, 1) := by decide +kernel
theorem dX5_about_173 : decode cX5_about 173 = .ok (.getfield 56, 3) := by decide +kernel
theorem dX5_about_176 : decode cX5_about 176 = .ok (.aload_n 0, 1) := by decide +kernel
theorem dX5_about_177 : decode cX5_about 177 = .ok (.getfield 38, 3) := by decide +kernel
theorem dX5_about_180 : decode cX5_about 180 = .ok (.bipush 32, 2) := by decide +kernel
theorem dX5_about_182 : decode cX5_about 182 = .ok (.iload 4, 2) := by decide +kernel
theorem dX5_about_184 : decode cX5_about 184 = .ok (.imul, 1) := by decide +kernel
theorem dX5_about_185 : decode cX5_about 185 = .ok (.iload 6, 2) := by decide +kernel
theorem dX5_about_187 : decode cX5_about 187 = .ok (.iadd, 1) := by decide +kernel
theorem dX5_about_188 : decode cX5_about 188 = .ok (.iaload, 1) := by decide +kernel
theorem dX5_about_189 : decode cX5_about 189 = .ok (.iaload, 1) := by decide +kernel
theorem dX5_about_190 : decode cX5_about 190 = .ok (.aload_n 0, 1) := by decide +kernel
theorem dX5_about_191 : decode cX5_about 191 = .ok (.getfield 56, 3) := by decide +kernel
theorem dX5_about_194 : decode cX5_about 194 = .ok (.iload_n 1, 1) := by decide +kernel
theorem dX5_about_195 : decode cX5_about 195 = .ok (.iaload, 1) := by decide +kernel
theorem dX5_about_196 : decode cX5_about 196 = .ok (.if_icmp .ne 7, 3) := by decide +kernel
theorem dX5_about_199 : decode cX5_about 199 = .ok (.iconst 1, 1) := by decide +kernel
theorem dX5_about_200 : decode cX5_about 200 = .ok (.goto 4, 3) := by decide +kernel
theorem dX5_about_203 : decode cX5_about 203 = .ok (.iconst 0, 1) := by decide +kernel
theorem dX5_about_204 : decode cX5_about 204 = .ok (.istore 5, 2) := by decide +kernel
theorem dX5_about_206 : decode cX5_about 206 = .ok (.iinc 6 1, 3) := by decide +kernel
theorem dX5_about_209 : decode cX5_about 209 = .ok (.goto (-54), 3) := by decide +kernel
theorem dX5_about_212 : decode cX5_about 212 = .ok (.iload_n 3, 1) := by decide +kernel
theorem dX5_about_213 : decode cX5_about 213 = .ok (.iload 5, 2) := by decide +kernel
theorem dX5_about_215 : decode cX5_about 215 = .ok (.ifCond .eq 7, 3) := by decide +kernel
theorem dX5_about_218 : decode cX5_about 218 = .ok (.iconst 1, 1) := by decide +kernel
theorem dX5_about_219 : decode cX5_about 219 = .ok (.goto 4, 3) := by decide +kernel
theorem dX5_about_222 : decode cX5_about 222 = .ok (.iconst 0, 1) := by decide +kernel
theorem dX5_about_223 : decode cX5_about 223 = .ok (.iadd, 1) := by decide +kernel
theorem dX5_about_224 : decode cX5_about 224 = .ok (.istore_n 3, 1) := by decide +kernel
theorem dX5_about_225 : decode cX5_about 225 = .ok (.iinc 4 1, 3) := by decide +kernel
theorem dX5_about_228 : decode cX5_about 228 = .ok (.goto (-88), 3) := by decide +kernel
theorem dX5_about_231 : decode cX5_about 231 = .ok (.iload_n 3, 1) := by decide +kernel
theorem dX5_about_232 : decode cX5_about 232 = .ok (.ireturn, 1) := by decide +kernel
theorem dX5_about_233 : decode cX5_about 233 = .ok (.iconst 0, 1) := by decide +kernel
theorem dX5_about_234 : decode cX5_about 234 = .ok (.istore 4, 2) := by decide +kernel
theorem dX5_about_236 : decode cX5_about 236 = .ok (.iload 4, 2) := by decide +kernel
theorem dX5_about_238 : decode cX5_about 238 = .ok (.aload_n 0, 1) := by decide +kernel
theorem dX5_about_239 : decode cX5_about 239 = .ok (.getfield 146, 3) := by decide +kernel
theorem dX5_about_242 : decode cX5_about 242 = .ok (.if_icmp .ge 38, 3) := by decide +kernel
theorem dX5_about_245 : decode cX5_about 245 = .ok (.aload_n 0, 1) := by decide +kernel
theorem dX5_about_246 : decode cX5_about 246 = .ok (.getfield 139, 3) := by decide +kernel
theorem dX5_about_249 : decode cX5_about 249 = .ok (.ifCond .eq 31, 3) := by decide +kernel
theorem dX5_about_252 : decode cX5_about 252 = .ok (.aload_n 0, 1) := by decide +kernel
theorem dX5_about_253 : decode cX5_about 253 = .ok (.getfield 81, 3) := by decide +kernel
theorem dX5_about_256 : decode cX5_about 256 = .ok (.iload 4, 2) := by decide +kernel
theorem dX5_about_258 : decode cX5_about 258 = .ok (.iaload, 1) := by decide +kernel
theorem dX5_about_259 : decode cX5_about 259 = .ok (.aload_n 0, 1) := by decide +kernel
theorem dX5_about_260 : decode cX5_about 260 = .ok (.getfield 56, 3) := by decide +kernel
theorem dX5_about_263 : decode cX5_about 263 = .ok (.iload_n 1, 1) := by decide +kernel
theorem dX5_about_264 : decode cX5_about 264 = .ok (.iaload, 1) := by decide +kernel
theorem dX5_about_265 : decode cX5_about 265 = .ok (.if_icmp .ne 7, 3) := by decide +kernel
theorem dX5_about_268 : decode cX5_about 268 = .ok (.iconst 1, 1) := by decide +kernel
theorem dX5_about_269 : decode cX5_about 269 = .ok (.goto 4, 3) := by decide +kernel
theorem dX5_about_272 : decode cX5_about 272 = .ok (.iload_n 3, 1) := by decide +kernel
theorem dX5_about_273 : decode cX5_about 273 = .ok (.istore_n 3, 1) := by decide +kernel
theorem dX5_about_274 : decode cX5_about 274 = .ok (.iinc 4 1, 3) := by decide +kernel
theorem dX5_about_277 : decode cX5_about 277 = .ok (.goto (-41), 3) := by decide +kernel
theorem dX5_about_280 : decode cX5_about 280 = .ok (.iload_n 3, 1) := by decide +kernel
theorem dX5_about_281 : decode cX5_about 281 = .ok (.ireturn, 1) := by decide +kernel
theorem dX5_about_282 : decode cX5_about 282 = .ok (.iconst (-1), 1) := by decide +kernel
theorem dX5_about_283 : decode cX5_about 283 = .ok (.ireturn, 1) := by decide +kernel
set_option maxRecDepth 20000 in
theorem ggX5_bound_X5_isName : GoodIn wsX5_bound wsX5_isName := goodIn_r _ [13, 14, 15, 16, 17, 18, 19, 20, 21, 22, 23, 24, 25, 26, 27, 28, 29, 30, 31, 32, 33, 34, 35, 36, 37, 38, 39, 40, 41, 42, 43, 44, 45, 46, 47, 48] (by decide +kernel) (by decide +kernel)
set_option maxRecDepth 20000 in
theorem gX5_bound_X5_isName : GoodIn wsX5_bound (wsV RX5 129 RX5 yX5_isName wsX5_isName) := goodIn_app (goodIn_of _ (by decide +kernel)) ggX5_bound_X5_isName
theorem dX5_bound_0 : decode cX5_bound 0 = .ok (.aload_n 0, 1) := by decide +kernel
theorem dX5_bound_1 : decode cX5_bound 1 = .ok (.iload_n 1, 1) := by decide +kernel
theorem dX5_bound_2 : decode cX5_bound 2 = .ok (.invokevirtual 129, 3) := by decide +kernel
theorem dX5_bound_5 : decode cX5_bound 5 = .ok (.ifCond .ne 5, 3) := by decide +kernel
theorem dX5_bound_8 : decode cX5_bound 8 = .ok (.lconst 0, 1) := by decide +kernel
theorem dX5_bound_9 : decode cX5_bound 9 = .ok (.lreturn, 1) := by decide +kernel
theorem dX5_bound_10 : decode cX5_bound 10 = .ok (.aload_n 0, 1) := by decide +kernel
theorem dX5_bound_11 : decode cX5_bound 11 = .ok (.getfield 56, 3) := by decide +kernel
theorem dX5_bound_14 : decode cX5_bound 14 = .ok (.iload_n 1, 1) := by decide +kernel
theorem dX5_bound_15 : decode cX5_bound 15 = .ok (.iaload, 1) := by decide +kernel
theorem dX5_bound_16 : decode cX5_bound 16 = .ok (.istore_n 3, 1) := by decide +kernel
theorem dX5_bound_17 : decode cX5_bound 17 = .ok (.aload_n 0, 1) := by decide +kernel
theorem dX5_bound_18 : decode cX5_bound 18 = .ok (.getfield 59, 3) := by decide +kernel
theorem dX5_bound_21 : decode cX5_bound 21 = .ok (.iload_n 3, 1) := by decide +kernel
theorem dX5_bound_22 : decode cX5_bound 22 = .ok (.baload, 1) := by decide +kernel
theorem dX5_bound_23 : decode cX5_bound 23 = .ok (.ifCond .eq 10, 3) := by decide +kernel
theorem dX5_bound_26 : decode cX5_bound 26 = .ok (.aload_n 0, 1) := by decide +kernel
theorem dX5_bound_27 : decode cX5_bound 27 = .ok (.getfield 66, 3) := by decide +kernel
theorem dX5_bound_30 : decode cX5_bound 30 = .ok (.iload_n 3, 1) := by decide +kernel
theorem dX5_bound_31 : decode cX5_bound 31 = .ok (.laload, 1) := by decide +kernel
theorem dX5_bound_32 : decode cX5_bound 32 = .ok (.lreturn, 1) := by decide +kernel
theorem dX5_bound_33 : decode cX5_bound 33 = .ok (.aload_n 0, 1) := by decide +kernel
theorem dX5_bound_34 : decode cX5_bound 34 = .ok (.getfield 63, 3) := by decide +kernel
theorem dX5_bound_37 : decode cX5_bound 37 = .ok (.iload_n 3, 1) := by decide +kernel
theorem dX5_bound_38 : decode cX5_bound 38 = .ok (.baload, 1) := by decide +kernel
theorem dX5_bound_39 : decode cX5_bound 39 = .ok (.ifCond .eq 23, 3) := by decide +kernel
theorem dX5_bound_42 : decode cX5_bound 42 = .ok (.iload_n 2, 1) := by decide +kernel
theorem dX5_bound_43 : decode cX5_bound 43 = .ok (.ifCond .eq 12, 3) := by decide +kernel
theorem dX5_bound_46 : decode cX5_bound 46 = .ok (.aload_n 0, 1) := by decide +kernel
theorem dX5_bound_47 : decode cX5_bound 47 = .ok (.getfield 72, 3) := by decide +kernel
theorem dX5_bound_50 : decode cX5_bound 50 = .ok (.iload_n 3, 1) := by decide +kernel
theorem dX5_bound_51 : decode cX5_bound 51 = .ok (.laload, 1) := by decide +kernel
theorem dX5_bound_52 : decode cX5_bound 52 = .ok (.goto 9, 3) := by decide +kernel
theorem dX5_bound_55 : decode cX5_bound 55 = .ok (.aload_n 0, 1) := by decide +kernel
theorem dX5_bound_56 : decode cX5_bound 56 = .ok (.getfield 69, 3) := by decide +kernel
theorem dX5_bound_59 : decode cX5_bound 59 = .ok (.iload_n 3, 1) := by decide +kernel
theorem dX5_bound_60 : decode cX5_bound 60 = .ok (.laload, 1) := by decide +kernel
theorem dX5_bound_61 : decode cX5_bound 61 = .ok (.lreturn, 1) := by decide +kernel
theorem dX5_bound_62 : decode cX5_bound 62 = .ok (.iload_n 2, 1) := by decide +kernel
theorem dX5_bound_63 : decode cX5_bound 63 = .ok (.ifCond .eq 9, 3) := by decide +kernel
theorem dX5_bound_66 : decode cX5_bound 66 = .ok (.ldc2_w 167, 3) := by decide +kernel
theorem dX5_bound_69 : decode cX5_bound 69 = .ok (.goto 6, 3) := by decide +kernel
theorem dX5_bound_72 : decode cX5_bound 72 = .ok (.ldc2_w 169, 3) := by decide +kernel
theorem dX5_bound_75 : decode cX5_bound 75 = .ok (.lreturn, 1) := by decide +kernel
theorem dX5_kept_0 : decode cX5_kept 0 = .ok (.iload_n 1, 1) := by decide +kernel
end
section
theorem dX5_kept_1 : decode cX5_kept 1 = .ok (.ifCond .lt 20, 3) := by decide +kernel
theorem dX5_kept_4 : decode cX5_kept 4 = .ok (.iload_n 1, 1) := by decide +kernel
theorem dX5_kept_5 : decode cX5_kept 5 = .ok (.aload_n 0, 1) := by decide +kernel
theorem dX5_kept_6 : decode cX5_kept 6 = .ok (.getfield 108, 3) := by decide +kernel
theorem dX5_kept_9 : decode cX5_kept 9 = .ok (.if_icmp .ge 12, 3) := by decide +kernel
theorem dX5_kept_12 : decode cX5_kept 12 = .ok (.iload_n 2, 1) := by decide +kernel
theorem dX5_kept_13 : decode cX5_kept 13 = .ok (.ifCond .lt 8, 3) := by decide +kernel
theorem dX5_kept_16 : decode cX5_kept 16 = .ok (.iload_n 2, 1) := by decide +kernel
theorem dX5_kept_17 : decode cX5_kept 17 = .ok (.iconst 2, 1) := by decide +kernel
theorem dX5_kept_18 : decode cX5_kept 18 = .ok (.if_icmp .le 5, 3) := by decide +kernel
theorem dX5_kept_21 : decode cX5_kept 21 = .ok (.iconst (-1), 1) := by decide +kernel
theorem dX5_kept_22 : decode cX5_kept 22 = .ok (.ireturn, 1) := by decide +kernel
theorem dX5_kept_23 : decode cX5_kept 23 = .ok (.iload_n 2, 1) := by decide +kernel
theorem dX5_kept_24 : decode cX5_kept 24 = .ok (.iconst 2, 1) := by decide +kernel
theorem dX5_kept_25 : decode cX5_kept 25 = .ok (.if_icmp .ge 23, 3) := by decide +kernel
theorem dX5_kept_28 : decode cX5_kept 28 = .ok (.iload_n 2, 1) := by decide +kernel
theorem dX5_kept_29 : decode cX5_kept 29 = .ok (.ifCond .ne 12, 3) := by decide +kernel
theorem dX5_kept_32 : decode cX5_kept 32 = .ok (.aload_n 0, 1) := by decide +kernel
theorem dX5_kept_33 : decode cX5_kept 33 = .ok (.getfield 32, 3) := by decide +kernel
theorem dX5_kept_36 : decode cX5_kept 36 = .ok (.iload_n 1, 1) := by decide +kernel
theorem dX5_kept_37 : decode cX5_kept 37 = .ok (.iaload, 1) := by decide +kernel
theorem dX5_kept_38 : decode cX5_kept 38 = .ok (.goto 9, 3) := by decide +kernel
theorem dX5_kept_41 : decode cX5_kept 41 = .ok (.aload_n 0, 1) := by decide +kernel
theorem dX5_kept_42 : decode cX5_kept 42 = .ok (.getfield 35, 3) := by decide +kernel
theorem dX5_kept_45 : decode cX5_kept 45 = .ok (.iload_n 1, 1) := by decide +kernel
theorem dX5_kept_46 : decode cX5_kept 46 = .ok (.iaload, 1) := by decide +kernel
theorem dX5_kept_47 : decode cX5_kept 47 = .ok (.ireturn, 1) := by decide +kernel
theorem dX5_kept_48 : decode cX5_kept 48 = .ok (.iconst 0, 1) := by decide +kernel
theorem dX5_kept_49 : decode cX5_kept 49 = .ok (.istore_n 3, 1) := by decide +kernel
theorem dX5_kept_50 : decode cX5_kept 50 = .ok (.iconst 0, 1) := by decide +kernel
theorem dX5_kept_51 : decode cX5_kept 51 = .ok (.istore 4, 2) := by decide +kernel
theorem dX5_kept_53 : decode cX5_kept 53 = .ok (.iload 4, 2) := by decide +kernel
theorem dX5_kept_55 : decode cX5_kept 55 = .ok (.aload_n 0, 1) := by decide +kernel
theorem dX5_kept_56 : decode cX5_kept 56 = .ok (.getfield 35, 3) := by decide +kernel
theorem dX5_kept_59 : decode cX5_kept 59 = .ok (.iload_n 1, 1) := by decide +kernel
theorem dX5_kept_60 : decode cX5_kept 60 = .ok (.iaload, 1) := by decide +kernel
theorem dX5_kept_61 : decode cX5_kept 61 = .ok (.if_icmp .ge 42, 3) := by decide +kernel
theorem dX5_kept_64 : decode cX5_kept 64 = .ok (.iload_n 3, 1) := by decide +kernel
theorem dX5_kept_65 : decode cX5_kept 65 = .ok (.aload_n 0, 1) := by decide +kernel
theorem dX5_kept_66 : decode cX5_kept 66 = .ok (.getfield 59, 3) := by decide +kernel
theorem dX5_kept_69 : decode cX5_kept 69 = .ok (.aload_n 0, 1) := by decide +kernel
theorem dX5_kept_70 : decode cX5_kept 70 = .ok (.getfield 56, 3) := by decide +kernel
theorem dX5_kept_73 : decode cX5_kept 73 = .ok (.aload_n 0, 1) := by decide +kernel
theorem dX5_kept_74 : decode cX5_kept 74 = .ok (.getfield 38, 3) := by decide +kernel
theorem dX5_kept_77 : decode cX5_kept 77 = .ok (.bipush 32, 2) := by decide +kernel
theorem dX5_kept_79 : decode cX5_kept 79 = .ok (.iload_n 1, 1) := by decide +kernel
theorem dX5_kept_80 : decode cX5_kept 80 = .ok (.imul, 1) := by decide +kernel
theorem dX5_kept_81 : decode cX5_kept 81 = .ok (.iload 4, 2) := by decide +kernel
theorem dX5_kept_83 : decode cX5_kept 83 = .ok (.iadd, 1) := by decide +kernel
theorem dX5_kept_84 : decode cX5_kept 84 = .ok (.iaload, 1) := by decide +kernel
theorem dX5_kept_85 : decode cX5_kept 85 = .ok (.iaload, 1) := by decide +kernel
theorem dX5_kept_86 : decode cX5_kept 86 = .ok (.baload, 1) := by decide +kernel
theorem dX5_kept_87 : decode cX5_kept 87 = .ok (.ifCond .eq 7, 3) := by decide +kernel
theorem dX5_kept_90 : decode cX5_kept 90 = .ok (.iconst 0, 1) := by decide +kernel
theorem dX5_kept_91 : decode cX5_kept 91 = .ok (.goto 4, 3) := by decide +kernel
theorem dX5_kept_94 : decode cX5_kept 94 = .ok (.iconst 1, 1) := by decide +kernel
theorem dX5_kept_95 : decode cX5_kept 95 = .ok (.iadd, 1) := by decide +kernel
theorem dX5_kept_96 : decode cX5_kept 96 = .ok (.istore_n 3, 1) := by decide +kernel
theorem dX5_kept_97 : decode cX5_kept 97 = .ok (.iinc 4 1, 3) := by decide +kernel
theorem dX5_kept_100 : decode cX5_kept 100 = .ok (.goto (-47), 3) := by decide +kernel
theorem dX5_kept_103 : decode cX5_kept 103 = .ok (.iload_n 3, 1) := by decide +kernel
theorem dX5_kept_104 : decode cX5_kept 104 = .ok (.ireturn, 1) := by decide +kernel
theorem dX5_count_0 : decode cX5_count 0 = .ok (.iload_n 1, 1) := by decide +kernel
theorem dX5_count_1 : decode cX5_count 1 = .ok (.tableswitch 78 0 6 #[43, 48, 53, 58, 63, 68, 73], 43) := by decide +kernel
theorem dX5_count_44 : decode cX5_count 44 = .ok (.aload_n 0, 1) := by decide +kernel
theorem dX5_count_45 : decode cX5_count 45 = .ok (.getfield 87, 3) := by decide +kernel
theorem dX5_count_48 : decode cX5_count 48 = .ok (.ireturn, 1) := by decide +kernel
theorem dX5_count_49 : decode cX5_count 49 = .ok (.aload_n 0, 1) := by decide +kernel
theorem dX5_count_50 : decode cX5_count 50 = .ok (.getfield 108, 3) := by decide +kernel
theorem dX5_count_53 : decode cX5_count 53 = .ok (.ireturn, 1) := by decide +kernel
theorem dX5_count_54 : decode cX5_count 54 = .ok (.aload_n 0, 1) := by decide +kernel
theorem dX5_count_55 : decode cX5_count 55 = .ok (.getfield 162, 3) := by decide +kernel
theorem dX5_count_58 : decode cX5_count 58 = .ok (.ireturn, 1) := by decide +kernel
theorem dX5_count_59 : decode cX5_count 59 = .ok (.aload_n 0, 1) := by decide +kernel
theorem dX5_count_60 : decode cX5_count 60 = .ok (.getfield 136, 3) := by decide +kernel
theorem dX5_count_63 : decode cX5_count 63 = .ok (.ireturn, 1) := by decide +kernel
theorem dX5_count_64 : decode cX5_count 64 = .ok (.aload_n 0, 1) := by decide +kernel
theorem dX5_count_65 : decode cX5_count 65 = .ok (.getfield 143, 3) := by decide +kernel
theorem dX5_count_68 : decode cX5_count 68 = .ok (.ireturn, 1) := by decide +kernel
theorem dX5_count_69 : decode cX5_count 69 = .ok (.aload_n 0, 1) := by decide +kernel
theorem dX5_count_70 : decode cX5_count 70 = .ok (.getfield 146, 3) := by decide +kernel
theorem dX5_count_73 : decode cX5_count 73 = .ok (.ireturn, 1) := by decide +kernel
theorem dX5_count_74 : decode cX5_count 74 = .ok (.aload_n 0, 1) := by decide +kernel
theorem dX5_count_75 : decode cX5_count 75 = .ok (.getfield 149, 3) := by decide +kernel
theorem dX5_count_78 : decode cX5_count 78 = .ok (.ireturn, 1) := by decide +kernel
theorem dX5_count_79 : decode cX5_count 79 = .ok (.iconst (-1), 1) := by decide +kernel
theorem dX5_count_80 : decode cX5_count 80 = .ok (.ireturn, 1) := by decide +kernel
theorem dJ9_max_7cf53_0 : decode cJ9_max_7cf53 0 = .ok (.iload_n 0, 1) := by decide +kernel
theorem dJ9_max_7cf53_1 : decode cJ9_max_7cf53 1 = .ok (.iload_n 1, 1) := by decide +kernel
theorem dJ9_max_7cf53_2 : decode cJ9_max_7cf53 2 = .ok (.if_icmp .lt 7, 3) := by decide +kernel
theorem dJ9_max_7cf53_5 : decode cJ9_max_7cf53 5 = .ok (.iload_n 0, 1) := by decide +kernel
theorem dJ9_max_7cf53_6 : decode cJ9_max_7cf53 6 = .ok (.goto 4, 3) := by decide +kernel
theorem dJ9_max_7cf53_9 : decode cJ9_max_7cf53 9 = .ok (.iload_n 1, 1) := by decide +kernel
theorem dJ9_max_7cf53_10 : decode cJ9_max_7cf53 10 = .ok (.ireturn, 1) := by decide +kernel
theorem dJ9_max_f86c9_0 : decode cJ9_max_f86c9 0 = .ok (.lload_n 0, 1) := by decide +kernel
theorem dJ9_max_f86c9_1 : decode cJ9_max_f86c9 1 = .ok (.lload_n 2, 1) := by decide +kernel
theorem dJ9_max_f86c9_2 : decode cJ9_max_f86c9 2 = .ok (.lcmp, 1) := by decide +kernel
theorem dJ9_max_f86c9_3 : decode cJ9_max_f86c9 3 = .ok (.ifCond .lt 7, 3) := by decide +kernel
theorem dJ9_max_f86c9_6 : decode cJ9_max_f86c9 6 = .ok (.lload_n 0, 1) := by decide +kernel
theorem dJ9_max_f86c9_7 : decode cJ9_max_f86c9 7 = .ok (.goto 4, 3) := by decide +kernel
theorem dJ9_max_f86c9_10 : decode cJ9_max_f86c9 10 = .ok (.lload_n 2, 1) := by decide +kernel
theorem dJ9_max_f86c9_11 : decode cJ9_max_f86c9 11 = .ok (.lreturn, 1) := by decide +kernel
theorem dJ9_min_7cf53_0 : decode cJ9_min_7cf53 0 = .ok (.iload_n 0, 1) := by decide +kernel
theorem dJ9_min_7cf53_1 : decode cJ9_min_7cf53 1 = .ok (.iload_n 1, 1) := by decide +kernel
theorem dJ9_min_7cf53_2 : decode cJ9_min_7cf53 2 = .ok (.if_icmp .gt 7, 3) := by decide +kernel
theorem dJ9_min_7cf53_5 : decode cJ9_min_7cf53 5 = .ok (.iload_n 0, 1) := by decide +kernel
theorem dJ9_min_7cf53_6 : decode cJ9_min_7cf53 6 = .ok (.goto 4, 3) := by decide +kernel
theorem dJ9_min_7cf53_9 : decode cJ9_min_7cf53 9 = .ok (.iload_n 1, 1) := by decide +kernel
theorem dJ9_min_7cf53_10 : decode cJ9_min_7cf53 10 = .ok (.ireturn, 1) := by decide +kernel
theorem dJ9_min_f86c9_0 : decode cJ9_min_f86c9 0 = .ok (.lload_n 0, 1) := by decide +kernel
theorem dJ9_min_f86c9_1 : decode cJ9_min_f86c9 1 = .ok (.lload_n 2, 1) := by decide +kernel
theorem dJ9_min_f86c9_2 : decode cJ9_min_f86c9 2 = .ok (.lcmp, 1) := by decide +kernel
theorem dJ9_min_f86c9_3 : decode cJ9_min_f86c9 3 = .ok (.ifCond .gt 7, 3) := by decide +kernel
theorem dJ9_min_f86c9_6 : decode cJ9_min_f86c9 6 = .ok (.lload_n 0, 1) := by decide +kernel
theorem dJ9_min_f86c9_7 : decode cJ9_min_f86c9 7 = .ok (.goto 4, 3) := by decide +kernel
theorem dJ9_min_f86c9_10 : decode cJ9_min_f86c9 10 = .ok (.lload_n 2, 1) := by decide +kernel
theorem dJ9_min_f86c9_11 : decode cJ9_min_f86c9 11 = .ok (.lreturn, 1) := by decide +kernel
theorem dJxa1e45_init_da8c8_0 : decode cJxa1e45_init_da8c8 0 = .ok (.aload_n 0, 1) := by decide +kernel
theorem dJxa1e45_init_da8c8_1 : decode cJxa1e45_init_da8c8 1 = .ok (.invokespecial 1, 3) := by decide +kernel
theorem dJxa1e45_init_da8c8_4 : decode cJxa1e45_init_da8c8 4 = .ok (.return_, 1) := by decide +kernel
set_option maxRecDepth 20000 in
theorem ggJxc12de_init_da8c8_Jxa1e45_init_da8c8 : GoodIn wsJxc12de_init_da8c8 wsJxa1e45_init_da8c8 := goodIn_r _ [5, 6, 7, 8] (by decide +kernel) (by decide +kernel)
set_option maxRecDepth 20000 in
theorem gJxc12de_init_da8c8_Jxa1e45_init_da8c8 : GoodIn wsJxc12de_init_da8c8 (wsJxa1e45_init_da8c8) := ggJxc12de_init_da8c8_Jxa1e45_init_da8c8
theorem dJxc12de_init_da8c8_0 : decode cJxc12de_init_da8c8 0 = .ok (.aload_n 0, 1) := by decide +kernel
theorem dJxc12de_init_da8c8_1 : decode cJxc12de_init_da8c8 1 = .ok (.invokespecial 1, 3) := by decide +kernel
theorem dJxc12de_init_da8c8_4 : decode cJxc12de_init_da8c8 4 = .ok (.aload_n 0, 1) := by decide +kernel
theorem dJxc12de_init_da8c8_5 : decode cJxc12de_init_da8c8 5 = .ok (.iconst 0, 1) := by decide +kernel
theorem dJxc12de_init_da8c8_6 : decode cJxc12de_init_da8c8 6 = .ok (.putfield 7, 3) := by decide +kernel
theorem dJxc12de_init_da8c8_9 : decode cJxc12de_init_da8c8 9 = .ok (.return_, 1) := by decide +kernel
set_option maxRecDepth 20000 in
theorem ggJx4a65c_init_da8c8_Jxc12de_init_da8c8 : GoodIn wsJx4a65c_init_da8c8 wsJxc12de_init_da8c8 := goodIn_r _ [6, 7, 8, 9, 10, 11, 12, 13, 14, 15, 16, 17] (by decide +kernel) (by decide +kernel)
set_option maxRecDepth 20000 in
theorem gJx4a65c_init_da8c8_Jxc12de_init_da8c8 : GoodIn wsJx4a65c_init_da8c8 (wsJxc12de_init_da8c8) := ggJx4a65c_init_da8c8_Jxc12de_init_da8c8
theorem dJx4a65c_init_da8c8_0 : decode cJx4a65c_init_da8c8 0 = .ok (.aload_n 0, 1) := by decide +kernel
theorem dJx4a65c_init_da8c8_1 : decode cJx4a65c_init_da8c8 1 = .ok (.invokespecial 1, 3) := by decide +kernel
theorem dJx4a65c_init_da8c8_4 : decode cJx4a65c_init_da8c8 4 = .ok (.aload_n 0, 1) := by decide +kernel
theorem dJx4a65c_init_da8c8_5 : decode cJx4a65c_init_da8c8 5 = .ok (.getstatic 39, 3) := by decide +kernel
theorem dJx4a65c_init_da8c8_8 : decode cJx4a65c_init_da8c8 8 = .ok (.putfield 9, 3) := by decide +kernel
theorem dJx4a65c_init_da8c8_11 : decode cJx4a65c_init_da8c8 11 = .ok (.return_, 1) := by decide +kernel
set_option maxRecDepth 20000 in
theorem ggJx4a65c_grow_92f84_J8_newLength_cabcc : GoodIn wsJx4a65c_grow_92f84 wsJ8_newLength_cabcc := goodIn_r _ [11, 12, 4, 5, 6, 13, 14, 15, 10, 16] (by decide +kernel) (by decide +kernel)
set_option maxRecDepth 20000 in
theorem gJx4a65c_grow_92f84_J8_newLength_cabcc : GoodIn wsJx4a65c_grow_92f84 (va_wsS RJx4a65c 73 yJ8_newLength_cabcc wsJ8_newLength_cabcc) := goodIn_app (goodIn_of _ (by decide +kernel)) ggJx4a65c_grow_92f84_J8_newLength_cabcc
set_option maxRecDepth 20000 in
theorem ggJx4a65c_grow_92f84_J7_copyOf_1904c : GoodIn wsJx4a65c_grow_92f84 wsJ7_copyOf_1904c := goodIn_r _ [20, 21, 22, 23, 24, 25, 26, 19, 27, 28, 29, 30, 31, 5, 32, 33, 34, 35, 36] (by decide +kernel) (by decide +kernel)
set_option maxRecDepth 20000 in
theorem gJx4a65c_grow_92f84_J7_copyOf_1904c : GoodIn wsJx4a65c_grow_92f84 (va_wsS RJx4a65c 66 yJ7_copyOf_1904c wsJ7_copyOf_1904c) := goodIn_app (goodIn_of _ (by decide +kernel)) ggJx4a65c_grow_92f84_J7_copyOf_1904c
theorem dJx4a65c_grow_92f84_0 : decode cJx4a65c_grow_92f84 0 = .ok (.aload_n 0, 1) := by decide +kernel
theorem dJx4a65c_grow_92f84_1 : decode cJx4a65c_grow_92f84 1 = .ok (.getfield 9, 3) := by decide +kernel
theorem dJx4a65c_grow_92f84_4 : decode cJx4a65c_grow_92f84 4 = .ok (.arraylength, 1) := by decide +kernel
theorem dJx4a65c_grow_92f84_5 : decode cJx4a65c_grow_92f84 5 = .ok (.istore_n 2, 1) := by decide +kernel
theorem dJx4a65c_grow_92f84_6 : decode cJx4a65c_grow_92f84 6 = .ok (.iload_n 2, 1) := by decide +kernel
theorem dJx4a65c_grow_92f84_7 : decode cJx4a65c_grow_92f84 7 = .ok (.ifCond .gt 13, 3) := by decide +kernel
theorem dJx4a65c_grow_92f84_10 : decode cJx4a65c_grow_92f84 10 = .ok (.aload_n 0, 1) := by decide +kernel
theorem dJx4a65c_grow_92f84_11 : decode cJx4a65c_grow_92f84 11 = .ok (.getfield 9, 3) := by decide +kernel
theorem dJx4a65c_grow_92f84_14 : decode cJx4a65c_grow_92f84 14 = .ok (.getstatic 39, 3) := by decide +kernel
theorem dJx4a65c_grow_92f84_17 : decode cJx4a65c_grow_92f84 17 = .ok (.if_acmp .eq 28, 3) := by decide +kernel
theorem dJx4a65c_grow_92f84_20 : decode cJx4a65c_grow_92f84 20 = .ok (.iload_n 2, 1) := by decide +kernel
theorem dJx4a65c_grow_92f84_21 : decode cJx4a65c_grow_92f84 21 = .ok (.iload_n 1, 1) := by decide +kernel
theorem dJx4a65c_grow_92f84_22 : decode cJx4a65c_grow_92f84 22 = .ok (.iload_n 2, 1) := by decide +kernel
theorem dJx4a65c_grow_92f84_23 : decode cJx4a65c_grow_92f84 23 = .ok (.isub, 1) := by decide +kernel
theorem dJx4a65c_grow_92f84_24 : decode cJx4a65c_grow_92f84 24 = .ok (.iload_n 2, 1) := by decide +kernel
theorem dJx4a65c_grow_92f84_25 : decode cJx4a65c_grow_92f84 25 = .ok (.iconst 1, 1) := by decide +kernel
theorem dJx4a65c_grow_92f84_26 : decode cJx4a65c_grow_92f84 26 = .ok (.ishr, 1) := by decide +kernel
theorem dJx4a65c_grow_92f84_27 : decode cJx4a65c_grow_92f84 27 = .ok (.invokestatic 73, 3) := by decide +kernel
theorem dJx4a65c_grow_92f84_30 : decode cJx4a65c_grow_92f84 30 = .ok (.istore_n 3, 1) := by decide +kernel
theorem dJx4a65c_grow_92f84_31 : decode cJx4a65c_grow_92f84 31 = .ok (.aload_n 0, 1) := by decide +kernel
theorem dJx4a65c_grow_92f84_32 : decode cJx4a65c_grow_92f84 32 = .ok (.aload_n 0, 1) := by decide +kernel
theorem dJx4a65c_grow_92f84_33 : decode cJx4a65c_grow_92f84 33 = .ok (.getfield 9, 3) := by decide +kernel
theorem dJx4a65c_grow_92f84_36 : decode cJx4a65c_grow_92f84 36 = .ok (.iload_n 3, 1) := by decide +kernel
theorem dJx4a65c_grow_92f84_37 : decode cJx4a65c_grow_92f84 37 = .ok (.invokestatic 66, 3) := by decide +kernel
theorem dJx4a65c_grow_92f84_40 : decode cJx4a65c_grow_92f84 40 = .ok (.dup_x1, 1) := by decide +kernel
theorem dJx4a65c_grow_92f84_41 : decode cJx4a65c_grow_92f84 41 = .ok (.putfield 9, 3) := by decide +kernel
theorem dJx4a65c_grow_92f84_44 : decode cJx4a65c_grow_92f84 44 = .ok (.areturn, 1) := by decide +kernel
theorem dJx4a65c_grow_92f84_45 : decode cJx4a65c_grow_92f84 45 = .ok (.aload_n 0, 1) := by decide +kernel
theorem dJx4a65c_grow_92f84_46 : decode cJx4a65c_grow_92f84 46 = .ok (.bipush 10, 2) := by decide +kernel
theorem dJx4a65c_grow_92f84_48 : decode cJx4a65c_grow_92f84 48 = .ok (.iload_n 1, 1) := by decide +kernel
theorem dJx4a65c_grow_92f84_49 : decode cJx4a65c_grow_92f84 49 = .ok (.invokestatic 79, 3) := by decide +kernel
theorem dJx4a65c_grow_92f84_52 : decode cJx4a65c_grow_92f84 52 = .ok (.anewarray 7, 3) := by decide +kernel
theorem dJx4a65c_grow_92f84_55 : decode cJx4a65c_grow_92f84 55 = .ok (.dup_x1, 1) := by decide +kernel
theorem dJx4a65c_grow_92f84_56 : decode cJx4a65c_grow_92f84 56 = .ok (.putfield 9, 3) := by decide +kernel
theorem dJx4a65c_grow_92f84_59 : decode cJx4a65c_grow_92f84 59 = .ok (.areturn, 1) := by decide +kernel
set_option maxRecDepth 20000 in
theorem ggJx4a65c_grow_d5877_Jx4a65c_grow_92f84 : GoodIn wsJx4a65c_grow_d5877 wsJx4a65c_grow_92f84 := goodIn_r _ [6, 7, 8, 9, 10, 11, 12, 13, 14, 15, 16, 17, 18, 19, 20, 21, 22, 23, 24, 25, 26, 27, 28, 29, 30, 31, 32, 33, 34, 35, 36, 37, 38, 39, 40, 41, 42, 43, 44, 45] (by decide +kernel) (by decide +kernel)
set_option maxRecDepth 20000 in
theorem gJx4a65c_grow_d5877_Jx4a65c_grow_92f84 : GoodIn wsJx4a65c_grow_d5877 (wsV RJx4a65c 69 RJx4a65c yJx4a65c_grow_92f84 wsJx4a65c_grow_92f84) := goodIn_app (goodIn_of _ (by decide +kernel)) ggJx4a65c_grow_d5877_Jx4a65c_grow_92f84
theorem dJx4a65c_grow_d5877_0 : decode cJx4a65c_grow_d5877 0 = .ok (.aload_n 0, 1) := by decide +kernel
theorem dJx4a65c_grow_d5877_1 : decode cJx4a65c_grow_d5877 1 = .ok (.aload_n 0, 1) := by decide +kernel
theorem dJx4a65c_grow_d5877_2 : decode cJx4a65c_grow_d5877 2 = .ok (.getfield 48, 3) := by decide +kernel
theorem dJx4a65c_grow_d5877_5 : decode cJx4a65c_grow_d5877 5 = .ok (.iconst 1, 1) := by decide +kernel
theorem dJx4a65c_grow_d5877_6 : decode cJx4a65c_grow_d5877 6 = .ok (.iadd, 1) := by decide +kernel
theorem dJx4a65c_grow_d5877_7 : decode cJx4a65c_grow_d5877 7 = .ok (.invokevirtual 69, 3) := by decide +kernel
theorem dJx4a65c_grow_d5877_10 : decode cJx4a65c_grow_d5877 10 = .ok (.areturn, 1) := by decide +kernel
theorem dJx4a65c_size_8abf5_0 : decode cJx4a65c_size_8abf5 0 = .ok (.aload_n 0, 1) := by decide +kernel
theorem dJx4a65c_size_8abf5_1 : decode cJx4a65c_size_8abf5 1 = .ok (.getfield 48, 3) := by decide +kernel
theorem dJx4a65c_size_8abf5_4 : decode cJx4a65c_size_8abf5 4 = .ok (.ireturn, 1) := by decide +kernel
theorem dJx4a65c_elementData_915e3_0 : decode cJx4a65c_elementData_915e3 0 = .ok (.aload_n 0, 1) := by decide +kernel
theorem dJx4a65c_elementData_915e3_1 : decode cJx4a65c_elementData_915e3 1 = .ok (.getfield 9, 3) := by decide +kernel
theorem dJx4a65c_elementData_915e3_4 : decode cJx4a65c_elementData_915e3 4 = .ok (.iload_n 1, 1) := by decide +kernel
theorem dJx4a65c_elementData_915e3_5 : decode cJx4a65c_elementData_915e3 5 = .ok (.aaload, 1) := by decide +kernel
theorem dJx4a65c_elementData_915e3_6 : decode cJx4a65c_elementData_915e3 6 = .ok (.areturn, 1) := by decide +kernel
set_option maxRecDepth 20000 in
theorem ggJx4a65c_get_915e3_J15_checkIndex_7cf53 : GoodIn wsJx4a65c_get_915e3 wsJ15_checkIndex_7cf53 := goodIn_r _ [5, 6, 7, 8, 9] (by decide +kernel) (by decide +kernel)
set_option maxRecDepth 20000 in
theorem gJx4a65c_get_915e3_J15_checkIndex_7cf53 : GoodIn wsJx4a65c_get_915e3 (va_wsS RJx4a65c 118 yJ15_checkIndex_7cf53 wsJ15_checkIndex_7cf53) := goodIn_app (goodIn_of _ (by decide +kernel)) ggJx4a65c_get_915e3_J15_checkIndex_7cf53
set_option maxRecDepth 20000 in
theorem ggJx4a65c_get_915e3_Jx4a65c_elementData_915e3 : GoodIn wsJx4a65c_get_915e3 wsJx4a65c_elementData_915e3 := goodIn_r _ [14, 15, 16, 17, 18] (by decide +kernel) (by decide +kernel)
set_option maxRecDepth 20000 in
theorem gJx4a65c_get_915e3_Jx4a65c_elementData_915e3 : GoodIn wsJx4a65c_get_915e3 (wsV RJx4a65c 123 RJx4a65c yJx4a65c_elementData_915e3 wsJx4a65c_elementData_915e3) := goodIn_app (goodIn_of _ (by decide +kernel)) ggJx4a65c_get_915e3_Jx4a65c_elementData_915e3
theorem dJx4a65c_get_915e3_0 : decode cJx4a65c_get_915e3 0 = .ok (.iload_n 1, 1) := by decide +kernel
theorem dJx4a65c_get_915e3_1 : decode cJx4a65c_get_915e3 1 = .ok (.aload_n 0, 1) := by decide +kernel
theorem dJx4a65c_get_915e3_2 : decode cJx4a65c_get_915e3 2 = .ok (.getfield 48, 3) := by decide +kernel
theorem dJx4a65c_get_915e3_5 : decode cJx4a65c_get_915e3 5 = .ok (.invokestatic 118, 3) := by decide +kernel
theorem dJx4a65c_get_915e3_8 : decode cJx4a65c_get_915e3 8 = .ok (.pop, 1) := by decide +kernel
theorem dJx4a65c_get_915e3_9 : decode cJx4a65c_get_915e3 9 = .ok (.aload_n 0, 1) := by decide +kernel
theorem dJx4a65c_get_915e3_10 : decode cJx4a65c_get_915e3 10 = .ok (.iload_n 1, 1) := by decide +kernel
theorem dJx4a65c_get_915e3_11 : decode cJx4a65c_get_915e3 11 = .ok (.invokevirtual 123, 3) := by decide +kernel
theorem dJx4a65c_get_915e3_14 : decode cJx4a65c_get_915e3 14 = .ok (.areturn, 1) := by decide +kernel
set_option maxRecDepth 20000 in
theorem ggJx4a65c_add_72be8_Jx4a65c_grow_d5877 : GoodIn wsJx4a65c_add_72be8 wsJx4a65c_grow_d5877 := goodIn_r _ [6, 1, 7, 8, 9, 5, 10, 11, 12, 13, 14, 15, 16, 17, 18, 19, 20, 21, 22, 23, 24, 25, 26, 27, 28, 29, 30, 31, 32, 33, 34, 35, 36, 37, 38, 39, 40, 41, 42, 43, 44, 45, 46, 47, 48, 49] (by decide +kernel) (by decide +kernel)
set_option maxRecDepth 20000 in
theorem gJx4a65c_add_72be8_Jx4a65c_grow_d5877 : GoodIn wsJx4a65c_add_72be8 (wsV RJx4a65c 129 RJx4a65c yJx4a65c_grow_d5877 wsJx4a65c_grow_d5877) := goodIn_app (goodIn_of _ (by decide +kernel)) ggJx4a65c_add_72be8_Jx4a65c_grow_d5877
theorem dJx4a65c_add_72be8_0 : decode cJx4a65c_add_72be8 0 = .ok (.iload_n 3, 1) := by decide +kernel
theorem dJx4a65c_add_72be8_1 : decode cJx4a65c_add_72be8 1 = .ok (.aload_n 2, 1) := by decide +kernel
theorem dJx4a65c_add_72be8_2 : decode cJx4a65c_add_72be8 2 = .ok (.arraylength, 1) := by decide +kernel
theorem dJx4a65c_add_72be8_3 : decode cJx4a65c_add_72be8 3 = .ok (.if_icmp .ne 8, 3) := by decide +kernel
theorem dJx4a65c_add_72be8_6 : decode cJx4a65c_add_72be8 6 = .ok (.aload_n 0, 1) := by decide +kernel
theorem dJx4a65c_add_72be8_7 : decode cJx4a65c_add_72be8 7 = .ok (.invokevirtual 129, 3) := by decide +kernel
theorem dJx4a65c_add_72be8_10 : decode cJx4a65c_add_72be8 10 = .ok (.astore_n 2, 1) := by decide +kernel
theorem dJx4a65c_add_72be8_11 : decode cJx4a65c_add_72be8 11 = .ok (.aload_n 2, 1) := by decide +kernel
theorem dJx4a65c_add_72be8_12 : decode cJx4a65c_add_72be8 12 = .ok (.iload_n 3, 1) := by decide +kernel
theorem dJx4a65c_add_72be8_13 : decode cJx4a65c_add_72be8 13 = .ok (.aload_n 1, 1) := by decide +kernel
theorem dJx4a65c_add_72be8_14 : decode cJx4a65c_add_72be8 14 = .ok (.aastore, 1) := by decide +kernel
theorem dJx4a65c_add_72be8_15 : decode cJx4a65c_add_72be8 15 = .ok (.aload_n 0, 1) := by decide +kernel
theorem dJx4a65c_add_72be8_16 : decode cJx4a65c_add_72be8 16 = .ok (.iload_n 3, 1) := by decide +kernel
theorem dJx4a65c_add_72be8_17 : decode cJx4a65c_add_72be8 17 = .ok (.iconst 1, 1) := by decide +kernel
theorem dJx4a65c_add_72be8_18 : decode cJx4a65c_add_72be8 18 = .ok (.iadd, 1) := by decide +kernel
theorem dJx4a65c_add_72be8_19 : decode cJx4a65c_add_72be8 19 = .ok (.putfield 48, 3) := by decide +kernel
theorem dJx4a65c_add_72be8_22 : decode cJx4a65c_add_72be8 22 = .ok (.return_, 1) := by decide +kernel
set_option maxRecDepth 20000 in
theorem ggJx4a65c_add_9ea2d_Jx4a65c_add_72be8 : GoodIn wsJx4a65c_add_9ea2d wsJx4a65c_add_72be8 := goodIn_r _ [9, 4, 10, 11, 12, 8, 13, 14, 15, 16, 17, 3, 18, 19, 20, 21, 22, 23, 24, 25, 26, 27, 28, 29, 30, 31, 32, 33, 34, 35, 36, 37, 38, 39, 40, 41, 42, 43, 44, 45, 46, 47, 48, 49, 50, 51, 52, 53, 54, 55] (by decide +kernel) (by decide +kernel)
set_option maxRecDepth 20000 in
theorem gJx4a65c_add_9ea2d_Jx4a65c_add_72be8 : GoodIn wsJx4a65c_add_9ea2d (wsV RJx4a65c 131 RJx4a65c yJx4a65c_add_72be8 wsJx4a65c_add_72be8) := goodIn_app (goodIn_of _ (by decide +kernel)) ggJx4a65c_add_9ea2d_Jx4a65c_add_72be8
theorem dJx4a65c_add_9ea2d_0 : decode cJx4a65c_add_9ea2d 0 = .ok (.aload_n 0, 1) := by decide +kernel
theorem dJx4a65c_add_9ea2d_1 : decode cJx4a65c_add_9ea2d 1 = .ok (.dup, 1) := by decide +kernel
theorem dJx4a65c_add_9ea2d_2 : decode cJx4a65c_add_9ea2d 2 = .ok (.getfield 63, 3) := by decide +kernel
theorem dJx4a65c_add_9ea2d_5 : decode cJx4a65c_add_9ea2d 5 = .ok (.iconst 1, 1) := by decide +kernel
theorem dJx4a65c_add_9ea2d_6 : decode cJx4a65c_add_9ea2d 6 = .ok (.iadd, 1) := by decide +kernel
theorem dJx4a65c_add_9ea2d_7 : decode cJx4a65c_add_9ea2d 7 = .ok (.putfield 63, 3) := by decide +kernel
theorem dJx4a65c_add_9ea2d_10 : decode cJx4a65c_add_9ea2d 10 = .ok (.aload_n 0, 1) := by decide +kernel
theorem dJx4a65c_add_9ea2d_11 : decode cJx4a65c_add_9ea2d 11 = .ok (.aload_n 1, 1) := by decide +kernel
theorem dJx4a65c_add_9ea2d_12 : decode cJx4a65c_add_9ea2d 12 = .ok (.aload_n 0, 1) := by decide +kernel
theorem dJx4a65c_add_9ea2d_13 : decode cJx4a65c_add_9ea2d 13 = .ok (.getfield 9, 3) := by decide +kernel
theorem dJx4a65c_add_9ea2d_16 : decode cJx4a65c_add_9ea2d 16 = .ok (.aload_n 0, 1) := by decide +kernel
theorem dJx4a65c_add_9ea2d_17 : decode cJx4a65c_add_9ea2d 17 = .ok (.getfield 48, 3) := by decide +kernel
theorem dJx4a65c_add_9ea2d_20 : decode cJx4a65c_add_9ea2d 20 = .ok (.invokevirtual 131, 3) := by decide +kernel
theorem dJx4a65c_add_9ea2d_23 : decode cJx4a65c_add_9ea2d 23 = .ok (.iconst 1, 1) := by decide +kernel
theorem dJx4a65c_add_9ea2d_24 : decode cJx4a65c_add_9ea2d 24 = .ok (.ireturn, 1) := by decide +kernel
set_option maxRecDepth 20000 in
theorem ggJx4a65c_remove_915e3_J15_checkIndex_7cf53 : GoodIn wsJx4a65c_remove_915e3 wsJ15_checkIndex_7cf53 := goodIn_r _ [6, 7, 8, 9, 10] (by decide +kernel) (by decide +kernel)
set_option maxRecDepth 20000 in
theorem gJx4a65c_remove_915e3_J15_checkIndex_7cf53 : GoodIn wsJx4a65c_remove_915e3 (va_wsS RJx4a65c 118 yJ15_checkIndex_7cf53 wsJ15_checkIndex_7cf53) := goodIn_app (goodIn_of _ (by decide +kernel)) ggJx4a65c_remove_915e3_J15_checkIndex_7cf53
set_option maxRecDepth 20000 in
theorem ggJx4a65c_remove_915e3_Jx4a65c_fastRemove_b59b0 : GoodIn wsJx4a65c_remove_915e3 wsJx4a65c_fastRemove_b59b0 := goodIn_r _ [15, 16, 17, 1, 18, 19, 20, 21, 22, 23, 24] (by decide +kernel) (by decide +kernel)
set_option maxRecDepth 20000 in
theorem gJx4a65c_remove_915e3_Jx4a65c_fastRemove_b59b0 : GoodIn wsJx4a65c_remove_915e3 (wsV RJx4a65c 144 RJx4a65c yJx4a65c_fastRemove_b59b0 wsJx4a65c_fastRemove_b59b0) := goodIn_app (goodIn_of _ (by decide +kernel)) ggJx4a65c_remove_915e3_Jx4a65c_fastRemove_b59b0
theorem dJx4a65c_remove_915e3_0 : decode cJx4a65c_remove_915e3 0 = .ok (.iload_n 1, 1) := by decide +kernel
theorem dJx4a65c_remove_915e3_1 : decode cJx4a65c_remove_915e3 1 = .ok (.aload_n 0, 1) := by decide +kernel
theorem dJx4a65c_remove_915e3_2 : decode cJx4a65c_remove_915e3 2 = .ok (.getfield 48, 3) := by decide +kernel
theorem dJx4a65c_remove_915e3_5 : decode cJx4a65c_remove_915e3 5 = .ok (.invokestatic 118, 3) := by decide +kernel
theorem dJx4a65c_remove_915e3_8 : decode cJx4a65c_remove_915e3 8 = .ok (.pop, 1) := by decide +kernel
theorem dJx4a65c_remove_915e3_9 : decode cJx4a65c_remove_915e3 9 = .ok (.aload_n 0, 1) := by decide +kernel
theorem dJx4a65c_remove_915e3_10 : decode cJx4a65c_remove_915e3 10 = .ok (.getfield 9, 3) := by decide +kernel
theorem dJx4a65c_remove_915e3_13 : decode cJx4a65c_remove_915e3 13 = .ok (.astore_n 2, 1) := by decide +kernel
theorem dJx4a65c_remove_915e3_14 : decode cJx4a65c_remove_915e3 14 = .ok (.aload_n 2, 1) := by decide +kernel
theorem dJx4a65c_remove_915e3_15 : decode cJx4a65c_remove_915e3 15 = .ok (.iload_n 1, 1) := by decide +kernel
theorem dJx4a65c_remove_915e3_16 : decode cJx4a65c_remove_915e3 16 = .ok (.aaload, 1) := by decide +kernel
theorem dJx4a65c_remove_915e3_17 : decode cJx4a65c_remove_915e3 17 = .ok (.astore_n 3, 1) := by decide +kernel
theorem dJx4a65c_remove_915e3_18 : decode cJx4a65c_remove_915e3 18 = .ok (.aload_n 0, 1) := by decide +kernel
theorem dJx4a65c_remove_915e3_19 : decode cJx4a65c_remove_915e3 19 = .ok (.aload_n 2, 1) := by decide +kernel
theorem dJx4a65c_remove_915e3_20 : decode cJx4a65c_remove_915e3 20 = .ok (.iload_n 1, 1) := by decide +kernel
theorem dJx4a65c_remove_915e3_21 : decode cJx4a65c_remove_915e3 21 = .ok (.invokevirtual 144, 3) := by decide +kernel
theorem dJx4a65c_remove_915e3_24 : decode cJx4a65c_remove_915e3 24 = .ok (.aload_n 3, 1) := by decide +kernel
theorem dJx4a65c_remove_915e3_25 : decode cJx4a65c_remove_915e3 25 = .ok (.areturn, 1) := by decide +kernel
theorem dJx4a65c_fastRemove_b59b0_0 : decode cJx4a65c_fastRemove_b59b0 0 = .ok (.aload_n 0, 1) := by decide +kernel
theorem dJx4a65c_fastRemove_b59b0_1 : decode cJx4a65c_fastRemove_b59b0 1 = .ok (.dup, 1) := by decide +kernel
theorem dJx4a65c_fastRemove_b59b0_2 : decode cJx4a65c_fastRemove_b59b0 2 = .ok (.getfield 63, 3) := by decide +kernel
theorem dJx4a65c_fastRemove_b59b0_5 : decode cJx4a65c_fastRemove_b59b0 5 = .ok (.iconst 1, 1) := by decide +kernel
theorem dJx4a65c_fastRemove_b59b0_6 : decode cJx4a65c_fastRemove_b59b0 6 = .ok (.iadd, 1) := by decide +kernel
theorem dJx4a65c_fastRemove_b59b0_7 : decode cJx4a65c_fastRemove_b59b0 7 = .ok (.putfield 63, 3) := by decide +kernel
theorem dJx4a65c_fastRemove_b59b0_10 : decode cJx4a65c_fastRemove_b59b0 10 = .ok (.aload_n 0, 1) := by decide +kernel
theorem dJx4a65c_fastRemove_b59b0_11 : decode cJx4a65c_fastRemove_b59b0 11 = .ok (.getfield 48, 3) := by decide +kernel
theorem dJx4a65c_fastRemove_b59b0_14 : decode cJx4a65c_fastRemove_b59b0 14 = .ok (.iconst 1, 1) := by decide +kernel
theorem dJx4a65c_fastRemove_b59b0_15 : decode cJx4a65c_fastRemove_b59b0 15 = .ok (.isub, 1) := by decide +kernel
theorem dJx4a65c_fastRemove_b59b0_16 : decode cJx4a65c_fastRemove_b59b0 16 = .ok (.dup, 1) := by decide +kernel
theorem dJx4a65c_fastRemove_b59b0_17 : decode cJx4a65c_fastRemove_b59b0 17 = .ok (.istore_n 3, 1) := by decide +kernel
theorem dJx4a65c_fastRemove_b59b0_18 : decode cJx4a65c_fastRemove_b59b0 18 = .ok (.iload_n 2, 1) := by decide +kernel
theorem dJx4a65c_fastRemove_b59b0_19 : decode cJx4a65c_fastRemove_b59b0 19 = .ok (.if_icmp .le 15, 3) := by decide +kernel
theorem dJx4a65c_fastRemove_b59b0_22 : decode cJx4a65c_fastRemove_b59b0 22 = .ok (.aload_n 1, 1) := by decide +kernel
theorem dJx4a65c_fastRemove_b59b0_23 : decode cJx4a65c_fastRemove_b59b0 23 = .ok (.iload_n 2, 1) := by decide +kernel
theorem dJx4a65c_fastRemove_b59b0_24 : decode cJx4a65c_fastRemove_b59b0 24 = .ok (.iconst 1, 1) := by decide +kernel
theorem dJx4a65c_fastRemove_b59b0_25 : decode cJx4a65c_fastRemove_b59b0 25 = .ok (.iadd, 1) := by decide +kernel
theorem dJx4a65c_fastRemove_b59b0_26 : decode cJx4a65c_fastRemove_b59b0 26 = .ok (.aload_n 1, 1) := by decide +kernel
theorem dJx4a65c_fastRemove_b59b0_27 : decode cJx4a65c_fastRemove_b59b0 27 = .ok (.iload_n 2, 1) := by decide +kernel
theorem dJx4a65c_fastRemove_b59b0_28 : decode cJx4a65c_fastRemove_b59b0 28 = .ok (.iload_n 3, 1) := by decide +kernel
theorem dJx4a65c_fastRemove_b59b0_29 : decode cJx4a65c_fastRemove_b59b0 29 = .ok (.iload_n 2, 1) := by decide +kernel
theorem dJx4a65c_fastRemove_b59b0_30 : decode cJx4a65c_fastRemove_b59b0 30 = .ok (.isub, 1) := by decide +kernel
theorem dJx4a65c_fastRemove_b59b0_31 : decode cJx4a65c_fastRemove_b59b0 31 = .ok (.invokestatic 112, 3) := by decide +kernel
theorem dJx4a65c_fastRemove_b59b0_34 : decode cJx4a65c_fastRemove_b59b0 34 = .ok (.aload_n 1, 1) := by decide +kernel
theorem dJx4a65c_fastRemove_b59b0_35 : decode cJx4a65c_fastRemove_b59b0 35 = .ok (.aload_n 0, 1) := by decide +kernel
theorem dJx4a65c_fastRemove_b59b0_36 : decode cJx4a65c_fastRemove_b59b0 36 = .ok (.iload_n 3, 1) := by decide +kernel
theorem dJx4a65c_fastRemove_b59b0_37 : decode cJx4a65c_fastRemove_b59b0 37 = .ok (.dup_x1, 1) := by decide +kernel
theorem dJx4a65c_fastRemove_b59b0_38 : decode cJx4a65c_fastRemove_b59b0 38 = .ok (.putfield 48, 3) := by decide +kernel
theorem dJx4a65c_fastRemove_b59b0_41 : decode cJx4a65c_fastRemove_b59b0 41 = .ok (.aconst_null, 1) := by decide +kernel
theorem dJx4a65c_fastRemove_b59b0_42 : decode cJx4a65c_fastRemove_b59b0 42 = .ok (.aastore, 1) := by decide +kernel
theorem dJx4a65c_fastRemove_b59b0_43 : decode cJx4a65c_fastRemove_b59b0 43 = .ok (.return_, 1) := by decide +kernel
set_option maxRecDepth 20000 in
theorem ggJ7_copyOf_1904c_J7_copyOf_6403c : GoodIn wsJ7_copyOf_1904c wsJ7_copyOf_6403c := goodIn_r _ [8, 9, 10, 11, 12, 13, 14, 15, 16, 17, 18] (by decide +kernel) (by decide +kernel)
set_option maxRecDepth 20000 in
theorem gJ7_copyOf_1904c_J7_copyOf_6403c : GoodIn wsJ7_copyOf_1904c (va_wsS RJ7 300 yJ7_copyOf_6403c wsJ7_copyOf_6403c) := goodIn_app (goodIn_of _ (by decide +kernel)) ggJ7_copyOf_1904c_J7_copyOf_6403c
theorem dJ7_copyOf_1904c_0 : decode cJ7_copyOf_1904c 0 = .ok (.aload_n 0, 1) := by decide +kernel
theorem dJ7_copyOf_1904c_1 : decode cJ7_copyOf_1904c 1 = .ok (.iload_n 1, 1) := by decide +kernel
theorem dJ7_copyOf_1904c_2 : decode cJ7_copyOf_1904c 2 = .ok (.aload_n 0, 1) := by decide +kernel
theorem dJ7_copyOf_1904c_3 : decode cJ7_copyOf_1904c 3 = .ok (.invokevirtual 86, 3) := by decide +kernel
theorem dJ7_copyOf_1904c_6 : decode cJ7_copyOf_1904c 6 = .ok (.invokestatic 300, 3) := by decide +kernel
theorem dJ7_copyOf_1904c_9 : decode cJ7_copyOf_1904c 9 = .ok (.areturn, 1) := by decide +kernel
theorem dJ7_copyOf_6403c_0 : decode cJ7_copyOf_6403c 0 = .ok (.aload_n 2, 1) := by decide +kernel
theorem dJ7_copyOf_6403c_1 : decode cJ7_copyOf_6403c 1 = .ok (.ldc 110, 2) := by decide +kernel
theorem dJ7_copyOf_6403c_3 : decode cJ7_copyOf_6403c 3 = .ok (.if_acmp .ne 10, 3) := by decide +kernel
theorem dJ7_copyOf_6403c_6 : decode cJ7_copyOf_6403c 6 = .ok (.iload_n 1, 1) := by decide +kernel
theorem dJ7_copyOf_6403c_7 : decode cJ7_copyOf_6403c 7 = .ok (.anewarray 2, 3) := by decide +kernel
theorem dJ7_copyOf_6403c_10 : decode cJ7_copyOf_6403c 10 = .ok (.goto 14, 3) := by decide +kernel
theorem dJ7_copyOf_6403c_13 : decode cJ7_copyOf_6403c 13 = .ok (.aload_n 2, 1) := by decide +kernel
theorem dJ7_copyOf_6403c_14 : decode cJ7_copyOf_6403c 14 = .ok (.invokevirtual 90, 3) := by decide +kernel
theorem dJ7_copyOf_6403c_17 : decode cJ7_copyOf_6403c 17 = .ok (.iload_n 1, 1) := by decide +kernel
theorem dJ7_copyOf_6403c_18 : decode cJ7_copyOf_6403c 18 = .ok (.invokestatic 95, 3) := by decide +kernel
theorem dJ7_copyOf_6403c_21 : decode cJ7_copyOf_6403c 21 = .ok (.checkcast 110, 3) := by decide +kernel
theorem dJ7_copyOf_6403c_24 : decode cJ7_copyOf_6403c 24 = .ok (.astore_n 3, 1) := by decide +kernel
theorem dJ7_copyOf_6403c_25 : decode cJ7_copyOf_6403c 25 = .ok (.aload_n 0, 1) := by decide +kernel
theorem dJ7_copyOf_6403c_26 : decode cJ7_copyOf_6403c 26 = .ok (.iconst 0, 1) := by decide +kernel
theorem dJ7_copyOf_6403c_27 : decode cJ7_copyOf_6403c 27 = .ok (.aload_n 3, 1) := by decide +kernel
theorem dJ7_copyOf_6403c_28 : decode cJ7_copyOf_6403c 28 = .ok (.iconst 0, 1) := by decide +kernel
theorem dJ7_copyOf_6403c_29 : decode cJ7_copyOf_6403c 29 = .ok (.aload_n 0, 1) := by decide +kernel
theorem dJ7_copyOf_6403c_30 : decode cJ7_copyOf_6403c 30 = .ok (.arraylength, 1) := by decide +kernel
theorem dJ7_copyOf_6403c_31 : decode cJ7_copyOf_6403c 31 = .ok (.iload_n 1, 1) := by decide +kernel
theorem dJ7_copyOf_6403c_32 : decode cJ7_copyOf_6403c 32 = .ok (.invokestatic 304, 3) := by decide +kernel
theorem dJ7_copyOf_6403c_35 : decode cJ7_copyOf_6403c 35 = .ok (.invokestatic 150, 3) := by decide +kernel
theorem dJ7_copyOf_6403c_38 : decode cJ7_copyOf_6403c 38 = .ok (.aload_n 3, 1) := by decide +kernel
theorem dJ7_copyOf_6403c_39 : decode cJ7_copyOf_6403c 39 = .ok (.areturn, 1) := by decide +kernel
theorem dJ7_copyOf_59c91_0 : decode cJ7_copyOf_59c91 0 = .ok (.iload_n 1, 1) := by decide +kernel
theorem dJ7_copyOf_59c91_1 : decode cJ7_copyOf_59c91 1 = .ok (.aload_n 0, 1) := by decide +kernel
theorem dJ7_copyOf_59c91_2 : decode cJ7_copyOf_59c91 2 = .ok (.arraylength, 1) := by decide +kernel
theorem dJ7_copyOf_59c91_3 : decode cJ7_copyOf_59c91 3 = .ok (.if_icmp .ne 11, 3) := by decide +kernel
theorem dJ7_copyOf_59c91_6 : decode cJ7_copyOf_59c91 6 = .ok (.aload_n 0, 1) := by decide +kernel
theorem dJ7_copyOf_59c91_7 : decode cJ7_copyOf_59c91 7 = .ok (.invokevirtual 316, 3) := by decide +kernel
theorem dJ7_copyOf_59c91_10 : decode cJ7_copyOf_59c91 10 = .ok (.checkcast 317, 3) := by decide +kernel
theorem dJ7_copyOf_59c91_13 : decode cJ7_copyOf_59c91 13 = .ok (.areturn, 1) := by decide +kernel
theorem dJ7_copyOf_59c91_14 : decode cJ7_copyOf_59c91 14 = .ok (.iload_n 1, 1) := by decide +kernel
theorem dJ7_copyOf_59c91_15 : decode cJ7_copyOf_59c91 15 = .ok (.newarray .int, 2) := by decide +kernel
theorem dJ7_copyOf_59c91_17 : decode cJ7_copyOf_59c91 17 = .ok (.astore_n 2, 1) := by decide +kernel
theorem dJ7_copyOf_59c91_18 : decode cJ7_copyOf_59c91 18 = .ok (.aload_n 0, 1) := by decide +kernel
theorem dJ7_copyOf_59c91_19 : decode cJ7_copyOf_59c91 19 = .ok (.iconst 0, 1) := by decide +kernel
theorem dJ7_copyOf_59c91_20 : decode cJ7_copyOf_59c91 20 = .ok (.aload_n 2, 1) := by decide +kernel
theorem dJ7_copyOf_59c91_21 : decode cJ7_copyOf_59c91 21 = .ok (.iconst 0, 1) := by decide +kernel
theorem dJ7_copyOf_59c91_22 : decode cJ7_copyOf_59c91 22 = .ok (.aload_n 0, 1) := by decide +kernel
theorem dJ7_copyOf_59c91_23 : decode cJ7_copyOf_59c91 23 = .ok (.arraylength, 1) := by decide +kernel
theorem dJ7_copyOf_59c91_24 : decode cJ7_copyOf_59c91 24 = .ok (.iload_n 1, 1) := by decide +kernel
theorem dJ7_copyOf_59c91_25 : decode cJ7_copyOf_59c91 25 = .ok (.invokestatic 304, 3) := by decide +kernel
theorem dJ7_copyOf_59c91_28 : decode cJ7_copyOf_59c91 28 = .ok (.invokestatic 150, 3) := by decide +kernel
theorem dJ7_copyOf_59c91_31 : decode cJ7_copyOf_59c91 31 = .ok (.aload_n 2, 1) := by decide +kernel
theorem dJ7_copyOf_59c91_32 : decode cJ7_copyOf_59c91 32 = .ok (.areturn, 1) := by decide +kernel
theorem dJ7_copyOf_c38d5_0 : decode cJ7_copyOf_c38d5 0 = .ok (.iload_n 1, 1) := by decide +kernel
theorem dJ7_copyOf_c38d5_1 : decode cJ7_copyOf_c38d5 1 = .ok (.aload_n 0, 1) := by decide +kernel
theorem dJ7_copyOf_c38d5_2 : decode cJ7_copyOf_c38d5 2 = .ok (.arraylength, 1) := by decide +kernel
theorem dJ7_copyOf_c38d5_3 : decode cJ7_copyOf_c38d5 3 = .ok (.if_icmp .ne 11, 3) := by decide +kernel
theorem dJ7_copyOf_c38d5_6 : decode cJ7_copyOf_c38d5 6 = .ok (.aload_n 0, 1) := by decide +kernel
theorem dJ7_copyOf_c38d5_7 : decode cJ7_copyOf_c38d5 7 = .ok (.invokevirtual 319, 3) := by decide +kernel
theorem dJ7_copyOf_c38d5_10 : decode cJ7_copyOf_c38d5 10 = .ok (.checkcast 320, 3) := by decide +kernel
theorem dJ7_copyOf_c38d5_13 : decode cJ7_copyOf_c38d5 13 = .ok (.areturn, 1) := by decide +kernel
theorem dJ7_copyOf_c38d5_14 : decode cJ7_copyOf_c38d5 14 = .ok (.iload_n 1, 1) := by decide +kernel
theorem dJ7_copyOf_c38d5_15 : decode cJ7_copyOf_c38d5 15 = .ok (.newarray .long, 2) := by decide +kernel
theorem dJ7_copyOf_c38d5_17 : decode cJ7_copyOf_c38d5 17 = .ok (.astore_n 2, 1) := by decide +kernel
theorem dJ7_copyOf_c38d5_18 : decode cJ7_copyOf_c38d5 18 = .ok (.aload_n 0, 1) := by decide +kernel
theorem dJ7_copyOf_c38d5_19 : decode cJ7_copyOf_c38d5 19 = .ok (.iconst 0, 1) := by decide +kernel
theorem dJ7_copyOf_c38d5_20 : decode cJ7_copyOf_c38d5 20 = .ok (.aload_n 2, 1) := by decide +kernel
theorem dJ7_copyOf_c38d5_21 : decode cJ7_copyOf_c38d5 21 = .ok (.iconst 0, 1) := by decide +kernel
theorem dJ7_copyOf_c38d5_22 : decode cJ7_copyOf_c38d5 22 = .ok (.aload_n 0, 1) := by decide +kernel
theorem dJ7_copyOf_c38d5_23 : decode cJ7_copyOf_c38d5 23 = .ok (.arraylength, 1) := by decide +kernel
theorem dJ7_copyOf_c38d5_24 : decode cJ7_copyOf_c38d5 24 = .ok (.iload_n 1, 1) := by decide +kernel
theorem dJ7_copyOf_c38d5_25 : decode cJ7_copyOf_c38d5 25 = .ok (.invokestatic 304, 3) := by decide +kernel
theorem dJ7_copyOf_c38d5_28 : decode cJ7_copyOf_c38d5 28 = .ok (.invokestatic 150, 3) := by decide +kernel
theorem dJ7_copyOf_c38d5_31 : decode cJ7_copyOf_c38d5 31 = .ok (.aload_n 2, 1) := by decide +kernel
theorem dJ7_copyOf_c38d5_32 : decode cJ7_copyOf_c38d5 32 = .ok (.areturn, 1) := by decide +kernel
set_option maxRecDepth 20000 in
theorem ggJ15_checkIndex_7cf53_J3_checkIndex_8e157 : GoodIn wsJ15_checkIndex_7cf53 wsJ3_checkIndex_8e157 := goodIn_r _ [4] (by decide +kernel) (by decide +kernel)
set_option maxRecDepth 20000 in
theorem gJ15_checkIndex_7cf53_J3_checkIndex_8e157 : GoodIn wsJ15_checkIndex_7cf53 (va_wsS RJ15 105 yJ3_checkIndex_8e157 wsJ3_checkIndex_8e157) := goodIn_app (goodIn_of _ (by decide +kernel)) ggJ15_checkIndex_7cf53_J3_checkIndex_8e157
theorem dJ15_checkIndex_7cf53_0 : decode cJ15_checkIndex_7cf53 0 = .ok (.iload_n 0, 1) := by decide +kernel
theorem dJ15_checkIndex_7cf53_1 : decode cJ15_checkIndex_7cf53 1 = .ok (.iload_n 1, 1) := by decide +kernel
theorem dJ15_checkIndex_7cf53_2 : decode cJ15_checkIndex_7cf53 2 = .ok (.aconst_null, 1) := by decide +kernel
theorem dJ15_checkIndex_7cf53_3 : decode cJ15_checkIndex_7cf53 3 = .ok (.invokestatic 105, 3) := by decide +kernel
theorem dJ15_checkIndex_7cf53_6 : decode cJ15_checkIndex_7cf53 6 = .ok (.ireturn, 1) := by decide +kernel
set_option maxRecDepth 20000 in
theorem ggJ8_newLength_cabcc_J8_hugeLength_7cf53 : GoodIn wsJ8_newLength_cabcc wsJ8_hugeLength_7cf53 := goodIn_r _ [9, 5] (by decide +kernel) (by decide +kernel)
set_option maxRecDepth 20000 in
theorem gJ8_newLength_cabcc_J8_hugeLength_7cf53 : GoodIn wsJ8_newLength_cabcc (va_wsS RJ8 201 yJ8_hugeLength_7cf53 wsJ8_hugeLength_7cf53) := goodIn_app (goodIn_of _ (by decide +kernel)) ggJ8_newLength_cabcc_J8_hugeLength_7cf53
theorem dJ8_newLength_cabcc_0 : decode cJ8_newLength_cabcc 0 = .ok (.iload_n 0, 1) := by decide +kernel
theorem dJ8_newLength_cabcc_1 : decode cJ8_newLength_cabcc 1 = .ok (.iload_n 1, 1) := by decide +kernel
theorem dJ8_newLength_cabcc_2 : decode cJ8_newLength_cabcc 2 = .ok (.iload_n 2, 1) := by decide +kernel
theorem dJ8_newLength_cabcc_3 : decode cJ8_newLength_cabcc 3 = .ok (.invokestatic 194, 3) := by decide +kernel
theorem dJ8_newLength_cabcc_6 : decode cJ8_newLength_cabcc 6 = .ok (.iadd, 1) := by decide +kernel
theorem dJ8_newLength_cabcc_7 : decode cJ8_newLength_cabcc 7 = .ok (.istore_n 3, 1) := by decide +kernel
theorem dJ8_newLength_cabcc_8 : decode cJ8_newLength_cabcc 8 = .ok (.iconst 0, 1) := by decide +kernel
theorem dJ8_newLength_cabcc_9 : decode cJ8_newLength_cabcc 9 = .ok (.iload_n 3, 1) := by decide +kernel
theorem dJ8_newLength_cabcc_10 : decode cJ8_newLength_cabcc 10 = .ok (.if_icmp .ge 11, 3) := by decide +kernel
theorem dJ8_newLength_cabcc_13 : decode cJ8_newLength_cabcc 13 = .ok (.iload_n 3, 1) := by decide +kernel
theorem dJ8_newLength_cabcc_14 : decode cJ8_newLength_cabcc 14 = .ok (.ldc 200, 2) := by decide +kernel
theorem dJ8_newLength_cabcc_16 : decode cJ8_newLength_cabcc 16 = .ok (.if_icmp .gt 5, 3) := by decide +kernel
theorem dJ8_newLength_cabcc_19 : decode cJ8_newLength_cabcc 19 = .ok (.iload_n 3, 1) := by decide +kernel
theorem dJ8_newLength_cabcc_20 : decode cJ8_newLength_cabcc 20 = .ok (.ireturn, 1) := by decide +kernel
theorem dJ8_newLength_cabcc_21 : decode cJ8_newLength_cabcc 21 = .ok (.iload_n 0, 1) := by decide +kernel
theorem dJ8_newLength_cabcc_22 : decode cJ8_newLength_cabcc 22 = .ok (.iload_n 1, 1) := by decide +kernel
theorem dJ8_newLength_cabcc_23 : decode cJ8_newLength_cabcc 23 = .ok (.invokestatic 201, 3) := by decide +kernel
theorem dJ8_newLength_cabcc_26 : decode cJ8_newLength_cabcc 26 = .ok (.ireturn, 1) := by decide +kernel
theorem dJ8_hugeLength_7cf53_0 : decode cJ8_hugeLength_7cf53 0 = .ok (.iload_n 0, 1) := by decide +kernel
theorem dJ8_hugeLength_7cf53_1 : decode cJ8_hugeLength_7cf53 1 = .ok (.iload_n 1, 1) := by decide +kernel
theorem dJ8_hugeLength_7cf53_2 : decode cJ8_hugeLength_7cf53 2 = .ok (.iadd, 1) := by decide +kernel
theorem dJ8_hugeLength_7cf53_3 : decode cJ8_hugeLength_7cf53 3 = .ok (.istore_n 2, 1) := by decide +kernel
theorem dJ8_hugeLength_7cf53_4 : decode cJ8_hugeLength_7cf53 4 = .ok (.iload_n 2, 1) := by decide +kernel
theorem dJ8_hugeLength_7cf53_5 : decode cJ8_hugeLength_7cf53 5 = .ok (.ifCond .ge 44, 3) := by decide +kernel
theorem dJ8_hugeLength_7cf53_8 : decode cJ8_hugeLength_7cf53 8 = .ok (.new 204, 3) := by decide +kernel
theorem dJ8_hugeLength_7cf53_11 : decode cJ8_hugeLength_7cf53 11 = .ok (.dup, 1) := by decide +kernel
theorem dJ8_hugeLength_7cf53_12 : decode cJ8_hugeLength_7cf53 12 = .ok (.new 89, 3) := by decide +kernel
theorem dJ8_hugeLength_7cf53_15 : decode cJ8_hugeLength_7cf53 15 = .ok (.dup, 1) := by decide +kernel
theorem dJ8_hugeLength_7cf53_16 : decode cJ8_hugeLength_7cf53 16 = .ok (.invokespecial 91, 3) := by decide +kernel
theorem dJ8_hugeLength_7cf53_19 : decode cJ8_hugeLength_7cf53 19 = .ok (.ldc 206, 2) := by decide +kernel
theorem dJ8_hugeLength_7cf53_21 : decode cJ8_hugeLength_7cf53 21 = .ok (.invokevirtual 94, 3) := by decide +kernel
theorem dJ8_hugeLength_7cf53_24 : decode cJ8_hugeLength_7cf53 24 = .ok (.iload_n 0, 1) := by decide +kernel
theorem dJ8_hugeLength_7cf53_25 : decode cJ8_hugeLength_7cf53 25 = .ok (.invokevirtual 98, 3) := by decide +kernel
theorem dJ8_hugeLength_7cf53_28 : decode cJ8_hugeLength_7cf53 28 = .ok (.ldc 208, 2) := by decide +kernel
theorem dJ8_hugeLength_7cf53_30 : decode cJ8_hugeLength_7cf53 30 = .ok (.invokevirtual 94, 3) := by decide +kernel
theorem dJ8_hugeLength_7cf53_33 : decode cJ8_hugeLength_7cf53 33 = .ok (.iload_n 1, 1) := by decide +kernel
theorem dJ8_hugeLength_7cf53_34 : decode cJ8_hugeLength_7cf53 34 = .ok (.invokevirtual 98, 3) := by decide +kernel
theorem dJ8_hugeLength_7cf53_37 : decode cJ8_hugeLength_7cf53 37 = .ok (.ldc 210, 2) := by decide +kernel
theorem dJ8_hugeLength_7cf53_39 : decode cJ8_hugeLength_7cf53 39 = .ok (.invokevirtual 94, 3) := by decide +kernel
theorem dJ8_hugeLength_7cf53_42 : decode cJ8_hugeLength_7cf53 42 = .ok (.invokevirtual 101, 3) := by decide +kernel
theorem dJ8_hugeLength_7cf53_45 : decode cJ8_hugeLength_7cf53 45 = .ok (.invokespecial 212, 3) := by decide +kernel
theorem dJ8_hugeLength_7cf53_48 : decode cJ8_hugeLength_7cf53 48 = .ok (.athrow, 1) := by decide +kernel
theorem dJ8_hugeLength_7cf53_49 : decode cJ8_hugeLength_7cf53 49 = .ok (.iload_n 2, 1) := by decide +kernel
theorem dJ8_hugeLength_7cf53_50 : decode cJ8_hugeLength_7cf53 50 = .ok (.ldc 200, 2) := by decide +kernel
theorem dJ8_hugeLength_7cf53_52 : decode cJ8_hugeLength_7cf53 52 = .ok (.if_icmp .gt 6, 3) := by decide +kernel
theorem dJ8_hugeLength_7cf53_55 : decode cJ8_hugeLength_7cf53 55 = .ok (.ldc 200, 2) := by decide +kernel
theorem dJ8_hugeLength_7cf53_57 : decode cJ8_hugeLength_7cf53 57 = .ok (.ireturn, 1) := by decide +kernel
theorem dJ8_hugeLength_7cf53_58 : decode cJ8_hugeLength_7cf53 58 = .ok (.iload_n 2, 1) := by decide +kernel
theorem dJ8_hugeLength_7cf53_59 : decode cJ8_hugeLength_7cf53 59 = .ok (.ireturn, 1) := by decide +kernel
theorem dJ3_checkIndex_8e157_0 : decode cJ3_checkIndex_8e157 0 = .ok (.iload_n 0, 1) := by decide +kernel
theorem dJ3_checkIndex_8e157_1 : decode cJ3_checkIndex_8e157 1 = .ok (.ifCond .lt 8, 3) := by decide +kernel
theorem dJ3_checkIndex_8e157_4 : decode cJ3_checkIndex_8e157 4 = .ok (.iload_n 0, 1) := by decide +kernel
theorem dJ3_checkIndex_8e157_5 : decode cJ3_checkIndex_8e157 5 = .ok (.iload_n 1, 1) := by decide +kernel
theorem dJ3_checkIndex_8e157_6 : decode cJ3_checkIndex_8e157 6 = .ok (.if_icmp .lt 10, 3) := by decide +kernel
theorem dJ3_checkIndex_8e157_9 : decode cJ3_checkIndex_8e157 9 = .ok (.aload_n 2, 1) := by decide +kernel
theorem dJ3_checkIndex_8e157_10 : decode cJ3_checkIndex_8e157 10 = .ok (.iload_n 0, 1) := by decide +kernel
theorem dJ3_checkIndex_8e157_11 : decode cJ3_checkIndex_8e157 11 = .ok (.iload_n 1, 1) := by decide +kernel
theorem dJ3_checkIndex_8e157_12 : decode cJ3_checkIndex_8e157 12 = .ok (.invokestatic 95, 3) := by decide +kernel
theorem dJ3_checkIndex_8e157_15 : decode cJ3_checkIndex_8e157 15 = .ok (.athrow, 1) := by decide +kernel
theorem dJ3_checkIndex_8e157_16 : decode cJ3_checkIndex_8e157 16 = .ok (.iload_n 0, 1) := by decide +kernel
theorem dJ3_checkIndex_8e157_17 : decode cJ3_checkIndex_8e157 17 = .ok (.ireturn, 1) := by decide +kernel
end
section
abbrev vwCl : List vw_C := [(RJx4a65c, TJx4a65c, 3), (RX0, TX0, 4), (RX1, TX1, 7), (RX2, TX2, 3), (RX3, TX3, 6), (RX4, TX4, 7), (RX5, TX5, 34)]
end
section
/-! BASE: a world as a partial map from addresses to cells, each with a label; rows of the machine over it -/
abbrev fw_F : Type := Nat → Option (Nat × va_E)
abbrev fw_G : Type := va_G × (Nat → ClassId) × Nat
def bI (b : Bool) : Int32 := if b = true then 1 else 0
def eB (ci : Nat) (fs : List Value) : va_E := .inr (ci, fs)
def eI (G : fw_G) (n : Nat) (g : Nat → Int32) : va_E := .inl (G.2.1 0, n, .inl g)
def eJ (G : fw_G) (n : Nat) (g : Nat → Int64) : va_E := .inl (G.2.1 1, n, .inr (.inl g))
def eZ (G : fw_G) (n : Nat) (g : Nat → Int32) : va_E := .inl (G.2.1 2, n, .inl g)
def eO (G : fw_G) (n : Nat) (g : Nat → Option Nat) : va_E := .inl (G.2.1 3, n, .inr (.inr (.inr (.inr g))))
def eN (G : fw_G) (n : Nat) (g : Nat → Nat) : va_E := eI G n (fun j => nI (g j))
def eY (G : fw_G) (n : Nat) (g : Nat → Bool) : va_E := eZ G n (fun j => bI (g j))
def fw_up (f : fw_F) (a : Nat) (x : Nat × va_E) : fw_F := fun b => if b = a then some x else f b
theorem fw_eq (f : fw_F) (a : Nat) (x : Nat × va_E) : fw_up f a x a = some x := if_pos rfl
theorem fw_ne {f : fw_F} {a b : Nat} {x : Nat × va_E} (h : b ≠ a) : fw_up f a x b = f b := if_neg h
theorem fw_lab {f : fw_F} {a b i j : Nat} {x y : va_E} (hb : f b = some (i, x)) (ha : f a = some (j, y)) (hij : i ≠ j) : b ≠ a := by
  intro e
  subst e
  exact hij (congrArg Prod.fst (Option.some.inj (hb.symm.trans ha)))
theorem fw_keep {f : fw_F} {a b i j : Nat} {x y : va_E} {z : Nat × va_E} (hb : f b = some (i, x)) (ha : f a = some (j, y)) (hij : i ≠ j) : fw_up f a z b = some (i, x) := by
  rw [fw_ne (fw_lab hb ha hij)]; exact hb
/-- what lies outside of the labels lo .. hi - 1 stays -/
def fw_fr (f f' : fw_F) (lo hi : Nat) : Prop := ∀ (q i : Nat) (x : va_E), f q = some (i, x) → (i < lo ∨ hi ≤ i) → f' q = some (i, x)
theorem fw_fr_rf (f : fw_F) (lo hi : Nat) : fw_fr f f lo hi := fun _ _ _ h _ => h
theorem fw_fr_up {f f' : fw_F} {lo hi a i : Nat} {x : va_E} {z : Nat × va_E} (h : fw_fr f f' lo hi) (ha : f' a = some (i, x)) (h1 : lo ≤ i) (h2 : i < hi) : fw_fr f (fw_up f' a z) lo hi := fun q j y hq hj => fw_keep (h q j y hq hj) ha (by omega)
theorem fw_fr_tr {f f' f2 : fw_F} {lo hi : Nat} (h : fw_fr f f' lo hi) (h2 : fw_fr f' f2 lo hi) : fw_fr f f2 lo hi := fun q i x hq hi => h2 q i x (h q i x hq hi) hi
theorem fw_fr_wd {f f' : fw_F} {lo hi lo' hi' : Nat} (h : fw_fr f f' lo hi) (h1 : lo' ≤ lo) (h2 : hi ≤ hi') : fw_fr f f' lo' hi' := fun q i x hq hj => h q i x hq (by omega)
def fw_H (G : fw_G) (f : fw_F) (H : Heap) : Prop := ∀ (a i : Nat) (x : va_E), f a = some (i, x) → va_at G.1 vwCl (a, x) H
def fw_tys (G : fw_G) : List (ClassId × FieldType) := [(G.2.1 0, .int), (G.2.1 1, .long), (G.2.1 2, .boolean), (G.2.1 3, .object "java/lang/Object")]
def fw_Nw (U : State) : Prop := (va_Nw (.fieldLinkNest RX0 19 RX2 "places" "[I" RX4) U ∧ va_Nw (.fieldLinkNest RX0 35 RX2 "factors" "[J" RX4) U ∧ va_Nw (.fieldLinkNest RX3 60 RX2 "places" "[I" RX4) U) ∧ (va_Nw (.methodLinkNest RX4 18 yX2_init RX4) U ∧ va_Nw (.methodLinkNest RX4 32 yX3_init RX4) U ∧ va_Nw (.methodLinkNest RX4 9 yX1_init RX4) U) ∧ (va_Nw (.castable RX0 RX0) U ∧ va_Nw (.castable RX0 "java/lang/Object") U ∧ va_Nw (.castable RX1 RX1) U ∧ va_Nw (.castable RX1 "java/lang/Object") U ∧ va_Nw (.castable "[I" "java/lang/Cloneable") U ∧ va_Nw (.castable "[J" "java/lang/Cloneable") U) ∧ va_AO "java/lang/Object" U ∧ va_Dc U ∧ ∃ mi : Nat, va_Mi "[Ljava/lang/Object;" mi U
def fw_K (G : fw_G) (U : State) : Prop := va_K G.1 vwCl (fw_tys G) U ∧ fw_Nw U
def fw_Z (G : fw_G) (A : Nat → Prop) (U : State) (H : Heap) : Prop := va_Z "java/util/ArrayList" "DEFAULTCAPACITY_EMPTY_ELEMENTDATA" "[Ljava/lang/Object;" (.ref G.2.2) A U H ∧ va_T (.object "java/lang/Object") G.2.2 0 (fun _ => .null) A U H
def fw_P (G : fw_G) (A : Nat → Prop) (f : fw_F) (U : State) : Prop := fw_H G f U.heap ∧ (∀ (a : Nat) (x : Nat × va_E), f a = some x → A a) ∧ (∀ q : Nat, U.heap.size ≤ q → A q) ∧ fw_K G U ∧ fw_Z G A U U.heap
def fw_B (G : fw_G) (A : Nat → Prop) (f : fw_F) (U : State) : Prop := fw_H G f U.heap ∧ ∀ (a : Nat) (x : Nat × va_E), f a = some x → A a
def fw_S (G : fw_G) (A : Nat → Prop) (s : State) (f : fw_F) (H : Heap) (locs : List Loc) : Prop := fw_H G f H ∧ (∀ (a : Nat) (x : Nat × va_E), f a = some x → A a) ∧ (∀ q : Nat, s.heap.size ≤ q → A q) ∧ fw_K G s ∧ fw_Z G A s s.heap ∧ va_S A s.heap H locs
theorem fw_Nw.warm {s U : State} (hW : s.WarmedH U.vm) (h : fw_Nw s) : fw_Nw U := by
  obtain ⟨⟨f1, f2, f3⟩, ⟨m1, m2, m3⟩, ⟨c1, c2, c3, c4, c5, c6⟩, ao, dc, mi, hmi⟩ := h
  exact ⟨⟨va_Nw.warmF hW f1, va_Nw.warmF hW f2, va_Nw.warmF hW f3⟩, ⟨va_Nw.warmM hW m1, va_Nw.warmM hW m2, va_Nw.warmM hW m3⟩, ⟨va_Nw.warmC hW c1, va_Nw.warmC hW c2, va_Nw.warmC hW c3, va_Nw.warmC hW c4, va_Nw.warmC hW c5, va_Nw.warmC hW c6⟩, va_AO.moved hW.alike ao, va_Dc.moved hW.alike dc, mi, va_Mi.moved hW.alike hmi⟩
theorem fw_K.warm {G : fw_G} {s U : State} (hW : s.WarmedH U.vm) (h : fw_K G s) : fw_K G U := ⟨va_K.moved hW.alike h.1, fw_Nw.warm hW h.2⟩
theorem fw_P.start {G : fw_G} {A : Nat → Prop} {f : fw_F} {s : State} (h : fw_P G A f s) : fw_S G A s f s.heap [] := ⟨h.1, h.2.1, h.2.2.1, h.2.2.2.1, h.2.2.2.2, va_S.rf⟩
theorem fw_S.P {G : fw_G} {A : Nat → Prop} {f : fw_F} {s U : State} {H : Heap} {locs : List Loc} (h : fw_S G A s f H locs) (hU : U.heap = H) (hW : s.WarmedH U.vm) : fw_P G A f U := by
  obtain ⟨h1, h2, h3, h4, h5, h6⟩ := h
  refine ⟨by rw [hU]; exact h1, h2, fun q hq => h3 q (Nat.le_trans h6.1 (by rw [hU] at hq; exact hq)), h4.warm hW, ?_⟩
  rw [hU]
  exact ⟨va_Z.moved hW.alike (h5.1.kept h6.2.1), va_T.moved hW.alike (h5.2.kept h6.2.1)⟩
theorem fw_S.after {G : fw_G} {A : Nat → Prop} {f f' : fw_F} {s t : State} {H H1 : Heap} {locs locs1 : List Loc} (h : fw_S G A s f H locs) (hB : fw_B G A f' t) (ht : t.heap = H1) (hS : va_S A s.heap H1 locs1) : fw_S G A s f' H1 locs1 := ⟨by rw [← ht]; exact hB.1, hB.2, h.2.2.1, h.2.2.2.1, h.2.2.2.2.1, hS⟩
theorem fw_blind (G : fw_G) (A : Nat → Prop) (f : fw_F) (av : List Value) : FrameBlind (va_Pc av (fw_P G A f)) := fun a U g mk h => ⟨h.1, h.2.1, h.2.2.1, h.2.2.2.1, ⟨va_K.moved (u := U) (U := U.calling g mk a) (Vm.Alike.refl U.vm) h.2.2.2.2.1.1, h.2.2.2.2.1.2⟩, h.2.2.2.2.2⟩
theorem fw_one {G : fw_G} {A : Nat → Prop} {f : fw_F} {s : State} {H : Heap} {locs : List Loc} (h : fw_S G A s f H locs) {a i : Nat} {x : va_E} (e : f a = some (i, x)) : va_P G.1 vwCl [(a, x)] H := by
  intro k q hq
  match k, hq with
  | 0, hq => cases hq; exact h.1 a i x e
  | k + 1, hq => simp at hq
/-- a cell was written -/
theorem fw_S.put {G : fw_G} {A : Nat → Prop} {f : fw_F} {s : State} {H H1 : Heap} {locs : List Loc} (h : fw_S G A s f H locs) {a i j k : Nat} {x y : va_E} (e : f a = some (i, x)) (hy : va_at G.1 vwCl (a, y) H1) (hz : H1.size = H.size) (oq : ∀ q : Nat, q ≠ a → H1[q]? = H[q]?) : fw_S G A s (fw_up f a (j, y)) H1 (locs ++ [⟨a, k⟩]) := by
  obtain ⟨h1, h2, h3, h4, h5, h6⟩ := h
  refine ⟨fun b i2 z hb => ?_, fun b z hb => ?_, h3, h4, h5, h6.put hz oq (h2 a _ e)⟩
  · by_cases hba : b = a
    · subst hba
      rw [fw_eq] at hb
      cases hb
      exact hy
    · rw [fw_ne hba] at hb
      exact (h1 b i2 z hb).kept (oq b hba)
  · by_cases hba : b = a
    · subst hba; exact h2 b _ e
    · rw [fw_ne hba] at hb; exact h2 b z hb
/-- a cell was made -/
theorem fw_S.born {G : fw_G} {A : Nat → Prop} {f : fw_F} {s : State} {H H1 : Heap} {locs : List Loc} (h : fw_S G A s f H locs) {j : Nat} {y : va_E} (hy : va_at G.1 vwCl (H.size, y) H1) (hz : H1.size = H.size + 1) (oq : ∀ q : Nat, q < H.size → H1[q]? = H[q]?) : fw_S G A s (fw_up f H.size (j, y)) H1 locs ∧ f H.size = none := by
  obtain ⟨h1, h2, h3, h4, h5, h6⟩ := h
  have hn : f H.size = none := by
    cases hf : f H.size with
    | none => rfl
    | some z => exact absurd (h1 H.size z.1 z.2 hf).lt (Nat.lt_irrefl _)
  refine ⟨⟨fun b i2 z hb => ?_, fun b z hb => ?_, h3, h4, h5, ⟨Nat.le_trans h6.1 (by omega), fun q hq hA => (oq q (Nat.lt_of_lt_of_le hq h6.1)).trans (h6.2.1 q hq hA), h6.2.2⟩⟩, hn⟩
  · by_cases hba : b = H.size
    · subst hba
      rw [fw_eq] at hb
      cases hb
      exact hy
    · rw [fw_ne hba] at hb
      exact (h1 b i2 z hb).kept (oq b (h1 b i2 z hb).lt)
  · by_cases hba : b = H.size
    · subst hba; exact h3 _ h6.1
    · rw [fw_ne hba] at hb; exact h2 b z hb
theorem fw_new {f : fw_F} {a b i : Nat} {x : va_E} {z : Nat × va_E} (hb : f b = some (i, x)) (ha : f a = none) : fw_up f a z b = some (i, x) := by
  rw [fw_ne (fun e => by subst e; rw [hb] at ha; cases ha)]; exact hb
theorem fw_fr_nw {f f' : fw_F} {lo hi a : Nat} {z : Nat × va_E} (h : fw_fr f f' lo hi) (ha : f' a = none) : fw_fr f (fw_up f' a z) lo hi := fun q j y hq hj => fw_new (h q j y hq hj) ha
/-- a method's head -/
theorem q_head {l : Launch} {y : MethodName} {ws ws' : List Cond} {rm : Room} {Qc : Array Value → State → Outcome → State → Prop} {mc ms : Nat} {free : Addr → Prop} {cc : ByteArray} {maxL : Nat} {ret : Option FieldType} {G : fw_G} {A : Nat → Prop} {f : fw_F} {av : List Value} (hw : ws = Cond.code y cc maxL ret :: ws') (hy : plainName y.cls = true) (hle : (lg_sl av).length ≤ maxL)
    (body : ∀ (p : Program) (e : Env) (s : State) (m : MethodId) (below : List Frame) (meth : Method) (c : Code) (ls : Array Slot), CallFix p m c cc maxL s av.toArray ws y.cls → meth.sig.returnType = ret → meth.locks = false → meth.name = y.name → fw_P G A f s → lv_has ls maxL (lv_args 0 av) → W p l e rm s m av.toArray below meth c s.heap [] 0 0 (MQ below Qc av.toArray s mc ms free) (F0 m 0 ls [])) : Met l y ws rm (va_Pc av (fw_P G A f)) Qc mc ms free := by
  refine Met.ofW (cc := cc) (maxL := maxL) (ret := ret) hy hw ?_
  intro p e s m args below meth c s₁ B hml hv
  obtain ⟨rfl, hP⟩ := hv
  have hts := atoms_spec (ws := ws) B.pre
  have hown : s.vm.findClass y.cls = some m.cls := findClass_of_methodNamed B.named
  have hl := lv_entry av (n := maxL) hle
  rw [lg_entry_eq]
  exact body p e s m below meth c _ ⟨B.exec, B.bytes, hml, hown, hts⟩ B.returns B.notSynchronized (name_of_methodNamed B.named B.method).1 hP hl
end
section
/-! ROWS over the world -/
theorem bI_t : bI true = 1 := rfl
theorem bI_f : bI false = 0 := rfl
theorem bI_eq0 {b : Bool} : bI b = 0 ↔ b = false := by cases b <;> decide
theorem bI_ne0 {b : Bool} : ¬ bI b = 0 ↔ b = true := by cases b <;> decide
theorem bI_nar (b : Bool) : narrow .boolean (.int (bI b)) = .int (bI b) := by cases b <;> decide
theorem bI_vnar (b : Bool) : vp_nar .boolean (bI b) = bI b := by cases b <;> decide
theorem upd_nI (g : Nat → Nat) (k x : Nat) : upd (fun j => nI (g j)) k (nI x) = fun j => nI (va_up g k x j) := by
  funext j; unfold upd va_up; split <;> rfl
theorem upd_bI (g : Nat → Bool) (k : Nat) (x : Bool) : upd (fun j => bI (g j)) k (bI x) = fun j => bI (va_up g k x j) := by
  funext j; unfold upd va_up; split <;> rfl
theorem updL_up (g : Nat → Int64) (k : Nat) (x : Int64) : vp_updL g k x = va_up g k x := by
  funext j; unfold vp_updL va_up; rfl
section ROWS
variable {p : Program} {l : Launch} {e : Env} {R : Room} {s : State} {m : MethodId} {args : Array Value} {below : List Frame} {meth : Method} {c : Code} {H : Heap} {locs : List Loc} {cells slots : Nat} {Q : State → Prop}
variable {cc : ByteArray} {pc nL : Nat} {ls : Array Slot} {rest : List Value} {Ts : List Cond} {own : String} {G : fw_G} {A : Nat → Prop} {f : fw_F}
theorem q_get (C : CallFix p m c cc nL s args Ts own) (S : fw_S G A s f H locs) {a i ci index : Nat} {fs : List Value} (he : f a = some (i, eB ci fs)) {Cn : String} {T : u_T} {N : Nat} (hc : vwCl[ci]? = some (Cn, T, N)) (hin : ∀ w ∈ u_ws Cn T N, w ∈ Ts) (k : Nat) (hk : k < N) (hl : Cond.fieldLink own index (T k).1 (T k).2.1 (T k).2.2.1 ∈ Ts) {v : Value} (hv : fs[k]? = some v) (hdg : decode cc pc = .ok (.getfield index, 3))
    (kk : W p l e R s m args below meth c H locs cells slots Q (F0 m (pc + 3) ls (v :: rest))) : W p l e R s m args below meth c H locs cells slots Q (F0 m pc ls (.ref a :: rest)) :=
  va_get C.1 C.2.1 C.2.2.2.2 hin C.2.2.2.1 S.2.2.2.1.1 (fw_one S he) 0 rfl hc k hk (C.2.2.2.2 _ hl) (fun _ h => h) hv hdg kk
theorem q_getN (C : CallFix p m c cc nL s args Ts own) (S : fw_S G A s f H locs) {a i ci index : Nat} {fs : List Value} (he : f a = some (i, eB ci fs)) {Cn host : String} {T : u_T} {N : Nat} (hc : vwCl[ci]? = some (Cn, T, N)) (hin : ∀ w ∈ u_ws Cn T N, w ∈ Ts) (k : Nat) (hk : k < N) (hl : va_Nw (.fieldLinkNest own index (T k).1 (T k).2.1 (T k).2.2.1 host) s) {v : Value} (hv : fs[k]? = some v) (hdg : decode cc pc = .ok (.getfield index, 3))
    (kk : W p l e R s m args below meth c H locs cells slots Q (F0 m (pc + 3) ls (v :: rest))) : W p l e R s m args below meth c H locs cells slots Q (F0 m pc ls (.ref a :: rest)) :=
  va_getN C.1 C.2.1 C.2.2.2.2 hin C.2.2.2.1 S.2.2.2.1.1 (fw_one S he) 0 rfl hc k hk (va_Nw.use rfl hl) (fun _ h => h) hv hdg kk
theorem q_put (C : CallFix p m c cc nL s args Ts own) (S : fw_S G A s f H locs) {a i ci index : Nat} {fs : List Value} (he : f a = some (i, eB ci fs)) {Cn : String} {T : u_T} {N : Nat} (hc : vwCl[ci]? = some (Cn, T, N)) (hin : ∀ w ∈ u_ws Cn T N, w ∈ Ts) (ty0 : Nat → FieldType) (hty : ∀ k, k < N → parseFieldDescriptor (T k).2.2.1 = some (ty0 k)) (hnm : ∀ a, a < N → ∀ b, b < N → a ≠ b → (T a).2.1 ≠ (T b).2.1) (k : Nat) (hk : k < N) (hl : Cond.fieldLink own index (T k).1 (T k).2.1 (T k).2.2.1 ∈ Ts) (hfin : (T k).2.2.2 = false) {v : Value} (hn : narrow (ty0 k) v = v) (hfit : fits (ty0 k) v = true) (hlen : k < fs.length) (hdg : decode cc pc = .ok (.putfield index, 3))
    (kk : ∀ (H1 : Heap) (locs1 : List Loc), fw_S G A s (fw_up f a (i, eB ci (fs.set k v))) H1 locs1 → W p l e R s m args below meth c H1 locs1 cells slots Q (F0 m (pc + 3) ls rest)) : W p l e R s m args below meth c H locs cells slots Q (F0 m pc ls (v :: .ref a :: rest)) := by
  have hts := C.2.2.2.2
  have hap := va_apart (own := own) hts hin ty0 hty hnm S.2.2.2.1.1 hc
  obtain ⟨r, h1, cell, q1, q2, q3, q4⟩ := S.1 a i _ he
  have hr : r = (Cn, T, N) := Option.some.inj (h1.symm.trans hc)
  subst hr
  obtain ⟨hS, hfc, kC, hkC, hkind⟩ := S.2.2.2.1.1.1 ci _ hc
  obtain ⟨cf, kf, fi, fd, hi, hsl⟩ := hS k hk
  have hlay := hts _ (hin _ (u_in_lay hk))
  unfold u_lay at hlay
  rw [if_neg (by rw [hfin]; decide)] at hlay
  have hst := (u_facts hfc hkC (u_lays hts hin hk) hi).1
  have h6 := u_store hfc hkC hkind hlay hi (hty k hk) hn hfit
  refine W.putK C.1 C.2.1 (f := fd) ⟨C.2.2.2.1, hts _ hl, ⟨_, _, _, hi⟩, hst⟩ (by rw [q2]; exact h6) q1 q3 (by rw [hsl]; exact k2_hasslot (q4 k hk)) rfl rfl hdg fun H' e1 e2 e3 => ?_
  rw [hsl] at e1 ⊢
  exact kk H' _ (S.put he ⟨_, hc, t_OB.to (V := updV (vp_V fs) k v) ⟨_, e1, q2, q3, t_set q4 hap hk v⟩ (fun j _ => vp_updV_set hlen v j)⟩ e2 e3)
theorem q_putF (C : CallFix p m c cc nL s args Ts own) (S : fw_S G A s f H locs) {a i ci index : Nat} {fs : List Value} (he : f a = some (i, eB ci fs)) {Cn : String} {T : u_T} {N : Nat} (hc : vwCl[ci]? = some (Cn, T, N)) (hin : ∀ w ∈ u_ws Cn T N, w ∈ Ts) (ty0 : Nat → FieldType) (hty : ∀ k, k < N → parseFieldDescriptor (T k).2.2.1 = some (ty0 k)) (hnm : ∀ a, a < N → ∀ b, b < N → a ≠ b → (T a).2.1 ≠ (T b).2.1) (k : Nat) (hk : k < N) (hl : Cond.fieldLink own index (T k).1 (T k).2.1 (T k).2.2.1 ∈ Ts) (hfin : (T k).2.2.2 = true) (hin2 : meth.name = "<init>") (hdecl : (T k).1 = own) {v : Value} (hn : narrow (ty0 k) v = v) (hfit : fits (ty0 k) v = true) (hlen : k < fs.length) (hdg : decode cc pc = .ok (.putfield index, 3))
    (kk : ∀ (H1 : Heap) (locs1 : List Loc), fw_S G A s (fw_up f a (i, eB ci (fs.set k v))) H1 locs1 → W p l e R s m args below meth c H1 locs1 cells slots Q (F0 m (pc + 3) ls rest)) : W p l e R s m args below meth c H locs cells slots Q (F0 m pc ls (v :: .ref a :: rest)) := by
  have hts := C.2.2.2.2
  have hown := C.2.2.2.1
  have hap := va_apart (own := own) hts hin ty0 hty hnm S.2.2.2.1.1 hc
  obtain ⟨r, h1, cell, q1, q2, q3, q4⟩ := S.1 a i _ he
  have hr : r = (Cn, T, N) := Option.some.inj (h1.symm.trans hc)
  subst hr
  obtain ⟨hS, hfc, kC, hkC, hkind⟩ := S.2.2.2.1.1.1 ci _ hc
  obtain ⟨cf, kf, fi, fd, hi, hsl⟩ := hS k hk
  have hlay := hts _ (hin _ (u_in_lay hk))
  unfold u_lay at hlay
  rw [if_pos hfin] at hlay
  have hst := (u_facts hfc hkC (u_lays hts hin hk) hi).1
  have hcf : m.cls = cf := by
    obtain ⟨_, _, c', _, _, _, -, -, hf', -, -, -, hown2, -⟩ := Cond.laysFinal_spec hlay
    have e1 : c' = cf := by have := hi.symm.trans hf'; simp at this; exact this.1.symm
    rw [hdecl] at hown2
    rw [← e1]; exact Option.some.inj (hown.symm.trans hown2)
  have h6 := u_fits hfc hkC hkind (Or.inr hlay) hi (hty k hk) hn hfit
  refine W.putFinK C.1 C.2.1 hown (hts _ hl) hi hst hcf hin2 (by rw [q2]; exact h6) q1 q3 (by rw [hsl]; exact k2_hasslot (q4 k hk)) rfl rfl hdg fun H' e1 e2 e3 => ?_
  rw [hsl] at e1 ⊢
  exact kk H' _ (S.put he ⟨_, hc, t_OB.to (V := updV (vp_V fs) k v) ⟨_, e1, q2, q3, t_set q4 hap hk v⟩ (fun j _ => vp_updV_set hlen v j)⟩ e2 e3)
theorem q_iald (C : CallFix p m c cc nL s args Ts own) (S : fw_S G A s f H locs) {a i n : Nat} {g : Nat → Int32} (he : f a = some (i, eI G n g)) {j : Int32} (k : Nat) (hj : j = nI k) (hk : k < n) (hn : n < 2 ^ 31) (hdg : decode cc pc = .ok (.iaload, 1))
    (kk : W p l e R s m args below meth c H locs cells slots Q (F0 m (pc + 1) ls (.int (g k) :: rest))) : W p l e R s m args below meth c H locs cells slots Q (F0 m pc ls (.int j :: .ref a :: rest)) := by
  subst hj
  refine va_iald C.1 C.2.1 S.2.2.2.1.1 (fw_one S he) 0 0 rfl rfl (vp_in_nI hk hn) hdg ?_
  rw [nI_clamp (Nat.lt_trans hk hn)]
  exact kk
theorem q_nald (C : CallFix p m c cc nL s args Ts own) (S : fw_S G A s f H locs) {a i n : Nat} {g : Nat → Nat} (he : f a = some (i, eN G n g)) {j : Int32} (k : Nat) (hj : j = nI k) (hk : k < n) (hn : n < 2 ^ 31) (hdg : decode cc pc = .ok (.iaload, 1))
    (kk : W p l e R s m args below meth c H locs cells slots Q (F0 m (pc + 1) ls (.int (nI (g k)) :: rest))) : W p l e R s m args below meth c H locs cells slots Q (F0 m pc ls (.int j :: .ref a :: rest)) :=
  q_iald C S (g := fun j => nI (g j)) he k hj hk hn hdg kk
theorem q_yald (C : CallFix p m c cc nL s args Ts own) (S : fw_S G A s f H locs) {a i n : Nat} {g : Nat → Bool} (he : f a = some (i, eY G n g)) {j : Int32} (k : Nat) (hj : j = nI k) (hk : k < n) (hn : n < 2 ^ 31) (hdg : decode cc pc = .ok (.baload, 1))
    (kk : W p l e R s m args below meth c H locs cells slots Q (F0 m (pc + 1) ls (.int (bI (g k)) :: rest))) : W p l e R s m args below meth c H locs cells slots Q (F0 m pc ls (.int j :: .ref a :: rest)) := by
  subst hj
  refine va_zald C.1 C.2.1 S.2.2.2.1.1 (fw_one S he) 0 2 rfl rfl (vp_in_nI hk hn) hdg ?_
  rw [nI_clamp (Nat.lt_trans hk hn)]
  exact kk
theorem q_lald (C : CallFix p m c cc nL s args Ts own) (S : fw_S G A s f H locs) {a i n : Nat} {g : Nat → Int64} (he : f a = some (i, eJ G n g)) {j : Int32} (k : Nat) (hj : j = nI k) (hk : k < n) (hn : n < 2 ^ 31) (hdg : decode cc pc = .ok (.laload, 1))
    (kk : W p l e R s m args below meth c H locs cells slots Q (F0 m (pc + 1) ls (.long (g k) :: rest))) : W p l e R s m args below meth c H locs cells slots Q (F0 m pc ls (.int j :: .ref a :: rest)) := by
  subst hj
  refine va_lald C.1 C.2.1 S.2.2.2.1.1 (fw_one S he) 0 1 rfl rfl (vp_in_nI hk hn) hdg ?_
  rw [nI_clamp (Nat.lt_trans hk hn)]
  exact kk
theorem q_iast (C : CallFix p m c cc nL s args Ts own) (S : fw_S G A s f H locs) {a i n : Nat} {g : Nat → Int32} (he : f a = some (i, eI G n g)) {j x : Int32} (k : Nat) (hj : j = nI k) (hk : k < n) (hn : n < 2 ^ 31) (hdg : decode cc pc = .ok (.iastore, 1))
    (kk : ∀ (H1 : Heap) (locs1 : List Loc), fw_S G A s (fw_up f a (i, eI G n (upd g k x))) H1 locs1 → W p l e R s m args below meth c H1 locs1 cells slots Q (F0 m (pc + 1) ls rest)) : W p l e R s m args below meth c H locs cells slots Q (F0 m pc ls (.int x :: .int j :: .ref a :: rest)) := by
  subst hj
  have hin : vp_in (nI k) n := vp_in_nI hk hn
  refine W.iast C.1 C.2.1 (S.1 a i _ he) ((S.2.2.2.1.1.2 0 _ rfl).1 n (fun j => .int (g j))) (fun q => by cases q) (by show ¬ (_ < 0 ∨ (arrV _ _ _).slots.size ≤ _); rw [arrV_size]; exact hin) rfl rfl hdg fun H1 e1 z oq => ?_
  refine kk H1 _ (S.put he ?_ z oq)
  show H1[a]? = some (vp_cell _ _)
  rw [e1, nI_clamp (Nat.lt_trans hk hn)]
  rw [vp_cell_i, vp_cell_i, arrV_store]
  congr 2
  funext q
  by_cases hq : q = k
  · subst hq
    simp [updV, upd]
  · simp [updV, upd, hq]
theorem q_nast (C : CallFix p m c cc nL s args Ts own) (S : fw_S G A s f H locs) {a i n x : Nat} {g : Nat → Nat} (he : f a = some (i, eN G n g)) {j : Int32} (k : Nat) (hj : j = nI k) (hk : k < n) (hn : n < 2 ^ 31) (hdg : decode cc pc = .ok (.iastore, 1))
    (kk : ∀ (H1 : Heap) (locs1 : List Loc), fw_S G A s (fw_up f a (i, eN G n (va_up g k x))) H1 locs1 → W p l e R s m args below meth c H1 locs1 cells slots Q (F0 m (pc + 1) ls rest)) : W p l e R s m args below meth c H locs cells slots Q (F0 m pc ls (.int (nI x) :: .int j :: .ref a :: rest)) := by
  refine q_iast C S (g := fun j => nI (g j)) he k hj hk hn hdg fun H1 locs1 h => kk H1 locs1 ?_
  rw [upd_nI] at h
  exact h
theorem q_yast (C : CallFix p m c cc nL s args Ts own) (S : fw_S G A s f H locs) {a i n : Nat} {x : Bool} {g : Nat → Bool} (he : f a = some (i, eY G n g)) {j : Int32} (k : Nat) (hj : j = nI k) (hk : k < n) (hn : n < 2 ^ 31) (hdg : decode cc pc = .ok (.bastore, 1))
    (kk : ∀ (H1 : Heap) (locs1 : List Loc), fw_S G A s (fw_up f a (i, eY G n (va_up g k x))) H1 locs1 → W p l e R s m args below meth c H1 locs1 cells slots Q (F0 m (pc + 1) ls rest)) : W p l e R s m args below meth c H locs cells slots Q (F0 m pc ls (.int (bI x) :: .int j :: .ref a :: rest)) := by
  subst hj
  have hin : vp_in (nI k) n := vp_in_nI hk hn
  refine W.zast C.1 C.2.1 (S.1 a i _ he) ((S.2.2.2.1.1.2 2 _ rfl).1 n (fun j => .int (bI (g j)))) (fun q => by cases q) (by show ¬ (_ < 0 ∨ (arrV _ _ _).slots.size ≤ _); rw [arrV_size]; exact hin) rfl rfl hdg fun H1 e1 z oq => ?_
  refine kk H1 _ (S.put he ?_ z oq)
  show H1[a]? = some (vp_cell _ _)
  rw [e1, nI_clamp (Nat.lt_trans hk hn), bI_nar]
  rw [vp_cell_i, vp_cell_i, arrV_store]
  congr 2
  funext q
  by_cases hq : q = k
  · subst hq
    simp [updV, va_up]
  · simp [updV, va_up, hq]
theorem q_last (C : CallFix p m c cc nL s args Ts own) (S : fw_S G A s f H locs) {a i n : Nat} {x : Int64} {g : Nat → Int64} (he : f a = some (i, eJ G n g)) {j : Int32} (k : Nat) (hj : j = nI k) (hk : k < n) (hn : n < 2 ^ 31) (hdg : decode cc pc = .ok (.lastore, 1))
    (kk : ∀ (H1 : Heap) (locs1 : List Loc), fw_S G A s (fw_up f a (i, eJ G n (va_up g k x))) H1 locs1 → W p l e R s m args below meth c H1 locs1 cells slots Q (F0 m (pc + 1) ls rest)) : W p l e R s m args below meth c H locs cells slots Q (F0 m pc ls (.long x :: .int j :: .ref a :: rest)) := by
  subst hj
  have hin : vp_in (nI k) n := vp_in_nI hk hn
  refine W.last C.1 C.2.1 (S.1 a i _ he) ((S.2.2.2.1.1.2 1 _ rfl).1 n (fun j => .long (g j))) (fun q => by cases q) (by show ¬ (_ < 0 ∨ (arrV _ _ _).slots.size ≤ _); rw [arrV_size]; exact hin) rfl rfl hdg fun H1 e1 z oq => ?_
  refine kk H1 _ (S.put he ?_ z oq)
  show H1[a]? = some (vp_cell _ _)
  rw [e1, nI_clamp (Nat.lt_trans hk hn)]
  rw [vp_cell_l, vp_cell_l, arrV_store]
  congr 2
  funext q
  by_cases hq : q = k
  · subst hq
    simp [updV, va_up]
  · simp [updV, va_up, hq]
theorem q_alenN (C : CallFix p m c cc nL s args Ts own) (S : fw_S G A s f H locs) {a i n : Nat} {g : Nat → Nat} (he : f a = some (i, eN G n g)) (hdg : decode cc pc = .ok (.arraylength, 1))
    (kk : W p l e R s m args below meth c H locs cells slots Q (F0 m (pc + 1) ls (.int (nI n) :: rest))) : W p l e R s m args below meth c H locs cells slots Q (F0 m pc ls (.ref a :: rest)) :=
  va_alen C.1 C.2.1 S.2.2.2.1.1 (fw_one S he) 0 0 rfl rfl rfl hdg kk
/-! numbers -/
theorem q_iadd (C : CallFix p m c cc nL s args Ts own) {x y : Nat} (hdg : decode cc pc = .ok (.iadd, 1)) (k : W p l e R s m args below meth c H locs cells slots Q (F0 m (pc + 1) ls (.int (nI (x + y)) :: rest))) : W p l e R s m args below meth c H locs cells slots Q (F0 m pc ls (.int (nI y) :: .int (nI x) :: rest)) := by
  refine lv_iadd C.1 C.2.1 hdg ?_
  rw [nI_add]; exact k
theorem q_imul (C : CallFix p m c cc nL s args Ts own) {x y : Nat} (hdg : decode cc pc = .ok (.imul, 1)) (k : W p l e R s m args below meth c H locs cells slots Q (F0 m (pc + 1) ls (.int (nI (x * y)) :: rest))) : W p l e R s m args below meth c H locs cells slots Q (F0 m pc ls (.int (nI y) :: .int (nI x) :: rest)) := by
  refine lv_imul C.1 C.2.1 hdg ?_
  rw [pk_mul]; exact k
theorem q_isub (C : CallFix p m c cc nL s args Ts own) {x y : Nat} (hxy : y ≤ x) (hdg : decode cc pc = .ok (.isub, 1)) (k : W p l e R s m args below meth c H locs cells slots Q (F0 m (pc + 1) ls (.int (nI (x - y)) :: rest))) : W p l e R s m args below meth c H locs cells slots Q (F0 m pc ls (.int (nI y) :: .int (nI x) :: rest)) := by
  refine lv_isub C.1 C.2.1 hdg ?_
  rw [pk_sub hxy]; exact k
theorem q_iinc (C : CallFix p m c cc nL s args Ts own) {i k x : Nat} {n : Int} {d : Nat} {lv lv' : List (Nat × Value)} (hdg : decode cc pc = .ok (.iinc i n, 3)) (h : lv_has ls nL lv) (hk : lv[k]? = some (i, .int (nI x))) (hd : Int32.ofInt n = nI d) (hn : i < nL) (hl : (i, Value.int (nI (x + d))) :: lv.filter (fun q => !(q.1 == i) && !(q.1 + 1 == i && q.2.category == 2)) = lv') (kk : ∀ ls' : Array Slot, lv_has ls' nL lv' → W p l e R s m args below meth c H locs cells slots Q (F0 m (pc + 3) ls' rest)) : W p l e R s m args below meth c H locs cells slots Q (F0 m pc ls rest) :=
  lv_iinc C.1 C.2.1 hdg h hk (by rw [hd, nI_add]) hn hl kk
/-! branches over naturals -/
theorem q_ge (C : CallFix p m c cc nL s args Ts own) {x y : Nat} (hx : x < 2 ^ 31) (hy : y < 2 ^ 31) {off : Int} {tgt : Nat} (hdg : decode cc pc = .ok (.if_icmp .ge off, 3)) (ht : (pc : Int) + off = (tgt : Int)) (kt : y ≤ x → W p l e R s m args below meth c H locs cells slots Q (F0 m tgt ls rest)) (kf : x < y → W p l e R s m args below meth c H locs cells slots Q (F0 m (pc + 3) ls rest)) : W p l e R s m args below meth c H locs cells slots Q (F0 m pc ls (.int (nI y) :: .int (nI x) :: rest)) :=
  lv_icmp_ge C.1 C.2.1 hdg ht (fun h => kt ((nI_leI hy hx).mp h)) (fun h => kf (Nat.not_le.mp fun q => h ((nI_leI hy hx).mpr q)))
theorem q_lt (C : CallFix p m c cc nL s args Ts own) {x y : Nat} (hx : x < 2 ^ 31) (hy : y < 2 ^ 31) {off : Int} {tgt : Nat} (hdg : decode cc pc = .ok (.if_icmp .lt off, 3)) (ht : (pc : Int) + off = (tgt : Int)) (kt : x < y → W p l e R s m args below meth c H locs cells slots Q (F0 m tgt ls rest)) (kf : y ≤ x → W p l e R s m args below meth c H locs cells slots Q (F0 m (pc + 3) ls rest)) : W p l e R s m args below meth c H locs cells slots Q (F0 m pc ls (.int (nI y) :: .int (nI x) :: rest)) :=
  lv_icmp_lt C.1 C.2.1 hdg ht (fun h => kt ((nI_ltI hx hy).mp h)) (fun h => kf (Nat.not_lt.mp fun q => h ((nI_ltI hx hy).mpr q)))
theorem q_gt (C : CallFix p m c cc nL s args Ts own) {x y : Nat} (hx : x < 2 ^ 31) (hy : y < 2 ^ 31) {off : Int} {tgt : Nat} (hdg : decode cc pc = .ok (.if_icmp .gt off, 3)) (ht : (pc : Int) + off = (tgt : Int)) (kt : y < x → W p l e R s m args below meth c H locs cells slots Q (F0 m tgt ls rest)) (kf : x ≤ y → W p l e R s m args below meth c H locs cells slots Q (F0 m (pc + 3) ls rest)) : W p l e R s m args below meth c H locs cells slots Q (F0 m pc ls (.int (nI y) :: .int (nI x) :: rest)) :=
  lv_icmp_gt C.1 C.2.1 hdg ht (fun h => kt ((nI_ltI hy hx).mp h)) (fun h => kf (Nat.not_lt.mp fun q => h ((nI_ltI hy hx).mpr q)))
theorem q_le (C : CallFix p m c cc nL s args Ts own) {x y : Nat} (hx : x < 2 ^ 31) (hy : y < 2 ^ 31) {off : Int} {tgt : Nat} (hdg : decode cc pc = .ok (.if_icmp .le off, 3)) (ht : (pc : Int) + off = (tgt : Int)) (kt : x ≤ y → W p l e R s m args below meth c H locs cells slots Q (F0 m tgt ls rest)) (kf : y < x → W p l e R s m args below meth c H locs cells slots Q (F0 m (pc + 3) ls rest)) : W p l e R s m args below meth c H locs cells slots Q (F0 m pc ls (.int (nI y) :: .int (nI x) :: rest)) :=
  lv_icmp_le C.1 C.2.1 hdg ht (fun h => kt ((nI_leI hx hy).mp h)) (fun h => kf (Nat.not_le.mp fun q => h ((nI_leI hx hy).mpr q)))
theorem q_eq (C : CallFix p m c cc nL s args Ts own) {x y : Nat} (hx : x < 2 ^ 31) (hy : y < 2 ^ 31) {off : Int} {tgt : Nat} (hdg : decode cc pc = .ok (.if_icmp .eq off, 3)) (ht : (pc : Int) + off = (tgt : Int)) (kt : x = y → W p l e R s m args below meth c H locs cells slots Q (F0 m tgt ls rest)) (kf : x ≠ y → W p l e R s m args below meth c H locs cells slots Q (F0 m (pc + 3) ls rest)) : W p l e R s m args below meth c H locs cells slots Q (F0 m pc ls (.int (nI y) :: .int (nI x) :: rest)) :=
  lv_icmp_eq C.1 C.2.1 hdg ht (fun h => kt ((nI_eq hx hy).mp h)) (fun h => kf (fun q => h ((nI_eq hx hy).mpr q)))
theorem q_nee (C : CallFix p m c cc nL s args Ts own) {x y : Nat} (hx : x < 2 ^ 31) (hy : y < 2 ^ 31) {off : Int} {tgt : Nat} (hdg : decode cc pc = .ok (.if_icmp .ne off, 3)) (ht : (pc : Int) + off = (tgt : Int)) (kt : x ≠ y → W p l e R s m args below meth c H locs cells slots Q (F0 m tgt ls rest)) (kf : x = y → W p l e R s m args below meth c H locs cells slots Q (F0 m (pc + 3) ls rest)) : W p l e R s m args below meth c H locs cells slots Q (F0 m pc ls (.int (nI y) :: .int (nI x) :: rest)) :=
  lv_icmp_ne C.1 C.2.1 hdg ht (fun h => kt (fun q => h ((nI_eq hx hy).mpr q))) (fun h => kf ((nI_eq hx hy).mp (by first | exact h | exact Decidable.not_not.mp h)))
theorem q_ifeqB (C : CallFix p m c cc nL s args Ts own) {b : Bool} {off : Int} {tgt : Nat} (hdg : decode cc pc = .ok (.ifCond .eq off, 3)) (ht : (pc : Int) + off = (tgt : Int)) (kt : b = false → W p l e R s m args below meth c H locs cells slots Q (F0 m tgt ls rest)) (kf : b = true → W p l e R s m args below meth c H locs cells slots Q (F0 m (pc + 3) ls rest)) : W p l e R s m args below meth c H locs cells slots Q (F0 m pc ls (.int (bI b) :: rest)) :=
  lv_if_eq C.1 C.2.1 hdg ht (fun h => kt (bI_eq0.mp h)) (fun h => kf (bI_ne0.mp h))
theorem q_ifneB (C : CallFix p m c cc nL s args Ts own) {b : Bool} {off : Int} {tgt : Nat} (hdg : decode cc pc = .ok (.ifCond .ne off, 3)) (ht : (pc : Int) + off = (tgt : Int)) (kt : b = true → W p l e R s m args below meth c H locs cells slots Q (F0 m tgt ls rest)) (kf : b = false → W p l e R s m args below meth c H locs cells slots Q (F0 m (pc + 3) ls rest)) : W p l e R s m args below meth c H locs cells slots Q (F0 m pc ls (.int (bI b) :: rest)) :=
  lv_if_ne C.1 C.2.1 hdg ht (fun h => kt (bI_ne0.mp h)) (fun h => kf (bI_eq0.mp (by first | exact h | exact Decidable.not_not.mp h)))
/-! ends -/
theorem q_retSi (C : CallFix p m c cc nL s args Ts own) (hr : meth.sig.returnType = some .int) (hlk : meth.locks = false) {post : Int32 → Prop} {v : Int32} (hp : post v) (hdg : decode cc pc = .ok (.ireturn, 1)) : W p l e R s m args below meth c s.heap [] 0 0 (MQ below (vp_Si post) args s 0 0 (fun _ => False)) (F0 m pc ls [.int v]) :=
  W.iret C.1 C.2.1 hr (fun t ht _ => ⟨v, rfl, hp, ht⟩) (fun q hq => absurd hq List.not_mem_nil) hdg hlk
theorem q_retSz (C : CallFix p m c cc nL s args Ts own) (hr : meth.sig.returnType = some .boolean) (hlk : meth.locks = false) {post : Int32 → Prop} {b : Bool} {v : Int32} (hv : v = bI b) (hp : post (bI b)) (hdg : decode cc pc = .ok (.ireturn, 1)) : W p l e R s m args below meth c s.heap [] 0 0 (MQ below (vp_Si post) args s 0 0 (fun _ => False)) (F0 m pc ls [.int v]) := by
  subst hv
  exact W.zret C.1 C.2.1 hr (bI_nar b) (fun t ht _ => ⟨bI b, rfl, hp, ht⟩) (fun q hq => absurd hq List.not_mem_nil) hdg hlk
theorem q_retSl (C : CallFix p m c cc nL s args Ts own) (hr : meth.sig.returnType = some .long) (hlk : meth.locks = false) {post : Int64 → Prop} {v : Int64} (hp : post v) (hdg : decode cc pc = .ok (.lreturn, 1)) : W p l e R s m args below meth c s.heap [] 0 0 (MQ below (vp_Sl post) args s 0 0 (fun _ => False)) (F0 m pc ls [.long v]) :=
  W.lret C.1 C.2.1 hr (fun t ht _ => ⟨v, rfl, hp, ht⟩) (fun q hq => absurd hq List.not_mem_nil) hdg hlk
theorem q_retQi (C : CallFix p m c cc nL s args Ts own) (S : fw_S G A s f H locs) (hr : meth.sig.returnType = some .int) (hlk : meth.locks = false) {post : Int32 → fw_F → Prop} {v : Int32} (hp : post v f) (hdg : decode cc pc = .ok (.ireturn, 1)) : W p l e R s m args below meth c H locs cells slots (MQ below (va_Qi post (fw_B G A) A) args s cells slots A) (F0 m pc ls [.int v]) :=
  W.iret C.1 C.2.1 hr (fun t ht _ => ⟨⟨v, f, rfl, hp, ⟨by rw [ht]; exact S.1, S.2.1⟩⟩, S.2.2.2.2.2.F ht⟩) S.2.2.2.2.2.2.2 hdg hlk
theorem q_retQz (C : CallFix p m c cc nL s args Ts own) (S : fw_S G A s f H locs) (hr : meth.sig.returnType = some .boolean) (hlk : meth.locks = false) {post : Int32 → fw_F → Prop} {b : Bool} {v : Int32} (hv : v = bI b) (hp : post (bI b) f) (hdg : decode cc pc = .ok (.ireturn, 1)) : W p l e R s m args below meth c H locs cells slots (MQ below (va_Qi post (fw_B G A) A) args s cells slots A) (F0 m pc ls [.int v]) := by
  subst hv
  exact W.zret C.1 C.2.1 hr (bI_nar b) (fun t ht _ => ⟨⟨bI b, f, rfl, hp, ⟨by rw [ht]; exact S.1, S.2.1⟩⟩, S.2.2.2.2.2.F ht⟩) S.2.2.2.2.2.2.2 hdg hlk
theorem q_retQl (C : CallFix p m c cc nL s args Ts own) (S : fw_S G A s f H locs) (hr : meth.sig.returnType = some .long) (hlk : meth.locks = false) {post : Int64 → fw_F → Prop} {v : Int64} (hp : post v f) (hdg : decode cc pc = .ok (.lreturn, 1)) : W p l e R s m args below meth c H locs cells slots (MQ below (va_Ql post (fw_B G A) A) args s cells slots A) (F0 m pc ls [.long v]) :=
  W.lret C.1 C.2.1 hr (fun t ht _ => ⟨⟨v, f, rfl, hp, ⟨by rw [ht]; exact S.1, S.2.1⟩⟩, S.2.2.2.2.2.F ht⟩) S.2.2.2.2.2.2.2 hdg hlk
theorem q_retQv (C : CallFix p m c cc nL s args Ts own) (S : fw_S G A s f H locs) (hr : meth.sig.returnType = none) (hlk : meth.locks = false) {post : fw_F → Prop} (hp : post f) (hdg : decode cc pc = .ok (.return_, 1)) : W p l e R s m args below meth c H locs cells slots (MQ below (va_Qv post (fw_B G A) A) args s cells slots A) (F0 m pc ls []) :=
  W.vret C.1 C.2.1 hr (fun t ht _ => ⟨⟨f, rfl, hp, ⟨by rw [ht]; exact S.1, S.2.1⟩⟩, S.2.2.2.2.2.F ht⟩) S.2.2.2.2.2.2.2 hdg hlk
end ROWS
theorem q_mn {x y : Nat} (hx : x < 2 ^ 31) (hy : y < 2 ^ 31) : (if nI y < nI x then nI y else nI x) = nI (min x y) := by
  by_cases h : y < x
  · rw [if_pos ((nI_ltI hy hx).mpr h), Nat.min_eq_right (by omega)]
  · rw [if_neg (fun q => h ((nI_ltI hy hx).mp q)), Nat.min_eq_left (by omega)]
theorem q_mx {x y : Nat} (hx : x < 2 ^ 31) (hy : y < 2 ^ 31) : (if nI x < nI y then nI y else nI x) = nI (max x y) := by
  by_cases h : x < y
  · rw [if_pos ((nI_ltI hx hy).mpr h), Nat.max_eq_right (by omega)]
  · rw [if_neg (fun q => h ((nI_ltI hx hy).mp q)), Nat.max_eq_left (by omega)]
section LROWS
variable {p : Program} {l : Launch} {e : Env} {R : Room} {s : State} {m : MethodId} {args : Array Value} {below : List Frame} {meth : Method} {c : Code} {H : Heap} {locs : List Loc} {cells slots : Nat} {Q : State → Prop}
variable {cc : ByteArray} {pc nL : Nat} {ls : Array Slot} {rest : List Value} {Ts : List Cond} {own : String}
theorem q_lcmp_ge (C : CallFix p m c cc nL s args Ts own) {x y : Int64} {off : Int} {tgt : Nat} (hd0 : decode cc pc = .ok (.lcmp, 1)) (hdg : decode cc (pc + 1) = .ok (.ifCond .ge off, 3)) (ht : ((pc + 1 : Nat) : Int) + off = (tgt : Int)) (kt : y ≤ x → W p l e R s m args below meth c H locs cells slots Q (F0 m tgt ls rest)) (kf : ¬ y ≤ x → W p l e R s m args below meth c H locs cells slots Q (F0 m (pc + 1 + 3) ls rest)) : W p l e R s m args below meth c H locs cells slots Q (F0 m pc ls (.long y :: .long x :: rest)) :=
  W.lcmp C.1 C.2.1 hd0 (lv_if_ge C.1 C.2.1 hdg ht (fun h => kt ((lg_cmp_ge x y).mp h)) (fun h => kf (fun q => h ((lg_cmp_ge x y).mpr q))))
theorem q_lcmp_lt (C : CallFix p m c cc nL s args Ts own) {x y : Int64} {off : Int} {tgt : Nat} (hd0 : decode cc pc = .ok (.lcmp, 1)) (hdg : decode cc (pc + 1) = .ok (.ifCond .lt off, 3)) (ht : ((pc + 1 : Nat) : Int) + off = (tgt : Int)) (kt : ¬ y ≤ x → W p l e R s m args below meth c H locs cells slots Q (F0 m tgt ls rest)) (kf : y ≤ x → W p l e R s m args below meth c H locs cells slots Q (F0 m (pc + 1 + 3) ls rest)) : W p l e R s m args below meth c H locs cells slots Q (F0 m pc ls (.long y :: .long x :: rest)) := by
  refine W.lcmp C.1 C.2.1 hd0 (lv_if_lt C.1 C.2.1 hdg ht (fun h => kt fun q => ?_) (fun h => kf ((lg_cmp_ge x y).mp (Int32.not_lt.mp h))))
  exact absurd h (Int32.not_lt.mpr ((lg_cmp_ge x y).mpr q))
theorem lg_cmp_le' (x y : Int64) : (lg_cmp x y ≤ 0) ↔ x ≤ y := by
  unfold lg_cmp
  simp only [gt_iff_lt, Int64.lt_iff_toInt_lt, Int64.le_iff_toInt_le, ← Int64.toInt_inj]
  repeat' split
  all_goals first | omega | (constructor <;> intro h <;> first | omega | exact absurd h (by decide) | decide)
theorem lg_cmp_eq' (x y : Int64) : (lg_cmp x y = 0) ↔ x = y := by
  unfold lg_cmp
  by_cases h1 : x > y
  · rw [if_pos h1]
    constructor
    · intro h; exact absurd h (by decide)
    · intro h; subst h; simp only [gt_iff_lt, Int64.lt_iff_toInt_lt] at h1; omega
  · rw [if_neg h1]
    by_cases h2 : x = y
    · rw [if_pos h2]; exact ⟨fun _ => h2, fun _ => rfl⟩
    · rw [if_neg h2]; exact ⟨fun h => absurd h (by decide), fun h => absurd h h2⟩
theorem q_lcmp_le (C : CallFix p m c cc nL s args Ts own) {x y : Int64} {off : Int} {tgt : Nat} (hd0 : decode cc pc = .ok (.lcmp, 1)) (hdg : decode cc (pc + 1) = .ok (.ifCond .le off, 3)) (ht : ((pc + 1 : Nat) : Int) + off = (tgt : Int)) (kt : x ≤ y → W p l e R s m args below meth c H locs cells slots Q (F0 m tgt ls rest)) (kf : ¬ x ≤ y → W p l e R s m args below meth c H locs cells slots Q (F0 m (pc + 1 + 3) ls rest)) : W p l e R s m args below meth c H locs cells slots Q (F0 m pc ls (.long y :: .long x :: rest)) :=
  W.lcmp C.1 C.2.1 hd0 (lv_if_le C.1 C.2.1 hdg ht (fun h => kt ((lg_cmp_le' x y).mp h)) (fun h => kf (fun q => h ((lg_cmp_le' x y).mpr q))))
theorem q_lcmp_gt (C : CallFix p m c cc nL s args Ts own) {x y : Int64} {off : Int} {tgt : Nat} (hd0 : decode cc pc = .ok (.lcmp, 1)) (hdg : decode cc (pc + 1) = .ok (.ifCond .gt off, 3)) (ht : ((pc + 1 : Nat) : Int) + off = (tgt : Int)) (kt : ¬ x ≤ y → W p l e R s m args below meth c H locs cells slots Q (F0 m tgt ls rest)) (kf : x ≤ y → W p l e R s m args below meth c H locs cells slots Q (F0 m (pc + 1 + 3) ls rest)) : W p l e R s m args below meth c H locs cells slots Q (F0 m pc ls (.long y :: .long x :: rest)) := by
  refine W.lcmp C.1 C.2.1 hd0 (lv_if_gt C.1 C.2.1 hdg ht (fun h => kt fun q => ?_) (fun h => kf ((lg_cmp_le' x y).mp (Int32.not_lt.mp h))))
  exact absurd h (Int32.not_lt.mpr ((lg_cmp_le' x y).mpr q))
theorem q_lcmp_eq (C : CallFix p m c cc nL s args Ts own) {x y : Int64} {off : Int} {tgt : Nat} (hd0 : decode cc pc = .ok (.lcmp, 1)) (hdg : decode cc (pc + 1) = .ok (.ifCond .eq off, 3)) (ht : ((pc + 1 : Nat) : Int) + off = (tgt : Int)) (kt : x = y → W p l e R s m args below meth c H locs cells slots Q (F0 m tgt ls rest)) (kf : ¬ x = y → W p l e R s m args below meth c H locs cells slots Q (F0 m (pc + 1 + 3) ls rest)) : W p l e R s m args below meth c H locs cells slots Q (F0 m pc ls (.long y :: .long x :: rest)) :=
  W.lcmp C.1 C.2.1 hd0 (lv_if_eq C.1 C.2.1 hdg ht (fun h => kt ((lg_cmp_eq' x y).mp h)) (fun h => kf (fun q => h ((lg_cmp_eq' x y).mpr q))))
theorem q_lcmp_ne (C : CallFix p m c cc nL s args Ts own) {x y : Int64} {off : Int} {tgt : Nat} (hd0 : decode cc pc = .ok (.lcmp, 1)) (hdg : decode cc (pc + 1) = .ok (.ifCond .ne off, 3)) (ht : ((pc + 1 : Nat) : Int) + off = (tgt : Int)) (kt : ¬ x = y → W p l e R s m args below meth c H locs cells slots Q (F0 m tgt ls rest)) (kf : x = y → W p l e R s m args below meth c H locs cells slots Q (F0 m (pc + 1 + 3) ls rest)) : W p l e R s m args below meth c H locs cells slots Q (F0 m pc ls (.long y :: .long x :: rest)) :=
  W.lcmp C.1 C.2.1 hd0 (lv_if_ne C.1 C.2.1 hdg ht (fun h => kt (fun q => h ((lg_cmp_eq' x y).mpr q))) (fun h => kf ((lg_cmp_eq' x y).mp (by first | exact h | exact Decidable.not_not.mp h))))
end LROWS
end
section
/-! OBJECTS: an object with its arrays, by kinds of its fields: 0 a natural, 1 a row of naturals, 2 a row of booleans, 3 a row of longs, 4 a boolean, 5 a row of ints, 6 a long, else a reference -/
abbrev o_D : Type := Nat × Nat × (Nat → Nat) × (Nat → Nat)
def o_fv (kd : Nat → Nat) (a : Nat → Nat) (I : Nat → Nat) (B : Nat → Nat → Bool) (J : Nat → Nat → Int64) (k : Nat) : Value := match kd k with
  | 0 => .int (nI (I k))
  | 4 => .int (bI (B k 0))
  | 6 => .long (J k 0)
  | _ => .ref (a k)
def o_fs (d : o_D) (a : Nat → Nat) (I : Nat → Nat) (B : Nat → Nat → Bool) (J : Nat → Nat → Int64) : List Value := (List.range d.2.1).map (o_fv d.2.2.1 a I B J)
def isO (G : fw_G) (d : o_D) (f : fw_F) (b h : Nat) (a : Nat → Nat) (I : Nat → Nat) (N : Nat → Nat → Nat) (B : Nat → Nat → Bool) (J : Nat → Nat → Int64) : Prop :=
  f h = some (b, eB d.1 (o_fs d a I B J)) ∧ ∀ k, k < d.2.1 → (d.2.2.1 k = 1 → f (a k) = some (b + 1 + k, eN G (d.2.2.2 k) (N k))) ∧ (d.2.2.1 k = 2 → f (a k) = some (b + 1 + k, eY G (d.2.2.2 k) (B k))) ∧ (d.2.2.1 k = 3 → f (a k) = some (b + 1 + k, eJ G (d.2.2.2 k) (J k))) ∧ (d.2.2.1 k = 5 → f (a k) = some (b + 1 + k, eI G (d.2.2.2 k) (fun j => (J k j).toInt32)))
theorem o_fs_get {d : o_D} {a : Nat → Nat} {I : Nat → Nat} {B : Nat → Nat → Bool} {J : Nat → Nat → Int64} {k : Nat} (hk : k < d.2.1) : (o_fs d a I B J)[k]? = some (o_fv d.2.2.1 a I B J k) := by
  unfold o_fs
  rw [List.getElem?_map, List.getElem?_range hk]
  rfl
theorem o_fs_len {d : o_D} {a : Nat → Nat} {I : Nat → Nat} {B : Nat → Nat → Bool} {J : Nat → Nat → Int64} : (o_fs d a I B J).length = d.2.1 := by
  unfold o_fs
  simp
theorem o_fs_set {d : o_D} {a : Nat → Nat} {I I' : Nat → Nat} {B B' : Nat → Nat → Bool} {J J' : Nat → Nat → Int64} {k : Nat} {v : Value} (hk : k < d.2.1) (hv : o_fv d.2.2.1 a I' B' J' k = v) (ho : ∀ j, j ≠ k → o_fv d.2.2.1 a I' B' J' j = o_fv d.2.2.1 a I B J j) : (o_fs d a I B J).set k v = o_fs d a I' B' J' := by
  apply List.ext_getElem?
  intro j
  by_cases hj : j = k
  · subst hj
    rw [List.getElem?_set_self (by rw [o_fs_len]; exact hk), o_fs_get hk, hv]
  · rw [List.getElem?_set_ne (Ne.symm hj)]
    by_cases hl : j < d.2.1
    · rw [o_fs_get hl, o_fs_get hl, ho j hj]
    · rw [List.getElem?_eq_none (by rw [o_fs_len]; omega), List.getElem?_eq_none (by rw [o_fs_len]; omega)]
theorem up_s {α : Type} (g : Nat → α) (k : Nat) (x : α) : va_up g k x k = x := if_pos rfl
theorem up_n {α : Type} {g : Nat → α} {k j : Nat} {x : α} (h : j ≠ k) : va_up g k x j = g j := if_neg h
theorem o_fr {G : fw_G} {d : o_D} {f f' : fw_F} {b h lo hi : Nat} {a : Nat → Nat} {I : Nat → Nat} {N : Nat → Nat → Nat} {B : Nat → Nat → Bool} {J : Nat → Nat → Int64} (ho : isO G d f b h a I N B J) (fr : fw_fr f f' lo hi) (hd : b + d.2.1 + 1 ≤ lo ∨ hi ≤ b) : isO G d f' b h a I N B J := by
  refine ⟨fr _ _ _ ho.1 (by omega), fun k hk => ?_⟩
  obtain ⟨h1, h2, h3, h4⟩ := ho.2 k hk
  exact ⟨fun q => fr _ _ _ (h1 q) (by omega), fun q => fr _ _ _ (h2 q) (by omega), fun q => fr _ _ _ (h3 q) (by omega), fun q => fr _ _ _ (h4 q) (by omega)⟩
/-- one of an object's cells is laid anew -/
theorem o_setN {G : fw_G} {d : o_D} {f : fw_F} {b h : Nat} {a : Nat → Nat} {I : Nat → Nat} {N : Nat → Nat → Nat} {B : Nat → Nat → Bool} {J : Nat → Nat → Int64} (ho : isO G d f b h a I N B J) (k : Nat) (hk : k < d.2.1) (hkd : d.2.2.1 k = 1) (g : Nat → Nat) : isO G d (fw_up f (a k) (b + 1 + k, eN G (d.2.2.2 k) g)) b h a I (va_up N k g) B J := by
  have hc := (ho.2 k hk).1 hkd
  refine ⟨fw_keep ho.1 hc (by omega), fun j hj => ?_⟩
  obtain ⟨h1, h2, h3, h4⟩ := ho.2 j hj
  by_cases hjk : j = k
  · subst hjk
    exact ⟨fun _ => by rw [fw_eq, up_s], fun q => by omega, fun q => by omega, fun q => by omega⟩
  · exact ⟨fun q => by rw [up_n hjk]; exact fw_keep (h1 q) hc (by omega), fun q => fw_keep (h2 q) hc (by omega), fun q => fw_keep (h3 q) hc (by omega), fun q => fw_keep (h4 q) hc (by omega)⟩
theorem o_setY {G : fw_G} {d : o_D} {f : fw_F} {b h : Nat} {a : Nat → Nat} {I : Nat → Nat} {N : Nat → Nat → Nat} {B : Nat → Nat → Bool} {J : Nat → Nat → Int64} (ho : isO G d f b h a I N B J) (k : Nat) (hk : k < d.2.1) (hkd : d.2.2.1 k = 2) (g : Nat → Bool) : isO G d (fw_up f (a k) (b + 1 + k, eY G (d.2.2.2 k) g)) b h a I N (va_up B k g) J := by
  have hc := (ho.2 k hk).2.1 hkd
  have hfs : o_fs d a I (va_up B k g) J = o_fs d a I B J := by
    unfold o_fs
    apply List.map_congr_left
    intro j _
    unfold o_fv
    by_cases hjk : j = k
    · subst hjk; rw [hkd]; rfl
    · rw [up_n hjk]
  refine ⟨by rw [hfs]; exact fw_keep ho.1 hc (by omega), fun j hj => ?_⟩
  obtain ⟨h1, h2, h3, h4⟩ := ho.2 j hj
  by_cases hjk : j = k
  · subst hjk
    exact ⟨fun q => by omega, fun _ => by rw [fw_eq, up_s], fun q => by omega, fun q => by omega⟩
  · exact ⟨fun q => fw_keep (h1 q) hc (by omega), fun q => by rw [up_n hjk]; exact fw_keep (h2 q) hc (by omega), fun q => fw_keep (h3 q) hc (by omega), fun q => fw_keep (h4 q) hc (by omega)⟩
theorem o_setJ {G : fw_G} {d : o_D} {f : fw_F} {b h : Nat} {a : Nat → Nat} {I : Nat → Nat} {N : Nat → Nat → Nat} {B : Nat → Nat → Bool} {J : Nat → Nat → Int64} (ho : isO G d f b h a I N B J) (k : Nat) (hk : k < d.2.1) (hkd : d.2.2.1 k = 3) (g : Nat → Int64) : isO G d (fw_up f (a k) (b + 1 + k, eJ G (d.2.2.2 k) g)) b h a I N B (va_up J k g) := by
  have hc := (ho.2 k hk).2.2.1 hkd
  have hfs : o_fs d a I B (va_up J k g) = o_fs d a I B J := by
    unfold o_fs
    apply List.map_congr_left
    intro j _
    unfold o_fv
    by_cases hjk : j = k
    · subst hjk; rw [hkd]; rfl
    · rw [up_n hjk]
  refine ⟨by rw [hfs]; exact fw_keep ho.1 hc (by omega), fun j hj => ?_⟩
  obtain ⟨h1, h2, h3, h4⟩ := ho.2 j hj
  by_cases hjk : j = k
  · subst hjk
    exact ⟨fun q => by omega, fun q => by omega, fun _ => by rw [fw_eq, up_s], fun q => by omega⟩
  · exact ⟨fun q => fw_keep (h1 q) hc (by omega), fun q => fw_keep (h2 q) hc (by omega), fun q => by rw [up_n hjk]; exact fw_keep (h3 q) hc (by omega), fun q => by rw [up_n hjk]; exact fw_keep (h4 q) hc (by omega)⟩
theorem o_setX {G : fw_G} {d : o_D} {f : fw_F} {b h : Nat} {a : Nat → Nat} {I : Nat → Nat} {N : Nat → Nat → Nat} {B : Nat → Nat → Bool} {J : Nat → Nat → Int64} (ho : isO G d f b h a I N B J) (k : Nat) (hk : k < d.2.1) (hkd : d.2.2.1 k = 5) (g : Nat → Int64) : isO G d (fw_up f (a k) (b + 1 + k, eI G (d.2.2.2 k) (fun j => (g j).toInt32))) b h a I N B (va_up J k g) := by
  have hc := (ho.2 k hk).2.2.2 hkd
  have hfs : o_fs d a I B (va_up J k g) = o_fs d a I B J := by
    unfold o_fs
    apply List.map_congr_left
    intro j _
    unfold o_fv
    by_cases hjk : j = k
    · subst hjk; rw [hkd]; rfl
    · rw [up_n hjk]
  refine ⟨by rw [hfs]; exact fw_keep ho.1 hc (by omega), fun j hj => ?_⟩
  obtain ⟨h1, h2, h3, h4⟩ := ho.2 j hj
  by_cases hjk : j = k
  · subst hjk
    exact ⟨fun q => by omega, fun q => by omega, fun q => by omega, fun _ => by rw [fw_eq, up_s]⟩
  · exact ⟨fun q => fw_keep (h1 q) hc (by omega), fun q => fw_keep (h2 q) hc (by omega), fun q => by rw [up_n hjk]; exact fw_keep (h3 q) hc (by omega), fun q => by rw [up_n hjk]; exact fw_keep (h4 q) hc (by omega)⟩
theorem o_setF {G : fw_G} {d : o_D} {f : fw_F} {b h : Nat} {a : Nat → Nat} {I I' : Nat → Nat} {N : Nat → Nat → Nat} {B B' : Nat → Nat → Bool} {J J' : Nat → Nat → Int64} (ho : isO G d f b h a I N B J) (k : Nat) {v : Value} (hk : k < d.2.1) (hv : o_fv d.2.2.1 a I' B' J' k = v) (hI : ∀ j, j ≠ k → I' j = I j) (hB : ∀ j, j ≠ k → B' j = B j) (hJ : ∀ j, j ≠ k → J' j = J j) (hkd : d.2.2.1 k = 0 ∨ d.2.2.1 k = 4 ∨ d.2.2.1 k = 6) : isO G d (fw_up f h (b, eB d.1 ((o_fs d a I B J).set k v))) b h a I' N B' J' := by
  have hfs : (o_fs d a I B J).set k v = o_fs d a I' B' J' := o_fs_set hk hv (fun j hj => by unfold o_fv; rw [hI j hj, hB j hj, hJ j hj])
  refine ⟨by rw [fw_eq, hfs], fun j hj => ?_⟩
  obtain ⟨h1, h2, h3, h4⟩ := ho.2 j hj
  by_cases hjk : j = k
  · subst hjk
    exact ⟨fun q => by omega, fun q => by omega, fun q => by omega, fun q => by omega⟩
  · exact ⟨fun q => fw_keep (h1 q) ho.1 (by omega), fun q => by rw [hB j hjk]; exact fw_keep (h2 q) ho.1 (by omega), fun q => by rw [hJ j hjk]; exact fw_keep (h3 q) ho.1 (by omega), fun q => by rw [hJ j hjk]; exact fw_keep (h4 q) ho.1 (by omega)⟩
section OROWS
variable {p : Program} {l : Launch} {e : Env} {R : Room} {s : State} {m : MethodId} {args : Array Value} {below : List Frame} {meth : Method} {c : Code} {H : Heap} {locs : List Loc} {cells slots : Nat} {Q : State → Prop}
variable {cc : ByteArray} {pc nL : Nat} {ls : Array Slot} {rest : List Value} {Ts : List Cond} {own : String} {G : fw_G} {A : Nat → Prop} {f f0 : fw_F}
variable {d : o_D} {b h lo hi : Nat} {a : Nat → Nat} {I : Nat → Nat} {N : Nat → Nat → Nat} {B : Nat → Nat → Bool} {J : Nat → Nat → Int64}
theorem o_get (C : CallFix p m c cc nL s args Ts own) (S : fw_S G A s f H locs) (O : isO G d f b h a I N B J) {Cn : String} {T : u_T} {index : Nat} (hc : vwCl[d.1]? = some (Cn, T, d.2.1)) (hin : ∀ w ∈ u_ws Cn T d.2.1, w ∈ Ts) (k : Nat) (hk : k < d.2.1) (hl : Cond.fieldLink own index (T k).1 (T k).2.1 (T k).2.2.1 ∈ Ts) {v : Value} (hv : o_fv d.2.2.1 a I B J k = v) (hdg : decode cc pc = .ok (.getfield index, 3))
    (kk : W p l e R s m args below meth c H locs cells slots Q (F0 m (pc + 3) ls (v :: rest))) : W p l e R s m args below meth c H locs cells slots Q (F0 m pc ls (.ref h :: rest)) :=
  q_get C S O.1 hc hin k hk hl (hv ▸ o_fs_get hk) hdg kk
theorem o_getN (C : CallFix p m c cc nL s args Ts own) (S : fw_S G A s f H locs) (O : isO G d f b h a I N B J) {Cn host : String} {T : u_T} {index : Nat} (hc : vwCl[d.1]? = some (Cn, T, d.2.1)) (hin : ∀ w ∈ u_ws Cn T d.2.1, w ∈ Ts) (k : Nat) (hk : k < d.2.1) (hl : va_Nw (.fieldLinkNest own index (T k).1 (T k).2.1 (T k).2.2.1 host) s) {v : Value} (hv : o_fv d.2.2.1 a I B J k = v) (hdg : decode cc pc = .ok (.getfield index, 3))
    (kk : W p l e R s m args below meth c H locs cells slots Q (F0 m (pc + 3) ls (v :: rest))) : W p l e R s m args below meth c H locs cells slots Q (F0 m pc ls (.ref h :: rest)) :=
  q_getN C S O.1 hc hin k hk hl (hv ▸ o_fs_get hk) hdg kk
theorem o_puti (C : CallFix p m c cc nL s args Ts own) (S : fw_S G A s f H locs) (O : isO G d f b h a I N B J) (F : fw_fr f0 f lo hi) {Cn : String} {T : u_T} {index : Nat} (hc : vwCl[d.1]? = some (Cn, T, d.2.1)) (hin : ∀ w ∈ u_ws Cn T d.2.1, w ∈ Ts) (ty0 : Nat → FieldType) (hty : ∀ k, k < d.2.1 → parseFieldDescriptor (T k).2.2.1 = some (ty0 k)) (hnm : ∀ a, a < d.2.1 → ∀ b, b < d.2.1 → a ≠ b → (T a).2.1 ≠ (T b).2.1) (k : Nat) (hk : k < d.2.1) (hkd : d.2.2.1 k = 0) (hl : Cond.fieldLink own index (T k).1 (T k).2.1 (T k).2.2.1 ∈ Ts) (hfin : (T k).2.2.2 = false) (ht : ty0 k = .int) {x : Nat} (hlb : lo ≤ b ∧ b < hi) (hdg : decode cc pc = .ok (.putfield index, 3))
    (kk : ∀ (f1 : fw_F) (H1 : Heap) (locs1 : List Loc), fw_S G A s f1 H1 locs1 → isO G d f1 b h a (va_up I k x) N B J → fw_fr f0 f1 lo hi → W p l e R s m args below meth c H1 locs1 cells slots Q (F0 m (pc + 3) ls rest)) : W p l e R s m args below meth c H locs cells slots Q (F0 m pc ls (.int (nI x) :: .ref h :: rest)) :=
  q_put C S O.1 hc hin ty0 hty hnm k hk hl hfin (by rw [ht]; rfl) (by rw [ht]; rfl) (by rw [o_fs_len]; exact hk) hdg fun H1 locs1 S1 => kk _ H1 locs1 S1 (o_setF O k (I' := va_up I k x) (B' := B) (J' := J) hk (by unfold o_fv; rw [hkd, up_s]; rfl) (fun j hj => up_n hj) (fun _ _ => rfl) (fun _ _ => rfl) (Or.inl hkd)) (fw_fr_up F O.1 hlb.1 hlb.2)
theorem o_putz (C : CallFix p m c cc nL s args Ts own) (S : fw_S G A s f H locs) (O : isO G d f b h a I N B J) (F : fw_fr f0 f lo hi) {Cn : String} {T : u_T} {index : Nat} (hc : vwCl[d.1]? = some (Cn, T, d.2.1)) (hin : ∀ w ∈ u_ws Cn T d.2.1, w ∈ Ts) (ty0 : Nat → FieldType) (hty : ∀ k, k < d.2.1 → parseFieldDescriptor (T k).2.2.1 = some (ty0 k)) (hnm : ∀ a, a < d.2.1 → ∀ b, b < d.2.1 → a ≠ b → (T a).2.1 ≠ (T b).2.1) (k : Nat) (hk : k < d.2.1) (hkd : d.2.2.1 k = 4) (hl : Cond.fieldLink own index (T k).1 (T k).2.1 (T k).2.2.1 ∈ Ts) (hfin : (T k).2.2.2 = false) (ht : ty0 k = .boolean) {x : Bool} (hlb : lo ≤ b ∧ b < hi) (hdg : decode cc pc = .ok (.putfield index, 3))
    (kk : ∀ (f1 : fw_F) (H1 : Heap) (locs1 : List Loc), fw_S G A s f1 H1 locs1 → isO G d f1 b h a I N (va_up B k (fun _ => x)) J → fw_fr f0 f1 lo hi → W p l e R s m args below meth c H1 locs1 cells slots Q (F0 m (pc + 3) ls rest)) : W p l e R s m args below meth c H locs cells slots Q (F0 m pc ls (.int (bI x) :: .ref h :: rest)) :=
  q_put C S O.1 hc hin ty0 hty hnm k hk hl hfin (by rw [ht]; exact bI_nar x) (by rw [ht]; cases x <;> rfl) (by rw [o_fs_len]; exact hk) hdg fun H1 locs1 S1 => kk _ H1 locs1 S1 (o_setF O k (I' := I) (B' := va_up B k (fun _ => x)) (J' := J) hk (by unfold o_fv; rw [hkd, up_s]; rfl) (fun _ _ => rfl) (fun j hj => up_n hj) (fun _ _ => rfl) (Or.inr (Or.inl hkd))) (fw_fr_up F O.1 hlb.1 hlb.2)
theorem o_nald (C : CallFix p m c cc nL s args Ts own) (S : fw_S G A s f H locs) (O : isO G d f b h a I N B J) (q : Nat) (hq : q < d.2.1) (hkd : d.2.2.1 q = 1) {j : Int32} (k : Nat) (hj : j = nI k) (hk : k < d.2.2.2 q) (hn : d.2.2.2 q < 2 ^ 31) {x : Nat} (hv : N q k = x) (hdg : decode cc pc = .ok (.iaload, 1))
    (kk : W p l e R s m args below meth c H locs cells slots Q (F0 m (pc + 1) ls (.int (nI x) :: rest))) : W p l e R s m args below meth c H locs cells slots Q (F0 m pc ls (.int j :: .ref (a q) :: rest)) := by
  subst hv
  exact q_nald C S ((O.2 q hq).1 hkd) k hj hk hn hdg kk
theorem o_yald (C : CallFix p m c cc nL s args Ts own) (S : fw_S G A s f H locs) (O : isO G d f b h a I N B J) (q : Nat) (hq : q < d.2.1) (hkd : d.2.2.1 q = 2) {j : Int32} (k : Nat) (hj : j = nI k) (hk : k < d.2.2.2 q) (hn : d.2.2.2 q < 2 ^ 31) {x : Bool} (hv : B q k = x) (hdg : decode cc pc = .ok (.baload, 1))
    (kk : W p l e R s m args below meth c H locs cells slots Q (F0 m (pc + 1) ls (.int (bI x) :: rest))) : W p l e R s m args below meth c H locs cells slots Q (F0 m pc ls (.int j :: .ref (a q) :: rest)) := by
  subst hv
  exact q_yald C S ((O.2 q hq).2.1 hkd) k hj hk hn hdg kk
theorem o_lald (C : CallFix p m c cc nL s args Ts own) (S : fw_S G A s f H locs) (O : isO G d f b h a I N B J) (q : Nat) (hq : q < d.2.1) (hkd : d.2.2.1 q = 3) {j : Int32} (k : Nat) (hj : j = nI k) (hk : k < d.2.2.2 q) (hn : d.2.2.2 q < 2 ^ 31) {x : Int64} (hv : J q k = x) (hdg : decode cc pc = .ok (.laload, 1))
    (kk : W p l e R s m args below meth c H locs cells slots Q (F0 m (pc + 1) ls (.long x :: rest))) : W p l e R s m args below meth c H locs cells slots Q (F0 m pc ls (.int j :: .ref (a q) :: rest)) := by
  subst hv
  exact q_lald C S ((O.2 q hq).2.2.1 hkd) k hj hk hn hdg kk
theorem o_iald (C : CallFix p m c cc nL s args Ts own) (S : fw_S G A s f H locs) (O : isO G d f b h a I N B J) (q : Nat) (hq : q < d.2.1) (hkd : d.2.2.1 q = 5) {j : Int32} (k : Nat) (hj : j = nI k) (hk : k < d.2.2.2 q) (hn : d.2.2.2 q < 2 ^ 31) (hdg : decode cc pc = .ok (.iaload, 1))
    (kk : W p l e R s m args below meth c H locs cells slots Q (F0 m (pc + 1) ls (.int (J q k).toInt32 :: rest))) : W p l e R s m args below meth c H locs cells slots Q (F0 m pc ls (.int j :: .ref (a q) :: rest)) :=
  q_iald C S (g := fun j => (J q j).toInt32) ((O.2 q hq).2.2.2 hkd) k hj hk hn hdg kk
theorem o_nast (C : CallFix p m c cc nL s args Ts own) (S : fw_S G A s f H locs) (O : isO G d f b h a I N B J) (F : fw_fr f0 f lo hi) (q : Nat) (hq : q < d.2.1) (hkd : d.2.2.1 q = 1) {j : Int32} {x : Nat} (k : Nat) (hj : j = nI k) (hk : k < d.2.2.2 q) (hn : d.2.2.2 q < 2 ^ 31) (hlb : lo ≤ b + 1 + q ∧ b + 1 + q < hi) (hdg : decode cc pc = .ok (.iastore, 1))
    (kk : ∀ (f1 : fw_F) (H1 : Heap) (locs1 : List Loc), fw_S G A s f1 H1 locs1 → isO G d f1 b h a I (va_up N q (va_up (N q) k x)) B J → fw_fr f0 f1 lo hi → W p l e R s m args below meth c H1 locs1 cells slots Q (F0 m (pc + 1) ls rest)) : W p l e R s m args below meth c H locs cells slots Q (F0 m pc ls (.int (nI x) :: .int j :: .ref (a q) :: rest)) :=
  q_nast C S ((O.2 q hq).1 hkd) k hj hk hn hdg fun H1 locs1 S1 => kk _ H1 locs1 S1 (o_setN O q hq hkd _) (fw_fr_up F ((O.2 q hq).1 hkd) hlb.1 hlb.2)
theorem o_yast (C : CallFix p m c cc nL s args Ts own) (S : fw_S G A s f H locs) (O : isO G d f b h a I N B J) (F : fw_fr f0 f lo hi) (q : Nat) (hq : q < d.2.1) (hkd : d.2.2.1 q = 2) {j : Int32} {x : Bool} (k : Nat) (hj : j = nI k) (hk : k < d.2.2.2 q) (hn : d.2.2.2 q < 2 ^ 31) (hlb : lo ≤ b + 1 + q ∧ b + 1 + q < hi) (hdg : decode cc pc = .ok (.bastore, 1))
    (kk : ∀ (f1 : fw_F) (H1 : Heap) (locs1 : List Loc), fw_S G A s f1 H1 locs1 → isO G d f1 b h a I N (va_up B q (va_up (B q) k x)) J → fw_fr f0 f1 lo hi → W p l e R s m args below meth c H1 locs1 cells slots Q (F0 m (pc + 1) ls rest)) : W p l e R s m args below meth c H locs cells slots Q (F0 m pc ls (.int (bI x) :: .int j :: .ref (a q) :: rest)) :=
  q_yast C S ((O.2 q hq).2.1 hkd) k hj hk hn hdg fun H1 locs1 S1 => kk _ H1 locs1 S1 (o_setY O q hq hkd _) (fw_fr_up F ((O.2 q hq).2.1 hkd) hlb.1 hlb.2)
theorem o_last (C : CallFix p m c cc nL s args Ts own) (S : fw_S G A s f H locs) (O : isO G d f b h a I N B J) (F : fw_fr f0 f lo hi) (q : Nat) (hq : q < d.2.1) (hkd : d.2.2.1 q = 3) {j : Int32} {x : Int64} (k : Nat) (hj : j = nI k) (hk : k < d.2.2.2 q) (hn : d.2.2.2 q < 2 ^ 31) (hlb : lo ≤ b + 1 + q ∧ b + 1 + q < hi) (hdg : decode cc pc = .ok (.lastore, 1))
    (kk : ∀ (f1 : fw_F) (H1 : Heap) (locs1 : List Loc), fw_S G A s f1 H1 locs1 → isO G d f1 b h a I N B (va_up J q (va_up (J q) k x)) → fw_fr f0 f1 lo hi → W p l e R s m args below meth c H1 locs1 cells slots Q (F0 m (pc + 1) ls rest)) : W p l e R s m args below meth c H locs cells slots Q (F0 m pc ls (.long x :: .int j :: .ref (a q) :: rest)) :=
  q_last C S ((O.2 q hq).2.2.1 hkd) k hj hk hn hdg fun H1 locs1 S1 => kk _ H1 locs1 S1 (o_setJ O q hq hkd _) (fw_fr_up F ((O.2 q hq).2.2.1 hkd) hlb.1 hlb.2)
theorem upd_x (g : Nat → Int64) (k : Nat) (x : Int32) : upd (fun j => (g j).toInt32) k x = fun j => (va_up g k x.toInt64 j).toInt32 := by
  funext j
  unfold upd va_up
  split
  · simp
  · rfl
theorem o_iast (C : CallFix p m c cc nL s args Ts own) (S : fw_S G A s f H locs) (O : isO G d f b h a I N B J) (F : fw_fr f0 f lo hi) (q : Nat) (hq : q < d.2.1) (hkd : d.2.2.1 q = 5) {j : Int32} {x : Int32} (k : Nat) (hj : j = nI k) (hk : k < d.2.2.2 q) (hn : d.2.2.2 q < 2 ^ 31) (hlb : lo ≤ b + 1 + q ∧ b + 1 + q < hi) (hdg : decode cc pc = .ok (.iastore, 1))
    (kk : ∀ (f1 : fw_F) (H1 : Heap) (locs1 : List Loc), fw_S G A s f1 H1 locs1 → isO G d f1 b h a I N B (va_up J q (va_up (J q) k x.toInt64)) → fw_fr f0 f1 lo hi → W p l e R s m args below meth c H1 locs1 cells slots Q (F0 m (pc + 1) ls rest)) : W p l e R s m args below meth c H locs cells slots Q (F0 m pc ls (.int x :: .int j :: .ref (a q) :: rest)) :=
  q_iast C S (g := fun j => (J q j).toInt32) ((O.2 q hq).2.2.2 hkd) k hj hk hn hdg fun H1 locs1 S1 => kk _ H1 locs1 S1 (by rw [upd_x]; exact o_setX O q hq hkd _) (fw_fr_up F ((O.2 q hq).2.2.2 hkd) hlb.1 hlb.2)
/-! calls on an object of the world -/
theorem q_recv (S : fw_S G A s f H locs) {r i ci : Nat} {fs : List Value} (he : f r = some (i, eB ci fs)) {q : vw_C} (hc : vwCl[ci]? = some q) : ∃ cell : Cell, H[r]? = some cell ∧ cell.vm.isStatics = false ∧ s.vm.findClass q.1 = some cell.cls :=
  va_recv S.2.2.2.1.1 (fw_one S he) (q0 := 0) hc rfl
variable {y : MethodName} {bytes : ByteArray} {maxL mc ms n index : Nat} {ret : Option FieldType} {ws : List Cond} {rm : Room} {As st0 : List Value} {lv : List (Nat × Value)}
theorem q_callSi {r i ci : Nat} {fs : List Value} {Cq : vw_C} {post : Int32 → Prop} (C : CallFix p m c cc nL s args Ts own) (S : fw_S G A s f H locs) (hl : lv_has ls nL lv) (he : f r = some (i, eB ci fs)) (hc : vwCl[ci]? = some Cq) (hM : Met l y ws rm (va_Pc (.ref r :: As) (fw_P G A f)) (vp_Si post) 0 0 (fun _ => False)) (cw : CallW R s args own Cq.1 index y bytes maxL ret ws rm 0 0 n) (hn : As.length = n) (hst : st0 = As.reverse ++ .ref r :: rest) (hW : (rest.map fun v => v.category).sum ≤ 8) (hR : cells ≤ R.cells ∧ slots ≤ R.slots) (hdg : decode cc pc = .ok (.invokevirtual index, 3))
    (kk : ∀ v : Int32, post v → W p l e R s m args below meth c H locs cells slots Q (F0 m (pc + 3) ls (.int v :: rest))) : W p l e R s m args below meth c H locs cells slots Q (F0 m pc ls st0) :=
  vp_callSi (W.runV (As := As) (rest := rest) C hM cw ⟨fw_blind G A f _, q_recv S he hc, fun U hU hW => ⟨rfl, S.P hU hW⟩⟩ rfl hn hl.1 hst (lv_room hW) hdg hR) kk
theorem q_callSl {r i ci : Nat} {fs : List Value} {Cq : vw_C} {post : Int64 → Prop} (C : CallFix p m c cc nL s args Ts own) (S : fw_S G A s f H locs) (hl : lv_has ls nL lv) (he : f r = some (i, eB ci fs)) (hc : vwCl[ci]? = some Cq) (hM : Met l y ws rm (va_Pc (.ref r :: As) (fw_P G A f)) (vp_Sl post) 0 0 (fun _ => False)) (cw : CallW R s args own Cq.1 index y bytes maxL ret ws rm 0 0 n) (hn : As.length = n) (hst : st0 = As.reverse ++ .ref r :: rest) (hW : (rest.map fun v => v.category).sum ≤ 8) (hR : cells ≤ R.cells ∧ slots ≤ R.slots) (hdg : decode cc pc = .ok (.invokevirtual index, 3))
    (kk : ∀ v : Int64, post v → W p l e R s m args below meth c H locs cells slots Q (F0 m (pc + 3) ls (.long v :: rest))) : W p l e R s m args below meth c H locs cells slots Q (F0 m pc ls st0) :=
  vp_callSl (W.runV (As := As) (rest := rest) C hM cw ⟨fw_blind G A f _, q_recv S he hc, fun U hU hW => ⟨rfl, S.P hU hW⟩⟩ rfl hn hl.1 hst (lv_room hW) hdg hR) kk
theorem q_callQi {r i ci : Nat} {fs : List Value} {Cq : vw_C} {post : Int32 → fw_F → Prop} (C : CallFix p m c cc nL s args Ts own) (S : fw_S G A s f H locs) (hl : lv_has ls nL lv) (he : f r = some (i, eB ci fs)) (hc : vwCl[ci]? = some Cq) (hM : Met l y ws rm (va_Pc (.ref r :: As) (fw_P G A f)) (va_Qi post (fw_B G A) A) mc ms A) (cw : CallW R s args own Cq.1 index y bytes maxL ret ws rm mc ms n) (hn : As.length = n) (hst : st0 = As.reverse ++ .ref r :: rest) (hW : (rest.map fun v => v.category).sum ≤ 8) (hR : cells + mc ≤ R.cells ∧ slots + ms ≤ R.slots) (hdg : decode cc pc = .ok (.invokevirtual index, 3))
    (kk : ∀ (v : Int32) (f1 : fw_F) (H1 : Heap) (locs1 : List Loc), post v f1 → fw_S G A s f1 H1 locs1 → W p l e R s m args below meth c H1 locs1 (cells + mc) (slots + ms) Q (F0 m (pc + 3) ls (.int v :: rest))) : W p l e R s m args below meth c H locs cells slots Q (F0 m pc ls st0) :=
  va_calli (va_runV (As := As) (rest := rest) C hM cw ⟨fw_blind G A f _, q_recv S he hc, fun U hU hW => ⟨rfl, S.P hU hW⟩⟩ rfl hn hl.1 hst (lv_room hW) hdg hR) S.2.2.2.2.2 (fun _ _ h => h) (fun _ h => h) (fun v u t H1 locs1 ht hvm hw hB hz hk hS => kk v u H1 locs1 hw (S.after hB ht hS))
theorem q_callQl {r i ci : Nat} {fs : List Value} {Cq : vw_C} {post : Int64 → fw_F → Prop} (C : CallFix p m c cc nL s args Ts own) (S : fw_S G A s f H locs) (hl : lv_has ls nL lv) (he : f r = some (i, eB ci fs)) (hc : vwCl[ci]? = some Cq) (hM : Met l y ws rm (va_Pc (.ref r :: As) (fw_P G A f)) (va_Ql post (fw_B G A) A) mc ms A) (cw : CallW R s args own Cq.1 index y bytes maxL ret ws rm mc ms n) (hn : As.length = n) (hst : st0 = As.reverse ++ .ref r :: rest) (hW : (rest.map fun v => v.category).sum ≤ 8) (hR : cells + mc ≤ R.cells ∧ slots + ms ≤ R.slots) (hdg : decode cc pc = .ok (.invokevirtual index, 3))
    (kk : ∀ (v : Int64) (f1 : fw_F) (H1 : Heap) (locs1 : List Loc), post v f1 → fw_S G A s f1 H1 locs1 → W p l e R s m args below meth c H1 locs1 (cells + mc) (slots + ms) Q (F0 m (pc + 3) ls (.long v :: rest))) : W p l e R s m args below meth c H locs cells slots Q (F0 m pc ls st0) :=
  va_calll (va_runV (As := As) (rest := rest) C hM cw ⟨fw_blind G A f _, q_recv S he hc, fun U hU hW => ⟨rfl, S.P hU hW⟩⟩ rfl hn hl.1 hst (lv_room hW) hdg hR) S.2.2.2.2.2 (fun _ _ h => h) (fun _ h => h) (fun v u t H1 locs1 ht hvm hw hB hz hk hS => kk v u H1 locs1 hw (S.after hB ht hS))
theorem q_callQv {r i ci : Nat} {fs : List Value} {Cq : vw_C} {post : fw_F → Prop} (C : CallFix p m c cc nL s args Ts own) (S : fw_S G A s f H locs) (hl : lv_has ls nL lv) (he : f r = some (i, eB ci fs)) (hc : vwCl[ci]? = some Cq) (hM : Met l y ws rm (va_Pc (.ref r :: As) (fw_P G A f)) (va_Qv post (fw_B G A) A) mc ms A) (cw : CallW R s args own Cq.1 index y bytes maxL ret ws rm mc ms n) (hn : As.length = n) (hst : st0 = As.reverse ++ .ref r :: rest) (hW : (rest.map fun v => v.category).sum ≤ 8) (hR : cells + mc ≤ R.cells ∧ slots + ms ≤ R.slots) (hdg : decode cc pc = .ok (.invokevirtual index, 3))
    (kk : ∀ (f1 : fw_F) (H1 : Heap) (locs1 : List Loc), post f1 → fw_S G A s f1 H1 locs1 → W p l e R s m args below meth c H1 locs1 (cells + mc) (slots + ms) Q (F0 m (pc + 3) ls rest)) : W p l e R s m args below meth c H locs cells slots Q (F0 m pc ls st0) :=
  va_callv (va_runV (As := As) (rest := rest) C hM cw ⟨fw_blind G A f _, q_recv S he hc, fun U hU hW => ⟨rfl, S.P hU hW⟩⟩ rfl hn hl.1 hst (lv_room hW) hdg hR) S.2.2.2.2.2 (fun _ _ h => h) (fun _ h => h) (fun u t H1 locs1 ht hvm hw hB hz hk hS => kk u H1 locs1 hw (S.after hB ht hS))
end OROWS
end
section
/-! the shapes of the objects -/
def kdM : Nat → Nat := fun k => match k with
  | 0 => 0
  | 1 => 1
  | 2 => 1
  | 3 => 1
  | 4 => 3
  | 5 => 3
  | 6 => 0
  | 7 => 1
  | 8 => 3
  | 9 => 0
  | 10 => 1
  | 11 => 1
  | 12 => 1
  | 13 => 3
  | 14 => 3
  | 15 => 0
  | 16 => 1
  | 17 => 1
  | 18 => 1
  | 19 => 0
  | 20 => 1
  | 21 => 2
  | 22 => 2
  | 23 => 3
  | 24 => 3
  | 25 => 3
  | 26 => 2
  | 27 => 3
  | 28 => 1
  | 29 => 0
  | 30 => 0
  | 31 => 0
  | 32 => 4
  | _ => 3
def ldM : Nat → Nat := fun k => match k with
  | 1 => 6400
  | 2 => 6400
  | 3 => 6400
  | 4 => 6400
  | 5 => 6400
  | 7 => 32
  | 8 => 32
  | 10 => 60
  | 11 => 60
  | 12 => 1920
  | 13 => 1920
  | 14 => 60
  | 16 => 40
  | 17 => 40
  | 18 => 40
  | 20 => 64
  | 21 => 64
  | 22 => 64
  | 23 => 64
  | 24 => 64
  | 25 => 64
  | 26 => 64
  | 27 => 64
  | 28 => 32
  | 33 => 1600
  | _ => 0
def dM : o_D := (6, 34, kdM, ldM)
def kdN : Nat → Nat := fun k => match k with
  | 0 => 0
  | 1 => 1
  | 2 => 2
  | 3 => 3
  | 4 => 2
  | 5 => 3
  | _ => 3
def ldN : Nat → Nat := fun k => match k with
  | 1 => 64
  | 2 => 64
  | 3 => 64
  | 4 => 64
  | 5 => 64
  | 6 => 64
  | _ => 0
def dN : o_D := (2, 7, kdN, ldN)
def kdR : Nat → Nat := fun k => match k with
  | 0 => 0
  | 1 => 1
  | _ => 3
def ldR : Nat → Nat := fun k => match k with
  | 1 => 32
  | 2 => 32
  | _ => 0
def dR : o_D := (3, 3, kdR, ldR)
def kdS : Nat → Nat := fun k => match k with
  | 0 => 1
  | 1 => 0
  | 2 => 0
  | 3 => 0
  | 4 => 3
  | _ => 5
def ldS : Nat → Nat := fun k => match k with
  | 0 => 32
  | 4 => 1600
  | 5 => 60
  | _ => 0
def dS : o_D := (4, 6, kdS, ldS)
def kdK : Nat → Nat := fun k => match k with
  | 0 => 0
  | 1 => 1
  | 2 => 6
  | _ => 3
abbrev dK (w : Nat) : o_D := (1, 4, kdK, fun _ => w)
def kdC : Nat → Nat := fun k => match k with
  | 0 => 9
  | 1 => 9
  | 2 => 9
  | 3 => 9
  | 4 => 9
  | 5 => 1
  | _ => 0
def ldC : Nat → Nat := fun k => match k with
  | 5 => 40
  | _ => 0
def dC : o_D := (5, 7, kdC, ldC)
def kdA : Nat → Nat := fun k => match k with
  | 0 => 0
  | 1 => 9
  | _ => 0
def ldA : Nat → Nat := fun k => match k with
  | _ => 0
def dA : o_D := (0, 3, kdA, ldA)
theorem ix_of {x : Int32} {n : Nat} (hn : n < 2 ^ 31) (h0 : ¬ x < 0) (h1 : x < nI n) : ∃ k : Nat, k < n ∧ x = nI k := by
  obtain ⟨j, hj, rfl⟩ := nI_of h0
  exact ⟨j, (nI_ltI hj hn).mp h1, rfl⟩
def ix (x : Int32) (n : Nat) : Bool := decide (¬ x < 0) && decide (x < nI n)
theorem ix_t {x : Int32} {n : Nat} (hn : n < 2 ^ 31) (h : ix x n = true) : ∃ k : Nat, k < n ∧ x = nI k := by
  unfold ix at h
  rw [Bool.and_eq_true, decide_eq_true_eq, decide_eq_true_eq] at h
  exact ix_of hn h.1 h.2
theorem ix_nI {k n : Nat} (hk : k < 2 ^ 31) (hn : n < 2 ^ 31) : ix (nI k) n = decide (k < n) := by
  unfold ix
  rw [decide_eq_true (nI_pos hk), Bool.true_and]
  exact decide_eq_decide.mpr (nI_ltI hk hn)
end
section
/-! pure words for the Names object -/
def lmax (x y : Int64) : Int64 := if y < x then x else y
def lmin (x y : Int64) : Int64 := if y < x then y else x
def cnt (P : Nat → Bool) : Nat → Nat
  | 0 => 0
  | n + 1 => cnt P n + (if P n = true then 1 else 0)
theorem cnt_t {P : Nat → Bool} {n : Nat} (h : P n = true) : cnt P (n + 1) = cnt P n + 1 := by
  show cnt P n + (if P n = true then 1 else 0) = _
  rw [if_pos h]
theorem cnt_f {P : Nat → Bool} {n : Nat} (h : P n = false) : cnt P (n + 1) = cnt P n := by
  show cnt P n + (if P n = true then 1 else 0) = _
  rw [if_neg (by rw [h]; decide)]; rfl
theorem cnt_le (P : Nat → Bool) : ∀ n, cnt P n ≤ n
  | 0 => Nat.le_refl 0
  | n + 1 => by
    have := cnt_le P n
    show cnt P n + (if P n = true then 1 else 0) ≤ n + 1
    split <;> omega
def jn (L : Nat → Nat) (n s g : Nat) : Nat → Nat := fun z => if z < n ∧ L z = g then s else L z
theorem jn_0 (L : Nat → Nat) (s g : Nat) : jn L 0 s g = L := by
  funext z; unfold jn; rw [if_neg (by omega)]
theorem jn_at (L : Nat → Nat) (z s g : Nat) : jn L z s g z = L z := by
  unfold jn; rw [if_neg (by omega)]
theorem jn_eq {L : Nat → Nat} {z s g : Nat} (h : L z = g) : jn L (z + 1) s g = va_up (jn L z s g) z s := by
  funext i
  unfold jn va_up
  by_cases hi : i = z
  · subst hi
    rw [if_pos ⟨by omega, h⟩, if_pos rfl]
  · rw [if_neg hi]
    dsimp only
    by_cases hz : i < z ∧ L i = g
    · rw [if_pos hz, if_pos ⟨by omega, hz.2⟩]
    · rw [if_neg hz, if_neg (fun q => hz ⟨by omega, q.2⟩)]
theorem jn_ne {L : Nat → Nat} {z s g : Nat} (h : L z ≠ g) : jn L (z + 1) s g = jn L z s g := by
  funext i
  unfold jn
  by_cases hz : i < z ∧ L i = g
  · rw [if_pos hz, if_pos ⟨by omega, hz.2⟩]
  · rw [if_neg hz, if_neg (fun q => hz ⟨by have := q.1; rcases Nat.lt_or_ge i z with a | a; exact a; exact absurd (by rw [show i = z by omega] at q; exact q.2) h, q.2⟩)]
theorem jn_lt {L : Nat → Nat} {n s g b : Nat} (h : ∀ i, L i < b) (hs : s < b) (i : Nat) : jn L n s g i < b := by
  unfold jn; split
  · exact hs
  · exact h i
def nrOk (B : Nat → Nat → Bool) (J : Nat → Nat → Int64) (r : Nat) (lo hi : Int64) : Bool := decide (lo ≤ hi) && (if B 2 r = true then decide (lo ≤ J 3 r) && decide (J 3 r ≤ hi) else decide (lmax lo (J 5 r) ≤ lmin hi (J 6 r)))
def nrB (B : Nat → Nat → Bool) (J : Nat → Nat → Int64) (r : Nat) (lo hi : Int64) : Nat → Nat → Bool := if B 2 r = false ∧ nrOk B J r lo hi = true then va_up B 4 (va_up (B 4) r true) else B
def nrJ (B : Nat → Nat → Bool) (J : Nat → Nat → Int64) (r : Nat) (lo hi : Int64) : Nat → Nat → Int64 := if B 2 r = false ∧ nrOk B J r lo hi = true then va_up (va_up J 5 (va_up (J 5) r (lmax lo (J 5 r)))) 6 (va_up (J 6) r (lmin hi (J 6 r))) else J
theorem nrOk_b {B : Nat → Nat → Bool} {J : Nat → Nat → Int64} {r : Nat} {lo hi : Int64} (h : ¬ lo ≤ hi) : nrOk B J r lo hi = false := by
  unfold nrOk; rw [decide_eq_false h]; rfl
theorem nrOk_k1 {B : Nat → Nat → Bool} {J : Nat → Nat → Int64} {r : Nat} {lo hi : Int64} (hk : B 2 r = true) (h : ¬ lo ≤ J 3 r) : nrOk B J r lo hi = false := by
  unfold nrOk; rw [if_pos hk, decide_eq_false h, Bool.false_and, Bool.and_false]
theorem nrOk_k2 {B : Nat → Nat → Bool} {J : Nat → Nat → Int64} {r : Nat} {lo hi : Int64} (hk : B 2 r = true) (h : ¬ J 3 r ≤ hi) : nrOk B J r lo hi = false := by
  unfold nrOk; rw [if_pos hk, decide_eq_false h, Bool.and_false, Bool.and_false]
theorem nrOk_k {B : Nat → Nat → Bool} {J : Nat → Nat → Int64} {r : Nat} {lo hi : Int64} (h0 : lo ≤ hi) (hk : B 2 r = true) (h1 : lo ≤ J 3 r) (h2 : J 3 r ≤ hi) : nrOk B J r lo hi = true := by
  unfold nrOk; rw [if_pos hk, decide_eq_true h0, decide_eq_true h1, decide_eq_true h2]; rfl
theorem nrOk_n {B : Nat → Nat → Bool} {J : Nat → Nat → Int64} {r : Nat} {lo hi : Int64} (hk : B 2 r = false) (h : ¬ lmax lo (J 5 r) ≤ lmin hi (J 6 r)) : nrOk B J r lo hi = false := by
  unfold nrOk; rw [if_neg (by rw [hk]; decide), decide_eq_false h, Bool.and_false]
theorem nrOk_y {B : Nat → Nat → Bool} {J : Nat → Nat → Int64} {r : Nat} {lo hi : Int64} (h0 : lo ≤ hi) (hk : B 2 r = false) (h : lmax lo (J 5 r) ≤ lmin hi (J 6 r)) : nrOk B J r lo hi = true := by
  unfold nrOk; rw [if_neg (by rw [hk]; decide), decide_eq_true h0, decide_eq_true h]; rfl
theorem nrB_f {B : Nat → Nat → Bool} {J : Nat → Nat → Int64} {r : Nat} {lo hi : Int64} (h : nrOk B J r lo hi = false) : nrB B J r lo hi = B := if_neg (fun q => by rw [h] at q; exact absurd q.2 (by decide))
theorem nrJ_f {B : Nat → Nat → Bool} {J : Nat → Nat → Int64} {r : Nat} {lo hi : Int64} (h : nrOk B J r lo hi = false) : nrJ B J r lo hi = J := if_neg (fun q => by rw [h] at q; exact absurd q.2 (by decide))
theorem nrB_k {B : Nat → Nat → Bool} {J : Nat → Nat → Int64} {r : Nat} {lo hi : Int64} (h : B 2 r = true) : nrB B J r lo hi = B := if_neg (fun q => by rw [h] at q; exact absurd q.1 (by decide))
theorem nrJ_k {B : Nat → Nat → Bool} {J : Nat → Nat → Int64} {r : Nat} {lo hi : Int64} (h : B 2 r = true) : nrJ B J r lo hi = J := if_neg (fun q => by rw [h] at q; exact absurd q.1 (by decide))
theorem nrB_y {B : Nat → Nat → Bool} {J : Nat → Nat → Int64} {r : Nat} {lo hi : Int64} (hk : B 2 r = false) (h : nrOk B J r lo hi = true) : nrB B J r lo hi = va_up B 4 (va_up (B 4) r true) := if_pos ⟨hk, h⟩
theorem nrJ_y {B : Nat → Nat → Bool} {J : Nat → Nat → Int64} {r : Nat} {lo hi : Int64} (hk : B 2 r = false) (h : nrOk B J r lo hi = true) : nrJ B J r lo hi = va_up (va_up J 5 (va_up (J 5) r (lmax lo (J 5 r)))) 6 (va_up (J 6) r (lmin hi (J 6 r))) := if_pos ⟨hk, h⟩
def sh1 (B : Nat → Nat → Bool) (J : Nat → Nat → Int64) (x y : Nat) : Bool := if B 4 y = true then nrOk B J x (J 5 y) (J 6 y) else true
def shB1 (B : Nat → Nat → Bool) (J : Nat → Nat → Int64) (x y : Nat) : Nat → Nat → Bool := if B 4 y = true then nrB B J x (J 5 y) (J 6 y) else B
def shJ1 (B : Nat → Nat → Bool) (J : Nat → Nat → Int64) (x y : Nat) : Nat → Nat → Int64 := if B 4 y = true then nrJ B J x (J 5 y) (J 6 y) else J
def shOk (B : Nat → Nat → Bool) (J : Nat → Nat → Int64) (x y : Nat) : Bool := sh1 B J x y && sh1 (shB1 B J x y) (shJ1 B J x y) y x
def shB (B : Nat → Nat → Bool) (J : Nat → Nat → Int64) (x y : Nat) : Nat → Nat → Bool := if sh1 B J x y = true then shB1 (shB1 B J x y) (shJ1 B J x y) y x else B
def shJ (B : Nat → Nat → Bool) (J : Nat → Nat → Int64) (x y : Nat) : Nat → Nat → Int64 := if sh1 B J x y = true then shJ1 (shB1 B J x y) (shJ1 B J x y) y x else J
end
section
theorem inX1_has_X1 : ∀ w ∈ u_ws RX1 TX1 7, w ∈ wsX1_has := (fun _ h => (List.mem_cons_of_mem _ (List.mem_append_right _ h)))
theorem lkX1_has_32 : Cond.fieldLink RX1 32 (TX1 0).1 (TX1 0).2.1 (TX1 0).2.2.1 ∈ wsX1_has := List.mem_of_getElem? (i := 1) rfl
set_option maxHeartbeats 4000000 in
set_option maxRecDepth 100000 in
/-- Names.has -/
theorem c_has {l : Launch} {G : fw_G} {A : Nat → Prop} {f0 : fw_F} {b h : Nat} {a : Nat → Nat} {I : Nat → Nat} {N : Nat → Nat → Nat} {B : Nat → Nat → Bool} {J : Nat → Nat → Int64} (O : isO G dN f0 b h a I N B J) (x : Int32)  : Met l yX1_has wsX1_has ({ frames := 0, cells := 0, slots := 0, locals := 0 }) (va_Pc [.ref h, .int x] (fw_P G A f0)) (vp_Si (fun (r : Int32) => r = bI (ix x (I 0)))) 0 0 (fun _ => False) := by
  refine q_head rfl (by decide) (Nat.le_of_ble_eq_true rfl) ?_
  intro p e s m below meth c ls C hr hlk hnm P hl
  have S := P.start
  have hl : lv_has ls 2 [(0, .ref h), (1, .int x)] := hl
  refine lv_iload_n C.1 C.2.1 dX1_has_0 rfl (lv_at hl 1 rfl) ?_
  refine lv_if_lt (tgt := 16) C.1 C.2.1 dX1_has_1 (by decide) (fun c1 => ?_) (fun c1 => ?_)
  · refine lv_iconst (v := nI 0) C.1 C.2.1 dX1_has_16 (by decide) ?_
    exact q_retSz (b := false) C hr hlk rfl (by show bI false = bI _; rw [ix, decide_eq_false (not_not_intro c1)]; rfl) dX1_has_17
  · refine lv_iload_n C.1 C.2.1 dX1_has_4 rfl (lv_at hl 1 rfl) ?_
    refine lv_aload_n C.1 C.2.1 dX1_has_5 rfl (lv_at hl 0 rfl) ?_
    refine o_get (v := .int (nI (I 0))) C S O rfl inX1_has_X1 0 (Nat.le_of_ble_eq_true rfl) lkX1_has_32 rfl dX1_has_6 ?_
    refine lv_icmp_ge (tgt := 16) C.1 C.2.1 dX1_has_9 (by decide) (fun c9 => ?_) (fun c9 => ?_)
    · refine lv_iconst (v := nI 0) C.1 C.2.1 dX1_has_16 (by decide) ?_
      exact q_retSz (b := false) C hr hlk rfl (by show bI false = bI _; rw [ix, decide_eq_false (Int32.not_lt.mpr c9), Bool.and_false]) dX1_has_17
    · refine lv_iconst (v := nI 1) C.1 C.2.1 dX1_has_12 (by decide) ?_
      refine lv_goto (tgt := 17) C.1 C.2.1 dX1_has_13 (by decide) ?_
      exact q_retSz (b := true) C hr hlk rfl (by show bI true = bI _; rw [ix, decide_eq_true c1, decide_eq_true (Int32.not_le.mp c9)]; rfl) dX1_has_17
theorem inX1_leastOf_X1 : ∀ w ∈ u_ws RX1 TX1 7, w ∈ wsX1_leastOf := (fun _ h => (List.mem_cons_of_mem _ (List.mem_append_right _ h)))
theorem lkX1_leastOf_9 : Cond.fieldLink RX1 9 (TX1 1).1 (TX1 1).2.1 (TX1 1).2.2.1 ∈ wsX1_leastOf := List.mem_of_getElem? (i := 1) rfl
set_option maxHeartbeats 4000000 in
set_option maxRecDepth 100000 in
theorem c_leastOf {l : Launch} {G : fw_G} {A : Nat → Prop} {f0 : fw_F} {b h : Nat} {a : Nat → Nat} {I : Nat → Nat} {N : Nat → Nat → Nat} {B : Nat → Nat → Bool} {J : Nat → Nat → Int64} (O : isO G dN f0 b h a I N B J) (x : Nat) (hx : x < 64)  : Met l yX1_leastOf wsX1_leastOf ({ frames := 0, cells := 0, slots := 0, locals := 0 }) (va_Pc [.ref h, .int (nI x)] (fw_P G A f0)) (vp_Si (fun (r : Int32) => r = nI (N 1 x))) 0 0 (fun _ => False) := by
  refine q_head rfl (by decide) (Nat.le_of_ble_eq_true rfl) ?_
  intro p e s m below meth c ls C hr hlk hnm P hl
  have S := P.start
  have hl : lv_has ls 2 [(0, .ref h), (1, .int (nI x))] := hl
  refine lv_aload_n C.1 C.2.1 dX1_leastOf_0 rfl (lv_at hl 0 rfl) ?_
  refine o_get (v := .ref (a 1)) C S O rfl inX1_leastOf_X1 1 (Nat.le_of_ble_eq_true rfl) lkX1_leastOf_9 rfl dX1_leastOf_1 ?_
  refine lv_iload_n C.1 C.2.1 dX1_leastOf_4 rfl (lv_at hl 1 rfl) ?_
  refine o_nald (x := (N 1) x) C S O 1 (Nat.le_of_ble_eq_true rfl) rfl x rfl (show x < 64 from by first | omega | exact hL _ | exact hP _ | exact hF _) (Nat.le_of_ble_eq_true rfl) rfl dX1_leastOf_5 ?_
  exact q_retSi C hr hlk rfl dX1_leastOf_6
theorem inX1_isKnown_X1 : ∀ w ∈ u_ws RX1 TX1 7, w ∈ wsX1_isKnown := (fun _ h => (List.mem_cons_of_mem _ (List.mem_append_right _ h)))
theorem lkX1_isKnown_15 : Cond.fieldLink RX1 15 (TX1 2).1 (TX1 2).2.1 (TX1 2).2.2.1 ∈ wsX1_isKnown := List.mem_of_getElem? (i := 1) rfl
theorem lkX1_isKnown_9 : Cond.fieldLink RX1 9 (TX1 1).1 (TX1 1).2.1 (TX1 1).2.2.1 ∈ wsX1_isKnown := List.mem_of_getElem? (i := 2) rfl
set_option maxHeartbeats 4000000 in
set_option maxRecDepth 100000 in
theorem c_isKnown {l : Launch} {G : fw_G} {A : Nat → Prop} {f0 : fw_F} {b h : Nat} {a : Nat → Nat} {I : Nat → Nat} {N : Nat → Nat → Nat} {B : Nat → Nat → Bool} {J : Nat → Nat → Int64} (O : isO G dN f0 b h a I N B J) (x : Nat) (hx : x < 64) (hL : ∀ i, N 1 i < 64)  : Met l yX1_isKnown wsX1_isKnown ({ frames := 0, cells := 0, slots := 0, locals := 0 }) (va_Pc [.ref h, .int (nI x)] (fw_P G A f0)) (vp_Si (fun (r : Int32) => r = bI (B 2 (N 1 x)))) 0 0 (fun _ => False) := by
  refine q_head rfl (by decide) (Nat.le_of_ble_eq_true rfl) ?_
  intro p e s m below meth c ls C hr hlk hnm P hl
  have S := P.start
  have hl : lv_has ls 2 [(0, .ref h), (1, .int (nI x))] := hl
  refine lv_aload_n C.1 C.2.1 dX1_isKnown_0 rfl (lv_at hl 0 rfl) ?_
  refine o_get (v := .ref (a 2)) C S O rfl inX1_isKnown_X1 2 (Nat.le_of_ble_eq_true rfl) lkX1_isKnown_15 rfl dX1_isKnown_1 ?_
  refine lv_aload_n C.1 C.2.1 dX1_isKnown_4 rfl (lv_at hl 0 rfl) ?_
  refine o_get (v := .ref (a 1)) C S O rfl inX1_isKnown_X1 1 (Nat.le_of_ble_eq_true rfl) lkX1_isKnown_9 rfl dX1_isKnown_5 ?_
  refine lv_iload_n C.1 C.2.1 dX1_isKnown_8 rfl (lv_at hl 1 rfl) ?_
  refine o_nald (x := (N 1) x) C S O 1 (Nat.le_of_ble_eq_true rfl) rfl x rfl (show x < 64 from by first | omega | exact hL _ | exact hP _ | exact hF _) (Nat.le_of_ble_eq_true rfl) rfl dX1_isKnown_9 ?_
  refine o_yald (x := (B 2) ((N 1) x)) C S O 2 (Nat.le_of_ble_eq_true rfl) rfl ((N 1) x) rfl (show (N 1) x < 64 from by first | omega | exact hL _ | exact hP _ | exact hF _) (Nat.le_of_ble_eq_true rfl) rfl dX1_isKnown_10 ?_
  exact q_retSz (b := ((B 2) ((N 1) x))) C hr hlk rfl rfl dX1_isKnown_11
theorem inX1_numberOf_X1 : ∀ w ∈ u_ws RX1 TX1 7, w ∈ wsX1_numberOf := (fun _ h => (List.mem_cons_of_mem _ (List.mem_append_right _ h)))
theorem lkX1_numberOf_19 : Cond.fieldLink RX1 19 (TX1 3).1 (TX1 3).2.1 (TX1 3).2.2.1 ∈ wsX1_numberOf := List.mem_of_getElem? (i := 1) rfl
theorem lkX1_numberOf_9 : Cond.fieldLink RX1 9 (TX1 1).1 (TX1 1).2.1 (TX1 1).2.2.1 ∈ wsX1_numberOf := List.mem_of_getElem? (i := 2) rfl
set_option maxHeartbeats 4000000 in
set_option maxRecDepth 100000 in
theorem c_numberOf {l : Launch} {G : fw_G} {A : Nat → Prop} {f0 : fw_F} {b h : Nat} {a : Nat → Nat} {I : Nat → Nat} {N : Nat → Nat → Nat} {B : Nat → Nat → Bool} {J : Nat → Nat → Int64} (O : isO G dN f0 b h a I N B J) (x : Nat) (hx : x < 64) (hL : ∀ i, N 1 i < 64)  : Met l yX1_numberOf wsX1_numberOf ({ frames := 0, cells := 0, slots := 0, locals := 0 }) (va_Pc [.ref h, .int (nI x)] (fw_P G A f0)) (vp_Sl (fun (r : Int64) => r = J 3 (N 1 x))) 0 0 (fun _ => False) := by
  refine q_head rfl (by decide) (Nat.le_of_ble_eq_true rfl) ?_
  intro p e s m below meth c ls C hr hlk hnm P hl
  have S := P.start
  have hl : lv_has ls 2 [(0, .ref h), (1, .int (nI x))] := hl
  refine lv_aload_n C.1 C.2.1 dX1_numberOf_0 rfl (lv_at hl 0 rfl) ?_
  refine o_get (v := .ref (a 3)) C S O rfl inX1_numberOf_X1 3 (Nat.le_of_ble_eq_true rfl) lkX1_numberOf_19 rfl dX1_numberOf_1 ?_
  refine lv_aload_n C.1 C.2.1 dX1_numberOf_4 rfl (lv_at hl 0 rfl) ?_
  refine o_get (v := .ref (a 1)) C S O rfl inX1_numberOf_X1 1 (Nat.le_of_ble_eq_true rfl) lkX1_numberOf_9 rfl dX1_numberOf_5 ?_
  refine lv_iload_n C.1 C.2.1 dX1_numberOf_8 rfl (lv_at hl 1 rfl) ?_
  refine o_nald (x := (N 1) x) C S O 1 (Nat.le_of_ble_eq_true rfl) rfl x rfl (show x < 64 from by first | omega | exact hL _ | exact hP _ | exact hF _) (Nat.le_of_ble_eq_true rfl) rfl dX1_numberOf_9 ?_
  refine o_lald (x := (J 3) ((N 1) x)) C S O 3 (Nat.le_of_ble_eq_true rfl) rfl ((N 1) x) rfl (show (N 1) x < 64 from by first | omega | exact hL _ | exact hP _ | exact hF _) (Nat.le_of_ble_eq_true rfl) rfl dX1_numberOf_10 ?_
  exact q_retSl C hr hlk rfl dX1_numberOf_11
theorem inX1_lowOf_X1 : ∀ w ∈ u_ws RX1 TX1 7, w ∈ wsX1_lowOf := (fun _ h => (List.mem_cons_of_mem _ (List.mem_append_right _ h)))
theorem lkX1_lowOf_26 : Cond.fieldLink RX1 26 (TX1 5).1 (TX1 5).2.1 (TX1 5).2.2.1 ∈ wsX1_lowOf := List.mem_of_getElem? (i := 1) rfl
theorem lkX1_lowOf_9 : Cond.fieldLink RX1 9 (TX1 1).1 (TX1 1).2.1 (TX1 1).2.2.1 ∈ wsX1_lowOf := List.mem_of_getElem? (i := 2) rfl
set_option maxHeartbeats 4000000 in
set_option maxRecDepth 100000 in
theorem c_lowOf {l : Launch} {G : fw_G} {A : Nat → Prop} {f0 : fw_F} {b h : Nat} {a : Nat → Nat} {I : Nat → Nat} {N : Nat → Nat → Nat} {B : Nat → Nat → Bool} {J : Nat → Nat → Int64} (O : isO G dN f0 b h a I N B J) (x : Nat) (hx : x < 64) (hL : ∀ i, N 1 i < 64)  : Met l yX1_lowOf wsX1_lowOf ({ frames := 0, cells := 0, slots := 0, locals := 0 }) (va_Pc [.ref h, .int (nI x)] (fw_P G A f0)) (vp_Sl (fun (r : Int64) => r = J 5 (N 1 x))) 0 0 (fun _ => False) := by
  refine q_head rfl (by decide) (Nat.le_of_ble_eq_true rfl) ?_
  intro p e s m below meth c ls C hr hlk hnm P hl
  have S := P.start
  have hl : lv_has ls 2 [(0, .ref h), (1, .int (nI x))] := hl
  refine lv_aload_n C.1 C.2.1 dX1_lowOf_0 rfl (lv_at hl 0 rfl) ?_
  refine o_get (v := .ref (a 5)) C S O rfl inX1_lowOf_X1 5 (Nat.le_of_ble_eq_true rfl) lkX1_lowOf_26 rfl dX1_lowOf_1 ?_
  refine lv_aload_n C.1 C.2.1 dX1_lowOf_4 rfl (lv_at hl 0 rfl) ?_
  refine o_get (v := .ref (a 1)) C S O rfl inX1_lowOf_X1 1 (Nat.le_of_ble_eq_true rfl) lkX1_lowOf_9 rfl dX1_lowOf_5 ?_
  refine lv_iload_n C.1 C.2.1 dX1_lowOf_8 rfl (lv_at hl 1 rfl) ?_
  refine o_nald (x := (N 1) x) C S O 1 (Nat.le_of_ble_eq_true rfl) rfl x rfl (show x < 64 from by first | omega | exact hL _ | exact hP _ | exact hF _) (Nat.le_of_ble_eq_true rfl) rfl dX1_lowOf_9 ?_
  refine o_lald (x := (J 5) ((N 1) x)) C S O 5 (Nat.le_of_ble_eq_true rfl) rfl ((N 1) x) rfl (show (N 1) x < 64 from by first | omega | exact hL _ | exact hP _ | exact hF _) (Nat.le_of_ble_eq_true rfl) rfl dX1_lowOf_10 ?_
  exact q_retSl C hr hlk rfl dX1_lowOf_11
theorem inX1_highOf_X1 : ∀ w ∈ u_ws RX1 TX1 7, w ∈ wsX1_highOf := (fun _ h => (List.mem_cons_of_mem _ (List.mem_append_right _ h)))
theorem lkX1_highOf_29 : Cond.fieldLink RX1 29 (TX1 6).1 (TX1 6).2.1 (TX1 6).2.2.1 ∈ wsX1_highOf := List.mem_of_getElem? (i := 1) rfl
theorem lkX1_highOf_9 : Cond.fieldLink RX1 9 (TX1 1).1 (TX1 1).2.1 (TX1 1).2.2.1 ∈ wsX1_highOf := List.mem_of_getElem? (i := 2) rfl
set_option maxHeartbeats 4000000 in
set_option maxRecDepth 100000 in
theorem c_highOf {l : Launch} {G : fw_G} {A : Nat → Prop} {f0 : fw_F} {b h : Nat} {a : Nat → Nat} {I : Nat → Nat} {N : Nat → Nat → Nat} {B : Nat → Nat → Bool} {J : Nat → Nat → Int64} (O : isO G dN f0 b h a I N B J) (x : Nat) (hx : x < 64) (hL : ∀ i, N 1 i < 64)  : Met l yX1_highOf wsX1_highOf ({ frames := 0, cells := 0, slots := 0, locals := 0 }) (va_Pc [.ref h, .int (nI x)] (fw_P G A f0)) (vp_Sl (fun (r : Int64) => r = J 6 (N 1 x))) 0 0 (fun _ => False) := by
  refine q_head rfl (by decide) (Nat.le_of_ble_eq_true rfl) ?_
  intro p e s m below meth c ls C hr hlk hnm P hl
  have S := P.start
  have hl : lv_has ls 2 [(0, .ref h), (1, .int (nI x))] := hl
  refine lv_aload_n C.1 C.2.1 dX1_highOf_0 rfl (lv_at hl 0 rfl) ?_
  refine o_get (v := .ref (a 6)) C S O rfl inX1_highOf_X1 6 (Nat.le_of_ble_eq_true rfl) lkX1_highOf_29 rfl dX1_highOf_1 ?_
  refine lv_aload_n C.1 C.2.1 dX1_highOf_4 rfl (lv_at hl 0 rfl) ?_
  refine o_get (v := .ref (a 1)) C S O rfl inX1_highOf_X1 1 (Nat.le_of_ble_eq_true rfl) lkX1_highOf_9 rfl dX1_highOf_5 ?_
  refine lv_iload_n C.1 C.2.1 dX1_highOf_8 rfl (lv_at hl 1 rfl) ?_
  refine o_nald (x := (N 1) x) C S O 1 (Nat.le_of_ble_eq_true rfl) rfl x rfl (show x < 64 from by first | omega | exact hL _ | exact hP _ | exact hF _) (Nat.le_of_ble_eq_true rfl) rfl dX1_highOf_9 ?_
  refine o_lald (x := (J 6) ((N 1) x)) C S O 6 (Nat.le_of_ble_eq_true rfl) rfl ((N 1) x) rfl (show (N 1) x < 64 from by first | omega | exact hL _ | exact hP _ | exact hF _) (Nat.le_of_ble_eq_true rfl) rfl dX1_highOf_10 ?_
  exact q_retSl C hr hlk rfl dX1_highOf_11
theorem inX1_hasSpan_X1 : ∀ w ∈ u_ws RX1 TX1 7, w ∈ wsX1_hasSpan := (fun _ h => (List.mem_cons_of_mem _ (List.mem_append_right _ h)))
theorem lkX1_hasSpan_23 : Cond.fieldLink RX1 23 (TX1 4).1 (TX1 4).2.1 (TX1 4).2.2.1 ∈ wsX1_hasSpan := List.mem_of_getElem? (i := 1) rfl
theorem lkX1_hasSpan_9 : Cond.fieldLink RX1 9 (TX1 1).1 (TX1 1).2.1 (TX1 1).2.2.1 ∈ wsX1_hasSpan := List.mem_of_getElem? (i := 2) rfl
set_option maxHeartbeats 4000000 in
set_option maxRecDepth 100000 in
theorem c_hasSpan {l : Launch} {G : fw_G} {A : Nat → Prop} {f0 : fw_F} {b h : Nat} {a : Nat → Nat} {I : Nat → Nat} {N : Nat → Nat → Nat} {B : Nat → Nat → Bool} {J : Nat → Nat → Int64} (O : isO G dN f0 b h a I N B J) (x : Nat) (hx : x < 64) (hL : ∀ i, N 1 i < 64)  : Met l yX1_hasSpan wsX1_hasSpan ({ frames := 0, cells := 0, slots := 0, locals := 0 }) (va_Pc [.ref h, .int (nI x)] (fw_P G A f0)) (vp_Si (fun (r : Int32) => r = bI (B 4 (N 1 x)))) 0 0 (fun _ => False) := by
  refine q_head rfl (by decide) (Nat.le_of_ble_eq_true rfl) ?_
  intro p e s m below meth c ls C hr hlk hnm P hl
  have S := P.start
  have hl : lv_has ls 2 [(0, .ref h), (1, .int (nI x))] := hl
  refine lv_aload_n C.1 C.2.1 dX1_hasSpan_0 rfl (lv_at hl 0 rfl) ?_
  refine o_get (v := .ref (a 4)) C S O rfl inX1_hasSpan_X1 4 (Nat.le_of_ble_eq_true rfl) lkX1_hasSpan_23 rfl dX1_hasSpan_1 ?_
  refine lv_aload_n C.1 C.2.1 dX1_hasSpan_4 rfl (lv_at hl 0 rfl) ?_
  refine o_get (v := .ref (a 1)) C S O rfl inX1_hasSpan_X1 1 (Nat.le_of_ble_eq_true rfl) lkX1_hasSpan_9 rfl dX1_hasSpan_5 ?_
  refine lv_iload_n C.1 C.2.1 dX1_hasSpan_8 rfl (lv_at hl 1 rfl) ?_
  refine o_nald (x := (N 1) x) C S O 1 (Nat.le_of_ble_eq_true rfl) rfl x rfl (show x < 64 from by first | omega | exact hL _ | exact hP _ | exact hF _) (Nat.le_of_ble_eq_true rfl) rfl dX1_hasSpan_9 ?_
  refine o_yald (x := (B 4) ((N 1) x)) C S O 4 (Nat.le_of_ble_eq_true rfl) rfl ((N 1) x) rfl (show (N 1) x < 64 from by first | omega | exact hL _ | exact hP _ | exact hF _) (Nat.le_of_ble_eq_true rfl) rfl dX1_hasSpan_10 ?_
  exact q_retSz (b := ((B 4) ((N 1) x))) C hr hlk rfl rfl dX1_hasSpan_11
theorem inX1_setNumber_X1 : ∀ w ∈ u_ws RX1 TX1 7, w ∈ wsX1_setNumber := (fun _ h => (List.mem_cons_of_mem _ (List.mem_append_right _ h)))
theorem lkX1_setNumber_15 : Cond.fieldLink RX1 15 (TX1 2).1 (TX1 2).2.1 (TX1 2).2.2.1 ∈ wsX1_setNumber := List.mem_of_getElem? (i := 1) rfl
theorem lkX1_setNumber_9 : Cond.fieldLink RX1 9 (TX1 1).1 (TX1 1).2.1 (TX1 1).2.2.1 ∈ wsX1_setNumber := List.mem_of_getElem? (i := 2) rfl
theorem lkX1_setNumber_19 : Cond.fieldLink RX1 19 (TX1 3).1 (TX1 3).2.1 (TX1 3).2.2.1 ∈ wsX1_setNumber := List.mem_of_getElem? (i := 3) rfl
set_option maxHeartbeats 4000000 in
set_option maxRecDepth 100000 in
theorem c_setNumber {l : Launch} {G : fw_G} {A : Nat → Prop} {f0 : fw_F} {b h : Nat} {a : Nat → Nat} {I : Nat → Nat} {N : Nat → Nat → Nat} {B : Nat → Nat → Bool} {J : Nat → Nat → Int64} (O : isO G dN f0 b h a I N B J) (x : Nat) (hx : x < 64) (hL : ∀ i, N 1 i < 64) (v : Int64)  : Met l yX1_setNumber wsX1_setNumber ({ frames := 0, cells := 0, slots := 0, locals := 0 }) (va_Pc [.ref h, .int (nI x), .long v] (fw_P G A f0)) (va_Qv (fun (f1 : fw_F) => isO G dN f1 b h a I N (va_up B 2 (va_up (B 2) (N 1 x) true)) (va_up J 3 (va_up (J 3) (N 1 x) v)) ∧ fw_fr f0 f1 b (b + 8)) (fw_B G A) A) 0 0 A := by
  refine q_head rfl (by decide) (Nat.le_of_ble_eq_true rfl) ?_
  intro p e s m below meth c ls C hr hlk hnm P hl
  have S := P.start
  have hl : lv_has ls 4 [(0, .ref h), (1, .int (nI x)), (2, .long v)] := hl
  have F := fw_fr_rf f0 b (b + 8)
  refine lv_aload_n C.1 C.2.1 dX1_setNumber_0 rfl (lv_at hl 0 rfl) ?_
  refine o_get (v := .ref (a 2)) C S O rfl inX1_setNumber_X1 2 (Nat.le_of_ble_eq_true rfl) lkX1_setNumber_15 rfl dX1_setNumber_1 ?_
  refine lv_aload_n C.1 C.2.1 dX1_setNumber_4 rfl (lv_at hl 0 rfl) ?_
  refine o_get (v := .ref (a 1)) C S O rfl inX1_setNumber_X1 1 (Nat.le_of_ble_eq_true rfl) lkX1_setNumber_9 rfl dX1_setNumber_5 ?_
  refine lv_iload_n C.1 C.2.1 dX1_setNumber_8 rfl (lv_at hl 1 rfl) ?_
  refine o_nald (x := (N 1) x) C S O 1 (Nat.le_of_ble_eq_true rfl) rfl x rfl (show x < 64 from by first | omega | exact hL _ | exact hP _ | exact hF _) (Nat.le_of_ble_eq_true rfl) rfl dX1_setNumber_9 ?_
  refine lv_iconst (v := bI true) C.1 C.2.1 dX1_setNumber_10 (by decide) ?_
  refine o_yast C S O F 2 (Nat.le_of_ble_eq_true rfl) rfl ((N 1) x) rfl (show (N 1) x < 64 from by first | omega | exact hL _ | exact hP _ | exact hF _) (Nat.le_of_ble_eq_true rfl) ⟨by omega, by omega⟩ dX1_setNumber_11 (fun f H locs S O F => ?_)
  refine lv_aload_n C.1 C.2.1 dX1_setNumber_12 rfl (lv_at hl 0 rfl) ?_
  refine o_get (v := .ref (a 3)) C S O rfl inX1_setNumber_X1 3 (Nat.le_of_ble_eq_true rfl) lkX1_setNumber_19 rfl dX1_setNumber_13 ?_
  refine lv_aload_n C.1 C.2.1 dX1_setNumber_16 rfl (lv_at hl 0 rfl) ?_
  refine o_get (v := .ref (a 1)) C S O rfl inX1_setNumber_X1 1 (Nat.le_of_ble_eq_true rfl) lkX1_setNumber_9 rfl dX1_setNumber_17 ?_
  refine lv_iload_n C.1 C.2.1 dX1_setNumber_20 rfl (lv_at hl 1 rfl) ?_
  refine o_nald (x := (N 1) x) C S O 1 (Nat.le_of_ble_eq_true rfl) rfl x rfl (show x < 64 from by first | omega | exact hL _ | exact hP _ | exact hF _) (Nat.le_of_ble_eq_true rfl) rfl dX1_setNumber_21 ?_
  refine lv_lload_n C.1 C.2.1 dX1_setNumber_22 rfl (lv_at hl 2 rfl) ?_
  refine o_last C S O F 3 (Nat.le_of_ble_eq_true rfl) rfl ((N 1) x) rfl (show (N 1) x < 64 from by first | omega | exact hL _ | exact hP _ | exact hF _) (Nat.le_of_ble_eq_true rfl) ⟨by omega, by omega⟩ dX1_setNumber_23 (fun f H locs S O F => ?_)
  exact q_retQv C S hr hlk ⟨O, F⟩ dX1_setNumber_24
theorem inX1_unsetNumber_X1 : ∀ w ∈ u_ws RX1 TX1 7, w ∈ wsX1_unsetNumber := (fun _ h => (List.mem_cons_of_mem _ (List.mem_append_right _ h)))
theorem lkX1_unsetNumber_15 : Cond.fieldLink RX1 15 (TX1 2).1 (TX1 2).2.1 (TX1 2).2.2.1 ∈ wsX1_unsetNumber := List.mem_of_getElem? (i := 1) rfl
theorem lkX1_unsetNumber_9 : Cond.fieldLink RX1 9 (TX1 1).1 (TX1 1).2.1 (TX1 1).2.2.1 ∈ wsX1_unsetNumber := List.mem_of_getElem? (i := 2) rfl
set_option maxHeartbeats 4000000 in
set_option maxRecDepth 100000 in
theorem c_unsetNumber {l : Launch} {G : fw_G} {A : Nat → Prop} {f0 : fw_F} {b h : Nat} {a : Nat → Nat} {I : Nat → Nat} {N : Nat → Nat → Nat} {B : Nat → Nat → Bool} {J : Nat → Nat → Int64} (O : isO G dN f0 b h a I N B J) (x : Nat) (hx : x < 64) (hL : ∀ i, N 1 i < 64)  : Met l yX1_unsetNumber wsX1_unsetNumber ({ frames := 0, cells := 0, slots := 0, locals := 0 }) (va_Pc [.ref h, .int (nI x)] (fw_P G A f0)) (va_Qv (fun (f1 : fw_F) => isO G dN f1 b h a I N (va_up B 2 (va_up (B 2) (N 1 x) false)) J ∧ fw_fr f0 f1 b (b + 8)) (fw_B G A) A) 0 0 A := by
  refine q_head rfl (by decide) (Nat.le_of_ble_eq_true rfl) ?_
  intro p e s m below meth c ls C hr hlk hnm P hl
  have S := P.start
  have hl : lv_has ls 2 [(0, .ref h), (1, .int (nI x))] := hl
  have F := fw_fr_rf f0 b (b + 8)
  refine lv_aload_n C.1 C.2.1 dX1_unsetNumber_0 rfl (lv_at hl 0 rfl) ?_
  refine o_get (v := .ref (a 2)) C S O rfl inX1_unsetNumber_X1 2 (Nat.le_of_ble_eq_true rfl) lkX1_unsetNumber_15 rfl dX1_unsetNumber_1 ?_
  refine lv_aload_n C.1 C.2.1 dX1_unsetNumber_4 rfl (lv_at hl 0 rfl) ?_
  refine o_get (v := .ref (a 1)) C S O rfl inX1_unsetNumber_X1 1 (Nat.le_of_ble_eq_true rfl) lkX1_unsetNumber_9 rfl dX1_unsetNumber_5 ?_
  refine lv_iload_n C.1 C.2.1 dX1_unsetNumber_8 rfl (lv_at hl 1 rfl) ?_
  refine o_nald (x := (N 1) x) C S O 1 (Nat.le_of_ble_eq_true rfl) rfl x rfl (show x < 64 from by first | omega | exact hL _ | exact hP _ | exact hF _) (Nat.le_of_ble_eq_true rfl) rfl dX1_unsetNumber_9 ?_
  refine lv_iconst (v := bI false) C.1 C.2.1 dX1_unsetNumber_10 (by decide) ?_
  refine o_yast C S O F 2 (Nat.le_of_ble_eq_true rfl) rfl ((N 1) x) rfl (show (N 1) x < 64 from by first | omega | exact hL _ | exact hP _ | exact hF _) (Nat.le_of_ble_eq_true rfl) ⟨by omega, by omega⟩ dX1_unsetNumber_11 (fun f H locs S O F => ?_)
  exact q_retQv C S hr hlk ⟨O, F⟩ dX1_unsetNumber_12
set_option maxHeartbeats 4000000 in
set_option maxRecDepth 100000 in
theorem c_liesInSpan {l : Launch} {G : fw_G} {A : Nat → Prop} {f0 : fw_F} {b h : Nat} {a : Nat → Nat} {I : Nat → Nat} {N : Nat → Nat → Nat} {B : Nat → Nat → Bool} {J : Nat → Nat → Int64} (O : isO G dN f0 b h a I N B J) (x : Nat) (hx : x < 64) (hL : ∀ i, N 1 i < 64) (v : Int64)  : Met l yX1_liesInSpan wsX1_liesInSpan ({ frames := 1, cells := 0, slots := 0, locals := 21 }) (va_Pc [.ref h, .int (nI x), .long v] (fw_P G A f0)) (vp_Si (fun (r : Int32) => r = bI (decide (J 5 (N 1 x) ≤ v) && decide (v ≤ J 6 (N 1 x))))) 0 0 (fun _ => False) := by
  refine q_head rfl (by decide) (Nat.le_of_ble_eq_true rfl) ?_
  intro p e s m below meth c ls C hr hlk hnm P hl
  have S := P.start
  have hl : lv_has ls 4 [(0, .ref h), (1, .int (nI x)), (2, .long v)] := hl
  refine lv_aload_n C.1 C.2.1 dX1_liesInSpan_0 rfl (lv_at hl 0 rfl) ?_
  refine lv_iload_n C.1 C.2.1 dX1_liesInSpan_1 rfl (lv_at hl 1 rfl) ?_
  refine q_callSl (As := [.int (nI x)]) (rest := []) C S hl O.1 rfl (c_lowOf O x (by first | omega | exact hL _ | exact hP _ | exact hF _) hL) (cwV 1 C.2.2.2.2 gX1_liesInSpan_X1_lowOf rfl rfl rfl (by decide +kernel) ⟨Nat.le_of_ble_eq_true rfl, Nat.le_of_ble_eq_true rfl⟩) rfl rfl (Nat.le_of_ble_eq_true rfl) ⟨Nat.le_of_ble_eq_true rfl, Nat.le_of_ble_eq_true rfl⟩ dX1_liesInSpan_2 (fun v hv => ?_)
  subst hv
  refine lv_lload_n C.1 C.2.1 dX1_liesInSpan_5 rfl (lv_at hl 2 rfl) ?_
  refine q_lcmp_gt (tgt := 24) C dX1_liesInSpan_6 dX1_liesInSpan_7 (by decide) (fun c6 => ?_) (fun c6 => ?_)
  · refine lv_iconst (v := nI 0) C.1 C.2.1 dX1_liesInSpan_24 (by decide) ?_
    exact q_retSz (b := false) C hr hlk rfl (by show bI false = bI _; rw [decide_eq_false c6]; rfl) dX1_liesInSpan_25
  · refine lv_lload_n C.1 C.2.1 dX1_liesInSpan_10 rfl (lv_at hl 2 rfl) ?_
    refine lv_aload_n C.1 C.2.1 dX1_liesInSpan_11 rfl (lv_at hl 0 rfl) ?_
    refine lv_iload_n C.1 C.2.1 dX1_liesInSpan_12 rfl (lv_at hl 1 rfl) ?_
    refine q_callSl (As := [.int (nI x)]) (rest := [.long v]) C S hl O.1 rfl (c_highOf O x (by first | omega | exact hL _ | exact hP _ | exact hF _) hL) (cwV 1 C.2.2.2.2 gX1_liesInSpan_X1_highOf rfl rfl rfl (by decide +kernel) ⟨Nat.le_of_ble_eq_true rfl, Nat.le_of_ble_eq_true rfl⟩) rfl rfl (Nat.le_of_ble_eq_true rfl) ⟨Nat.le_of_ble_eq_true rfl, Nat.le_of_ble_eq_true rfl⟩ dX1_liesInSpan_13 (fun v hv => ?_)
    subst hv
    refine q_lcmp_gt (tgt := 24) C dX1_liesInSpan_16 dX1_liesInSpan_17 (by decide) (fun c16 => ?_) (fun c16 => ?_)
    · refine lv_iconst (v := nI 0) C.1 C.2.1 dX1_liesInSpan_24 (by decide) ?_
      exact q_retSz (b := false) C hr hlk rfl (by show bI false = bI _; rw [decide_eq_false c16, Bool.and_false]) dX1_liesInSpan_25
    · refine lv_iconst (v := nI 1) C.1 C.2.1 dX1_liesInSpan_20 (by decide) ?_
      refine lv_goto (tgt := 25) C.1 C.2.1 dX1_liesInSpan_21 (by decide) ?_
      exact q_retSz (b := true) C hr hlk rfl (by show bI true = bI _; rw [decide_eq_true c6, decide_eq_true c16]; rfl) dX1_liesInSpan_25
set_option maxHeartbeats 4000000 in
set_option maxRecDepth 100000 in
theorem c_freedom {l : Launch} {G : fw_G} {A : Nat → Prop} {f0 : fw_F} {b h : Nat} {a : Nat → Nat} {I : Nat → Nat} {N : Nat → Nat → Nat} {B : Nat → Nat → Bool} {J : Nat → Nat → Int64} (O : isO G dN f0 b h a I N B J) (x : Nat) (hx : x < 64) (hL : ∀ i, N 1 i < 64)  : Met l yX1_freedom wsX1_freedom ({ frames := 1, cells := 0, slots := 0, locals := 21 }) (va_Pc [.ref h, .int (nI x)] (fw_P G A f0)) (vp_Si (fun (r : Int32) => r = nI (if B 2 (N 1 x) = true then 2 else if B 4 (N 1 x) = true then 1 else 0))) 0 0 (fun _ => False) := by
  refine q_head rfl (by decide) (Nat.le_of_ble_eq_true rfl) ?_
  intro p e s m below meth c ls C hr hlk hnm P hl
  have S := P.start
  have hl : lv_has ls 2 [(0, .ref h), (1, .int (nI x))] := hl
  refine lv_aload_n C.1 C.2.1 dX1_freedom_0 rfl (lv_at hl 0 rfl) ?_
  refine lv_iload_n C.1 C.2.1 dX1_freedom_1 rfl (lv_at hl 1 rfl) ?_
  refine q_callSi (As := [.int (nI x)]) (rest := []) C S hl O.1 rfl (c_isKnown O x (by first | omega | exact hL _ | exact hP _ | exact hF _) hL) (cwV 1 C.2.2.2.2 gX1_freedom_X1_isKnown rfl rfl rfl (by decide +kernel) ⟨Nat.le_of_ble_eq_true rfl, Nat.le_of_ble_eq_true rfl⟩) rfl rfl (Nat.le_of_ble_eq_true rfl) ⟨Nat.le_of_ble_eq_true rfl, Nat.le_of_ble_eq_true rfl⟩ dX1_freedom_2 (fun v hv => ?_)
  subst hv
  refine q_ifeqB (tgt := 10) C dX1_freedom_5 (by decide) (fun c5 => ?_) (fun c5 => ?_)
  · refine lv_aload_n C.1 C.2.1 dX1_freedom_10 rfl (lv_at hl 0 rfl) ?_
    refine lv_iload_n C.1 C.2.1 dX1_freedom_11 rfl (lv_at hl 1 rfl) ?_
    refine q_callSi (As := [.int (nI x)]) (rest := []) C S hl O.1 rfl (c_hasSpan O x (by first | omega | exact hL _ | exact hP _ | exact hF _) hL) (cwV 1 C.2.2.2.2 gX1_freedom_X1_hasSpan rfl rfl rfl (by decide +kernel) ⟨Nat.le_of_ble_eq_true rfl, Nat.le_of_ble_eq_true rfl⟩) rfl rfl (Nat.le_of_ble_eq_true rfl) ⟨Nat.le_of_ble_eq_true rfl, Nat.le_of_ble_eq_true rfl⟩ dX1_freedom_12 (fun v hv => ?_)
    subst hv
    refine q_ifeqB (tgt := 22) C dX1_freedom_15 (by decide) (fun c15 => ?_) (fun c15 => ?_)
    · refine lv_iconst (v := nI 0) C.1 C.2.1 dX1_freedom_22 (by decide) ?_
      exact q_retSi C hr hlk (by rw [if_neg (by rw [c5]; decide), if_neg (by rw [c15]; decide)]) dX1_freedom_23
    · refine lv_iconst (v := nI 1) C.1 C.2.1 dX1_freedom_18 (by decide) ?_
      refine lv_goto (tgt := 23) C.1 C.2.1 dX1_freedom_19 (by decide) ?_
      exact q_retSi C hr hlk (by rw [if_neg (by rw [c5]; decide), if_pos c15]) dX1_freedom_23
  · refine lv_iconst (v := nI 2) C.1 C.2.1 dX1_freedom_8 (by decide) ?_
    exact q_retSi C hr hlk (by rw [if_pos c5]) dX1_freedom_9
end
section
theorem inX1_countOnes_X1 : ∀ w ∈ u_ws RX1 TX1 7, w ∈ wsX1_countOnes := (fun _ h => (List.mem_cons_of_mem _ (List.mem_append_right _ h)))
theorem lkX1_countOnes_32 : Cond.fieldLink RX1 32 (TX1 0).1 (TX1 0).2.1 (TX1 0).2.2.1 ∈ wsX1_countOnes := List.mem_of_getElem? (i := 1) rfl
theorem lkX1_countOnes_9 : Cond.fieldLink RX1 9 (TX1 1).1 (TX1 1).2.1 (TX1 1).2.2.1 ∈ wsX1_countOnes := List.mem_of_getElem? (i := 2) rfl
set_option maxHeartbeats 4000000 in
set_option maxRecDepth 100000 in
theorem c_countOnes {l : Launch} {G : fw_G} {A : Nat → Prop} {f0 : fw_F} {b h : Nat} {a : Nat → Nat} {I : Nat → Nat} {N : Nat → Nat → Nat} {B : Nat → Nat → Bool} {J : Nat → Nat → Int64} (O : isO G dN f0 b h a I N B J) (x : Nat) (hx : x < 64) (hL : ∀ i, N 1 i < 64) (hn : I 0 ≤ 64)  : Met l yX1_countOnes wsX1_countOnes ({ frames := 0, cells := 0, slots := 0, locals := 0 }) (va_Pc [.ref h, .int (nI x)] (fw_P G A f0)) (vp_Si (fun (r : Int32) => r = nI (cnt (fun i => decide (N 1 i = N 1 x)) (I 0)))) 0 0 (fun _ => False) := by
  refine q_head rfl (by decide) (Nat.le_of_ble_eq_true rfl) ?_
  intro p e s m below meth c ls C hr hlk hnm P hl
  have S := P.start
  have hl : lv_has ls 4 [(0, .ref h), (1, .int (nI x))] := hl
  refine lv_iconst (v := nI 0) C.1 C.2.1 dX1_countOnes_0 (by decide) ?_
  refine lv_istore_n (lv' := [(2, .int (nI 0)), (0, .ref h), (1, .int (nI x))]) C.1 C.2.1 dX1_countOnes_1 rfl hl (by decide) rfl (fun ls hl => ?_)
  refine lv_iconst (v := nI 0) C.1 C.2.1 dX1_countOnes_2 (by decide) ?_
  refine lv_istore_n (lv' := [(3, .int (nI 0)), (2, .int (nI 0)), (0, .ref h), (1, .int (nI x))]) C.1 C.2.1 dX1_countOnes_3 rfl hl (by decide) rfl (fun ls hl => ?_)
  have lp4 : ∀ (n : Nat) (z : Nat) (q : Nat), I 0 - z < n → (z ≤ I 0) → (q = cnt (fun i => decide (N 1 i = N 1 x)) z) → ∀ (ls : Array Slot), lv_has ls 4 [(3, .int (nI z)), (2, .int (nI q)), (0, .ref h), (1, .int (nI x))] → W p l e ({ frames := 0, cells := 0, slots := 0, locals := 0 }) s m [.ref h, .int (nI x)].toArray below meth c s.heap [] 0 0 (MQ below (vp_Si (fun (r : Int32) => r = nI (cnt (fun i => decide (N 1 i = N 1 x)) (I 0)))) [.ref h, .int (nI x)].toArray s 0 0 (fun _ => False)) (F0 m 4 ls []) := by
    intro n4
    induction n4 with
    | zero => intro z q hme4; exact absurd hme4 (Nat.not_lt_zero _)
    | succ n4 ih4 =>
      intro z q hme4 hz hq ls hl
      refine lv_iload_n C.1 C.2.1 dX1_countOnes_4 rfl (lv_at hl 0 rfl) ?_
      refine lv_aload_n C.1 C.2.1 dX1_countOnes_5 rfl (lv_at hl 2 rfl) ?_
      refine o_get (v := .int (nI (I 0))) C S O rfl inX1_countOnes_X1 0 (Nat.le_of_ble_eq_true rfl) lkX1_countOnes_32 rfl dX1_countOnes_6 ?_
      refine q_ge (tgt := 36) C (by omega) (by omega) dX1_countOnes_9 (by decide) (fun c9 => ?_) (fun c9 => ?_)
      · refine lv_iload_n C.1 C.2.1 dX1_countOnes_36 rfl (lv_at hl 1 rfl) ?_
        exact q_retSi C hr hlk (by rw [hq, show z = I 0 by omega]) dX1_countOnes_37
      · refine lv_aload_n C.1 C.2.1 dX1_countOnes_12 rfl (lv_at hl 2 rfl) ?_
        refine o_get (v := .ref (a 1)) C S O rfl inX1_countOnes_X1 1 (Nat.le_of_ble_eq_true rfl) lkX1_countOnes_9 rfl dX1_countOnes_13 ?_
        refine lv_iload_n C.1 C.2.1 dX1_countOnes_16 rfl (lv_at hl 0 rfl) ?_
        refine o_nald (x := (N 1) z) C S O 1 (Nat.le_of_ble_eq_true rfl) rfl z rfl (show z < 64 from by first | omega | exact hL _ | exact hP _ | exact hF _) (Nat.le_of_ble_eq_true rfl) rfl dX1_countOnes_17 ?_
        refine lv_aload_n C.1 C.2.1 dX1_countOnes_18 rfl (lv_at hl 2 rfl) ?_
        refine o_get (v := .ref (a 1)) C S O rfl inX1_countOnes_X1 1 (Nat.le_of_ble_eq_true rfl) lkX1_countOnes_9 rfl dX1_countOnes_19 ?_
        refine lv_iload_n C.1 C.2.1 dX1_countOnes_22 rfl (lv_at hl 3 rfl) ?_
        refine o_nald (x := (N 1) x) C S O 1 (Nat.le_of_ble_eq_true rfl) rfl x rfl (show x < 64 from by first | omega | exact hL _ | exact hP _ | exact hF _) (Nat.le_of_ble_eq_true rfl) rfl dX1_countOnes_23 ?_
        refine q_nee (tgt := 30) C (Nat.lt_trans (hL _) (by decide)) (Nat.lt_trans (hL _) (by decide)) dX1_countOnes_24 (by decide) (fun c24 => ?_) (fun c24 => ?_)
        · refine q_iinc (d := 1) (lv' := [(3, .int (nI (z + 1))), (2, .int (nI q)), (0, .ref h), (1, .int (nI x))]) C dX1_countOnes_30 hl (k := 0) rfl (by decide) (by decide) rfl (fun ls hl => ?_)
          refine lv_goto (tgt := 4) C.1 C.2.1 dX1_countOnes_33 (by decide) ?_
          exact ih4 (z + 1) q (by omega) (by omega) (by rw [hq, cnt_f (by exact decide_eq_false c24)]) _ (lv_sub hl [0, 1, 2, 3] rfl)
        · refine q_iinc (d := 1) (lv' := [(2, .int (nI (q + 1))), (3, .int (nI z)), (0, .ref h), (1, .int (nI x))]) C dX1_countOnes_27 hl (k := 1) rfl (by decide) (by decide) rfl (fun ls hl => ?_)
          refine q_iinc (d := 1) (lv' := [(3, .int (nI (z + 1))), (2, .int (nI (q + 1))), (0, .ref h), (1, .int (nI x))]) C dX1_countOnes_30 hl (k := 1) rfl (by decide) (by decide) rfl (fun ls hl => ?_)
          refine lv_goto (tgt := 4) C.1 C.2.1 dX1_countOnes_33 (by decide) ?_
          exact ih4 (z + 1) (q + 1) (by omega) (by omega) (by rw [hq, cnt_t (by exact decide_eq_true c24)]) _ (lv_sub hl [0, 1, 2, 3] rfl)
  exact lp4 (I 0 + 1) 0 0 (by omega) (by omega) rfl _ (lv_sub hl [0, 1, 2, 3] rfl)
theorem inX1_join_X1 : ∀ w ∈ u_ws RX1 TX1 7, w ∈ wsX1_join := (fun _ h => (List.mem_cons_of_mem _ (List.mem_append_right _ h)))
theorem lkX1_join_9 : Cond.fieldLink RX1 9 (TX1 1).1 (TX1 1).2.1 (TX1 1).2.2.1 ∈ wsX1_join := List.mem_of_getElem? (i := 1) rfl
theorem lkX1_join_32 : Cond.fieldLink RX1 32 (TX1 0).1 (TX1 0).2.1 (TX1 0).2.2.1 ∈ wsX1_join := List.mem_of_getElem? (i := 9) rfl
set_option maxHeartbeats 4000000 in
set_option maxRecDepth 100000 in
theorem c_join {l : Launch} {G : fw_G} {A : Nat → Prop} {f0 : fw_F} {b h : Nat} {a : Nat → Nat} {I : Nat → Nat} {N : Nat → Nat → Nat} {B : Nat → Nat → Bool} {J : Nat → Nat → Int64} (O : isO G dN f0 b h a I N B J) (x y : Nat) (hx : x < 64) (hy : y < 64) (hL : ∀ i, N 1 i < 64) (hn : I 0 ≤ 64)  : Met l yX1_join wsX1_join ({ frames := 1, cells := 0, slots := 0, locals := 21 }) (va_Pc [.ref h, .int (nI x), .int (nI y)] (fw_P G A f0)) (va_Qv (fun (f1 : fw_F) => ∃ N', isO G dN f1 b h a I N' B J ∧ N' 1 = jn (N 1) (I 0) (min (N 1 x) (N 1 y)) (max (N 1 x) (N 1 y)) ∧ fw_fr f0 f1 b (b + 8)) (fw_B G A) A) 0 0 A := by
  refine q_head rfl (by decide) (Nat.le_of_ble_eq_true rfl) ?_
  intro p e s m below meth c ls C hr hlk hnm P hl
  have S := P.start
  have hl : lv_has ls 6 [(0, .ref h), (1, .int (nI x)), (2, .int (nI y))] := hl
  have F := fw_fr_rf f0 b (b + 8)
  have hLx := hL x
  have hLy := hL y
  refine lv_aload_n C.1 C.2.1 dX1_join_0 rfl (lv_at hl 0 rfl) ?_
  refine o_get (v := .ref (a 1)) C S O rfl inX1_join_X1 1 (Nat.le_of_ble_eq_true rfl) lkX1_join_9 rfl dX1_join_1 ?_
  refine lv_iload_n C.1 C.2.1 dX1_join_4 rfl (lv_at hl 1 rfl) ?_
  refine o_nald (x := (N 1) x) C S O 1 (Nat.le_of_ble_eq_true rfl) rfl x rfl (show x < 64 from by first | omega | exact hL _ | exact hP _ | exact hF _) (Nat.le_of_ble_eq_true rfl) rfl dX1_join_5 ?_
  refine lv_aload_n C.1 C.2.1 dX1_join_6 rfl (lv_at hl 0 rfl) ?_
  refine o_get (v := .ref (a 1)) C S O rfl inX1_join_X1 1 (Nat.le_of_ble_eq_true rfl) lkX1_join_9 rfl dX1_join_7 ?_
  refine lv_iload_n C.1 C.2.1 dX1_join_10 rfl (lv_at hl 2 rfl) ?_
  refine o_nald (x := (N 1) y) C S O 1 (Nat.le_of_ble_eq_true rfl) rfl y rfl (show y < 64 from by first | omega | exact hL _ | exact hP _ | exact hF _) (Nat.le_of_ble_eq_true rfl) rfl dX1_join_11 ?_
  refine va_mmin C.1 C.2.1 (C.2.2.1.trans hl.1.symm) C.2.2.2.1 (C.2.2.2.2 _ (List.mem_of_getElem? (i := 2) rfl)) (C.2.2.2.2 _ (List.mem_of_getElem? (i := 3) rfl)) (C.2.2.2.2 _ (List.mem_of_getElem? (i := 4) rfl)) (C.2.2.2.2 _ (List.mem_of_getElem? (i := 5) rfl)) (Nat.le_of_ble_eq_true rfl) (Nat.le_of_ble_eq_true rfl) (Nat.le_of_ble_eq_true rfl) (Nat.le_of_ble_eq_true rfl) dX1_join_12 ?_
  rw [q_mn (Nat.lt_trans (hL _) (by decide)) (Nat.lt_trans (hL _) (by decide))]
  refine lv_istore_n (lv' := [(3, .int (nI (min ((N 1) x) ((N 1) y)))), (0, .ref h), (1, .int (nI x)), (2, .int (nI y))]) C.1 C.2.1 dX1_join_15 rfl hl (by decide) rfl (fun ls hl => ?_)
  refine lv_aload_n C.1 C.2.1 dX1_join_16 rfl (lv_at hl 1 rfl) ?_
  refine o_get (v := .ref (a 1)) C S O rfl inX1_join_X1 1 (Nat.le_of_ble_eq_true rfl) lkX1_join_9 rfl dX1_join_17 ?_
  refine lv_iload_n C.1 C.2.1 dX1_join_20 rfl (lv_at hl 2 rfl) ?_
  refine o_nald (x := (N 1) x) C S O 1 (Nat.le_of_ble_eq_true rfl) rfl x rfl (show x < 64 from by first | omega | exact hL _ | exact hP _ | exact hF _) (Nat.le_of_ble_eq_true rfl) rfl dX1_join_21 ?_
  refine lv_aload_n C.1 C.2.1 dX1_join_22 rfl (lv_at hl 1 rfl) ?_
  refine o_get (v := .ref (a 1)) C S O rfl inX1_join_X1 1 (Nat.le_of_ble_eq_true rfl) lkX1_join_9 rfl dX1_join_23 ?_
  refine lv_iload_n C.1 C.2.1 dX1_join_26 rfl (lv_at hl 3 rfl) ?_
  refine o_nald (x := (N 1) y) C S O 1 (Nat.le_of_ble_eq_true rfl) rfl y rfl (show y < 64 from by first | omega | exact hL _ | exact hP _ | exact hF _) (Nat.le_of_ble_eq_true rfl) rfl dX1_join_27 ?_
  refine va_mmax C.1 C.2.1 (C.2.2.1.trans hl.1.symm) C.2.2.2.1 (C.2.2.2.2 _ (List.mem_of_getElem? (i := 6) rfl)) (C.2.2.2.2 _ (List.mem_of_getElem? (i := 7) rfl)) (C.2.2.2.2 _ (List.mem_of_getElem? (i := 4) rfl)) (C.2.2.2.2 _ (List.mem_of_getElem? (i := 8) rfl)) (Nat.le_of_ble_eq_true rfl) (Nat.le_of_ble_eq_true rfl) (Nat.le_of_ble_eq_true rfl) (Nat.le_of_ble_eq_true rfl) dX1_join_28 ?_
  rw [q_mx (Nat.lt_trans (hL _) (by decide)) (Nat.lt_trans (hL _) (by decide))]
  refine lv_istore (lv' := [(4, .int (nI (max ((N 1) x) ((N 1) y)))), (3, .int (nI (min ((N 1) x) ((N 1) y)))), (0, .ref h), (1, .int (nI x)), (2, .int (nI y))]) C.1 C.2.1 dX1_join_31 hl (by decide) rfl (fun ls hl => ?_)
  refine lv_iconst (v := nI 0) C.1 C.2.1 dX1_join_33 (by decide) ?_
  refine lv_istore (lv' := [(5, .int (nI 0)), (4, .int (nI (max ((N 1) x) ((N 1) y)))), (3, .int (nI (min ((N 1) x) ((N 1) y)))), (0, .ref h), (1, .int (nI x)), (2, .int (nI y))]) C.1 C.2.1 dX1_join_34 hl (by decide) rfl (fun ls hl => ?_)
  have lp36 : ∀ (n : Nat) (z : Nat) (N2 : Nat → Nat → Nat), I 0 - z < n → (z ≤ I 0) → (N2 1 = jn (N 1) z (min (N 1 x) (N 1 y)) (max (N 1 x) (N 1 y))) → ∀ (f : fw_F) (H : Heap) (locs : List Loc) (ls : Array Slot), fw_S G A s f H locs → isO G dN f b h a I N2 B J → fw_fr f0 f b (b + 8) → lv_has ls 6 [(5, .int (nI z)), (4, .int (nI (max ((N 1) x) ((N 1) y)))), (3, .int (nI (min ((N 1) x) ((N 1) y)))), (0, .ref h), (1, .int (nI x)), (2, .int (nI y))] → W p l e ({ frames := 1, cells := 0, slots := 0, locals := 21 }) s m [.ref h, .int (nI x), .int (nI y)].toArray below meth c H locs 0 0 (MQ below (va_Qv (fun (f1 : fw_F) => ∃ N', isO G dN f1 b h a I N' B J ∧ N' 1 = jn (N 1) (I 0) (min (N 1 x) (N 1 y)) (max (N 1 x) (N 1 y)) ∧ fw_fr f0 f1 b (b + 8)) (fw_B G A) A) [.ref h, .int (nI x), .int (nI y)].toArray s 0 0 A) (F0 m 36 ls []) := by
    intro n36
    induction n36 with
    | zero => intro z N2 hme36; exact absurd hme36 (Nat.not_lt_zero _)
    | succ n36 ih36 =>
      intro z N2 hme36 hz hN2 f H locs ls S O F hl
      refine lv_iload C.1 C.2.1 dX1_join_36 (lv_at hl 0 rfl) ?_
      refine lv_aload_n C.1 C.2.1 dX1_join_38 rfl (lv_at hl 3 rfl) ?_
      refine o_get (v := .int (nI (I 0))) C S O rfl inX1_join_X1 0 (Nat.le_of_ble_eq_true rfl) lkX1_join_32 rfl dX1_join_39 ?_
      refine q_ge (tgt := 71) C (by omega) (by omega) dX1_join_42 (by decide) (fun c42 => ?_) (fun c42 => ?_)
      · exact q_retQv C S hr hlk ⟨N2, O, by rw [hN2, show z = I 0 by omega], F⟩ dX1_join_71
      · refine lv_aload_n C.1 C.2.1 dX1_join_45 rfl (lv_at hl 3 rfl) ?_
        refine o_get (v := .ref (a 1)) C S O rfl inX1_join_X1 1 (Nat.le_of_ble_eq_true rfl) lkX1_join_9 rfl dX1_join_46 ?_
        refine lv_iload C.1 C.2.1 dX1_join_49 (lv_at hl 0 rfl) ?_
        refine o_nald (x := (N2 1) z) C S O 1 (Nat.le_of_ble_eq_true rfl) rfl z rfl (show z < 64 from by omega) (Nat.le_of_ble_eq_true rfl) rfl dX1_join_51 ?_
        refine lv_iload C.1 C.2.1 dX1_join_52 (lv_at hl 1 rfl) ?_
        refine q_nee (tgt := 65) C (by rw [hN2, jn_at]; exact Nat.lt_trans (hL _) (by decide)) (by omega) dX1_join_54 (by decide) (fun c54 => ?_) (fun c54 => ?_)
        · refine q_iinc (d := 1) (lv' := [(5, .int (nI (z + 1))), (4, .int (nI (max ((N 1) x) ((N 1) y)))), (3, .int (nI (min ((N 1) x) ((N 1) y)))), (0, .ref h), (1, .int (nI x)), (2, .int (nI y))]) C dX1_join_65 hl (k := 0) rfl (by decide) (by decide) rfl (fun ls hl => ?_)
          refine lv_goto (tgt := 36) C.1 C.2.1 dX1_join_68 (by decide) ?_
          exact ih36 (z + 1) N2 (by omega) (by omega) (by rw [jn_ne (by intro q; exact c54 (by rw [hN2, jn_at]; exact q)), ← hN2]) _ _ _ _ S O F (lv_sub hl [0, 1, 2, 3, 4, 5] rfl)
        · refine lv_aload_n C.1 C.2.1 dX1_join_57 rfl (lv_at hl 3 rfl) ?_
          refine o_get (v := .ref (a 1)) C S O rfl inX1_join_X1 1 (Nat.le_of_ble_eq_true rfl) lkX1_join_9 rfl dX1_join_58 ?_
          refine lv_iload C.1 C.2.1 dX1_join_61 (lv_at hl 0 rfl) ?_
          refine lv_iload_n C.1 C.2.1 dX1_join_63 rfl (lv_at hl 2 rfl) ?_
          refine o_nast C S O F 1 (Nat.le_of_ble_eq_true rfl) rfl z rfl (show z < 64 from by omega) (Nat.le_of_ble_eq_true rfl) ⟨by omega, by omega⟩ dX1_join_64 (fun f H locs S O F => ?_)
          refine q_iinc (d := 1) (lv' := [(5, .int (nI (z + 1))), (4, .int (nI (max ((N 1) x) ((N 1) y)))), (3, .int (nI (min ((N 1) x) ((N 1) y)))), (0, .ref h), (1, .int (nI x)), (2, .int (nI y))]) C dX1_join_65 hl (k := 0) rfl (by decide) (by decide) rfl (fun ls hl => ?_)
          refine lv_goto (tgt := 36) C.1 C.2.1 dX1_join_68 (by decide) ?_
          exact ih36 (z + 1) (va_up N2 1 (va_up (N2 1) z (min ((N 1) x) ((N 1) y)))) (by omega) (by omega) (by rw [up_s, jn_eq (by rw [← c54, hN2, jn_at]), ← hN2]) _ _ _ _ S O F (lv_sub hl [0, 1, 2, 3, 4, 5] rfl)
  exact lp36 (I 0 + 1) 0 N (by omega) (by omega) (jn_0 _ _ _).symm _ _ _ _ S O F (lv_sub hl [0, 1, 2, 3, 4, 5] rfl)
theorem inX1_addFree_X1 : ∀ w ∈ u_ws RX1 TX1 7, w ∈ wsX1_addFree := (fun _ h => (List.mem_cons_of_mem _ (List.mem_append_right _ h)))
theorem lkX1_addFree_32 : Cond.fieldLink RX1 32 (TX1 0).1 (TX1 0).2.1 (TX1 0).2.2.1 ∈ wsX1_addFree := List.mem_of_getElem? (i := 1) rfl
theorem lkX1_addFree_9 : Cond.fieldLink RX1 9 (TX1 1).1 (TX1 1).2.1 (TX1 1).2.2.1 ∈ wsX1_addFree := List.mem_of_getElem? (i := 2) rfl
theorem lkX1_addFree_15 : Cond.fieldLink RX1 15 (TX1 2).1 (TX1 2).2.1 (TX1 2).2.2.1 ∈ wsX1_addFree := List.mem_of_getElem? (i := 3) rfl
theorem lkX1_addFree_19 : Cond.fieldLink RX1 19 (TX1 3).1 (TX1 3).2.1 (TX1 3).2.2.1 ∈ wsX1_addFree := List.mem_of_getElem? (i := 4) rfl
theorem lkX1_addFree_23 : Cond.fieldLink RX1 23 (TX1 4).1 (TX1 4).2.1 (TX1 4).2.2.1 ∈ wsX1_addFree := List.mem_of_getElem? (i := 5) rfl
theorem lkX1_addFree_26 : Cond.fieldLink RX1 26 (TX1 5).1 (TX1 5).2.1 (TX1 5).2.2.1 ∈ wsX1_addFree := List.mem_of_getElem? (i := 6) rfl
theorem lkX1_addFree_29 : Cond.fieldLink RX1 29 (TX1 6).1 (TX1 6).2.1 (TX1 6).2.2.1 ∈ wsX1_addFree := List.mem_of_getElem? (i := 8) rfl
set_option maxHeartbeats 4000000 in
set_option maxRecDepth 100000 in
theorem c_addFree {l : Launch} {G : fw_G} {A : Nat → Prop} {f0 : fw_F} {b h : Nat} {a : Nat → Nat} {I : Nat → Nat} {N : Nat → Nat → Nat} {B : Nat → Nat → Bool} {J : Nat → Nat → Int64} (O : isO G dN f0 b h a I N B J) (hn : I 0 < 64)  : Met l yX1_addFree wsX1_addFree ({ frames := 0, cells := 0, slots := 0, locals := 0 }) (va_Pc [.ref h] (fw_P G A f0)) (va_Qi (fun (r : Int32) (f1 : fw_F) => r = nI (I 0) ∧ isO G dN f1 b h a (va_up I 0 (I 0 + 1)) (va_up N 1 (va_up (N 1) (I 0) (I 0))) (va_up (va_up B 2 (va_up (B 2) (I 0) false)) 4 (va_up (B 4) (I 0) false)) (va_up (va_up (va_up J 3 (va_up (J 3) (I 0) 0)) 5 (va_up (J 5) (I 0) (-9223372036854775808))) 6 (va_up (J 6) (I 0) 9223372036854775807)) ∧ fw_fr f0 f1 b (b + 8)) (fw_B G A) A) 0 0 A := by
  refine q_head rfl (by decide) (Nat.le_of_ble_eq_true rfl) ?_
  intro p e s m below meth c ls C hr hlk hnm P hl
  have S := P.start
  have hl : lv_has ls 2 [(0, .ref h)] := hl
  have F := fw_fr_rf f0 b (b + 8)
  refine lv_aload_n C.1 C.2.1 dX1_addFree_0 rfl (lv_at hl 0 rfl) ?_
  refine o_get (v := .int (nI (I 0))) C S O rfl inX1_addFree_X1 0 (Nat.le_of_ble_eq_true rfl) lkX1_addFree_32 rfl dX1_addFree_1 ?_
  refine lv_bipush (v := nI 64) C.1 C.2.1 dX1_addFree_4 (by decide) ?_
  refine q_lt (tgt := 11) C (by omega) (by decide) dX1_addFree_6 (by decide) (fun c6 => ?_) (fun c6 => ?_)
  · refine lv_aload_n C.1 C.2.1 dX1_addFree_11 rfl (lv_at hl 0 rfl) ?_
    refine o_get (v := .int (nI (I 0))) C S O rfl inX1_addFree_X1 0 (Nat.le_of_ble_eq_true rfl) lkX1_addFree_32 rfl dX1_addFree_12 ?_
    refine lv_istore_n (lv' := [(1, .int (nI (I 0))), (0, .ref h)]) C.1 C.2.1 dX1_addFree_15 rfl hl (by decide) rfl (fun ls hl => ?_)
    refine lv_aload_n C.1 C.2.1 dX1_addFree_16 rfl (lv_at hl 1 rfl) ?_
    refine o_get (v := .ref (a 1)) C S O rfl inX1_addFree_X1 1 (Nat.le_of_ble_eq_true rfl) lkX1_addFree_9 rfl dX1_addFree_17 ?_
    refine lv_iload_n C.1 C.2.1 dX1_addFree_20 rfl (lv_at hl 0 rfl) ?_
    refine lv_iload_n C.1 C.2.1 dX1_addFree_21 rfl (lv_at hl 0 rfl) ?_
    refine o_nast C S O F 1 (Nat.le_of_ble_eq_true rfl) rfl (I 0) rfl (show (I 0) < 64 from by first | omega | exact hL _ | exact hP _ | exact hF _) (Nat.le_of_ble_eq_true rfl) ⟨by omega, by omega⟩ dX1_addFree_22 (fun f H locs S O F => ?_)
    refine lv_aload_n C.1 C.2.1 dX1_addFree_23 rfl (lv_at hl 1 rfl) ?_
    refine o_get (v := .ref (a 2)) C S O rfl inX1_addFree_X1 2 (Nat.le_of_ble_eq_true rfl) lkX1_addFree_15 rfl dX1_addFree_24 ?_
    refine lv_iload_n C.1 C.2.1 dX1_addFree_27 rfl (lv_at hl 0 rfl) ?_
    refine lv_iconst (v := bI false) C.1 C.2.1 dX1_addFree_28 (by decide) ?_
    refine o_yast C S O F 2 (Nat.le_of_ble_eq_true rfl) rfl (I 0) rfl (show (I 0) < 64 from by first | omega | exact hL _ | exact hP _ | exact hF _) (Nat.le_of_ble_eq_true rfl) ⟨by omega, by omega⟩ dX1_addFree_29 (fun f H locs S O F => ?_)
    refine lv_aload_n C.1 C.2.1 dX1_addFree_30 rfl (lv_at hl 1 rfl) ?_
    refine o_get (v := .ref (a 3)) C S O rfl inX1_addFree_X1 3 (Nat.le_of_ble_eq_true rfl) lkX1_addFree_19 rfl dX1_addFree_31 ?_
    refine lv_iload_n C.1 C.2.1 dX1_addFree_34 rfl (lv_at hl 0 rfl) ?_
    refine lv_lconst (v := 0) C.1 C.2.1 dX1_addFree_35 (by decide) ?_
    refine o_last C S O F 3 (Nat.le_of_ble_eq_true rfl) rfl (I 0) rfl (show (I 0) < 64 from by first | omega | exact hL _ | exact hP _ | exact hF _) (Nat.le_of_ble_eq_true rfl) ⟨by omega, by omega⟩ dX1_addFree_36 (fun f H locs S O F => ?_)
    refine lv_aload_n C.1 C.2.1 dX1_addFree_37 rfl (lv_at hl 1 rfl) ?_
    refine o_get (v := .ref (a 4)) C S O rfl inX1_addFree_X1 4 (Nat.le_of_ble_eq_true rfl) lkX1_addFree_23 rfl dX1_addFree_38 ?_
    refine lv_iload_n C.1 C.2.1 dX1_addFree_41 rfl (lv_at hl 0 rfl) ?_
    refine lv_iconst (v := bI false) C.1 C.2.1 dX1_addFree_42 (by decide) ?_
    refine o_yast C S O F 4 (Nat.le_of_ble_eq_true rfl) rfl (I 0) rfl (show (I 0) < 64 from by first | omega | exact hL _ | exact hP _ | exact hF _) (Nat.le_of_ble_eq_true rfl) ⟨by omega, by omega⟩ dX1_addFree_43 (fun f H locs S O F => ?_)
    refine lv_aload_n C.1 C.2.1 dX1_addFree_44 rfl (lv_at hl 1 rfl) ?_
    refine o_get (v := .ref (a 5)) C S O rfl inX1_addFree_X1 5 (Nat.le_of_ble_eq_true rfl) lkX1_addFree_26 rfl dX1_addFree_45 ?_
    refine lv_iload_n C.1 C.2.1 dX1_addFree_48 rfl (lv_at hl 0 rfl) ?_
    refine lv_ldc2 (v := (-9223372036854775808)) C.1 C.2.1 C.2.2.2.1 (C.2.2.2.2 _ (List.mem_of_getElem? (i := 7) rfl)) dX1_addFree_49 ?_
    refine o_last C S O F 5 (Nat.le_of_ble_eq_true rfl) rfl (I 0) rfl (show (I 0) < 64 from by first | omega | exact hL _ | exact hP _ | exact hF _) (Nat.le_of_ble_eq_true rfl) ⟨by omega, by omega⟩ dX1_addFree_52 (fun f H locs S O F => ?_)
    refine lv_aload_n C.1 C.2.1 dX1_addFree_53 rfl (lv_at hl 1 rfl) ?_
    refine o_get (v := .ref (a 6)) C S O rfl inX1_addFree_X1 6 (Nat.le_of_ble_eq_true rfl) lkX1_addFree_29 rfl dX1_addFree_54 ?_
    refine lv_iload_n C.1 C.2.1 dX1_addFree_57 rfl (lv_at hl 0 rfl) ?_
    refine lv_ldc2 (v := 9223372036854775807) C.1 C.2.1 C.2.2.2.1 (C.2.2.2.2 _ (List.mem_of_getElem? (i := 9) rfl)) dX1_addFree_58 ?_
    refine o_last C S O F 6 (Nat.le_of_ble_eq_true rfl) rfl (I 0) rfl (show (I 0) < 64 from by first | omega | exact hL _ | exact hP _ | exact hF _) (Nat.le_of_ble_eq_true rfl) ⟨by omega, by omega⟩ dX1_addFree_61 (fun f H locs S O F => ?_)
    refine lv_aload_n C.1 C.2.1 dX1_addFree_62 rfl (lv_at hl 1 rfl) ?_
    refine lv_dup C.1 C.2.1 dX1_addFree_63 rfl ?_
    refine o_get (v := .int (nI (I 0))) C S O rfl inX1_addFree_X1 0 (Nat.le_of_ble_eq_true rfl) lkX1_addFree_32 rfl dX1_addFree_64 ?_
    refine lv_iconst (v := nI 1) C.1 C.2.1 dX1_addFree_67 (by decide) ?_
    refine q_iadd C dX1_addFree_68 ?_
    refine o_puti C S O F rfl inX1_addFree_X1 tyX1 tyX1_ok nmX1 0 (Nat.le_of_ble_eq_true rfl) rfl lkX1_addFree_32 rfl rfl ⟨by omega, by omega⟩ dX1_addFree_69 (fun f H locs S O F => ?_)
    refine lv_iload_n C.1 C.2.1 dX1_addFree_72 rfl (lv_at hl 0 rfl) ?_
    exact q_retQi C S hr hlk ⟨rfl, O, F⟩ dX1_addFree_73
  · exact absurd c6 (by omega)
theorem inX1_narrow_X1 : ∀ w ∈ u_ws RX1 TX1 7, w ∈ wsX1_narrow := (fun _ h => (List.mem_cons_of_mem _ (List.mem_append_right _ h)))
theorem lkX1_narrow_9 : Cond.fieldLink RX1 9 (TX1 1).1 (TX1 1).2.1 (TX1 1).2.2.1 ∈ wsX1_narrow := List.mem_of_getElem? (i := 8) rfl
theorem lkX1_narrow_23 : Cond.fieldLink RX1 23 (TX1 4).1 (TX1 4).2.1 (TX1 4).2.2.1 ∈ wsX1_narrow := List.mem_of_getElem? (i := 9) rfl
theorem lkX1_narrow_26 : Cond.fieldLink RX1 26 (TX1 5).1 (TX1 5).2.1 (TX1 5).2.2.1 ∈ wsX1_narrow := List.mem_of_getElem? (i := 10) rfl
theorem lkX1_narrow_29 : Cond.fieldLink RX1 29 (TX1 6).1 (TX1 6).2.1 (TX1 6).2.2.1 ∈ wsX1_narrow := List.mem_of_getElem? (i := 11) rfl
set_option maxHeartbeats 4000000 in
set_option maxRecDepth 100000 in
theorem c_narrow {l : Launch} {G : fw_G} {A : Nat → Prop} {f0 : fw_F} {b h : Nat} {a : Nat → Nat} {I : Nat → Nat} {N : Nat → Nat → Nat} {B : Nat → Nat → Bool} {J : Nat → Nat → Int64} (O : isO G dN f0 b h a I N B J) (x : Nat) (hx : x < 64) (hL : ∀ i, N 1 i < 64) (lo hi : Int64)  : Met l yX1_narrow wsX1_narrow ({ frames := 1, cells := 0, slots := 0, locals := 23 }) (va_Pc [.ref h, .int (nI x), .long lo, .long hi] (fw_P G A f0)) (va_Qi (fun (r : Int32) (f1 : fw_F) => r = bI (nrOk B J (N 1 x) lo hi) ∧ isO G dN f1 b h a I N (nrB B J (N 1 x) lo hi) (nrJ B J (N 1 x) lo hi) ∧ fw_fr f0 f1 b (b + 8)) (fw_B G A) A) 0 0 A := by
  refine q_head rfl (by decide) (Nat.le_of_ble_eq_true rfl) ?_
  intro p e s m below meth c ls C hr hlk hnm P hl
  have S := P.start
  have hl : lv_has ls 11 [(0, .ref h), (1, .int (nI x)), (2, .long lo), (4, .long hi)] := hl
  have F := fw_fr_rf f0 b (b + 8)
  refine lv_lload C.1 C.2.1 dX1_narrow_0 (lv_at hl 3 rfl) ?_
  refine lv_lload_n C.1 C.2.1 dX1_narrow_2 rfl (lv_at hl 2 rfl) ?_
  refine q_lcmp_ge (tgt := 9) C dX1_narrow_3 dX1_narrow_4 (by decide) (fun c3 => ?_) (fun c3 => ?_)
  · refine lv_aload_n C.1 C.2.1 dX1_narrow_9 rfl (lv_at hl 0 rfl) ?_
    refine lv_iload_n C.1 C.2.1 dX1_narrow_10 rfl (lv_at hl 1 rfl) ?_
    refine q_callSi (As := [.int (nI x)]) (rest := []) C S hl O.1 rfl (c_isKnown O x (by first | omega | exact hL _ | exact hP _ | exact hF _) hL) (cwV 1 C.2.2.2.2 gX1_narrow_X1_isKnown rfl rfl rfl (by decide +kernel) ⟨Nat.le_of_ble_eq_true rfl, Nat.le_of_ble_eq_true rfl⟩) rfl rfl (Nat.le_of_ble_eq_true rfl) ⟨Nat.le_of_ble_eq_true rfl, Nat.le_of_ble_eq_true rfl⟩ dX1_narrow_11 (fun v hv => ?_)
    subst hv
    refine q_ifeqB (tgt := 44) C dX1_narrow_14 (by decide) (fun c14 => ?_) (fun c14 => ?_)
    · refine lv_lload_n C.1 C.2.1 dX1_narrow_44 rfl (lv_at hl 2 rfl) ?_
      refine lv_aload_n C.1 C.2.1 dX1_narrow_45 rfl (lv_at hl 0 rfl) ?_
      refine lv_iload_n C.1 C.2.1 dX1_narrow_46 rfl (lv_at hl 1 rfl) ?_
      refine q_callSl (As := [.int (nI x)]) (rest := [.long lo]) C S hl O.1 rfl (c_lowOf O x (by first | omega | exact hL _ | exact hP _ | exact hF _) hL) (cwV 1 C.2.2.2.2 gX1_narrow_X1_lowOf rfl rfl rfl (by decide +kernel) ⟨Nat.le_of_ble_eq_true rfl, Nat.le_of_ble_eq_true rfl⟩) rfl rfl (Nat.le_of_ble_eq_true rfl) ⟨Nat.le_of_ble_eq_true rfl, Nat.le_of_ble_eq_true rfl⟩ dX1_narrow_47 (fun v hv => ?_)
      subst hv
      refine va_mmax_long C.1 C.2.1 (C.2.2.1.trans hl.1.symm) C.2.2.2.1 (C.2.2.2.2 _ (List.mem_of_getElem? (i := 1) rfl)) (C.2.2.2.2 _ (List.mem_of_getElem? (i := 2) rfl)) (C.2.2.2.2 _ (List.mem_of_getElem? (i := 3) rfl)) (C.2.2.2.2 _ (List.mem_of_getElem? (i := 4) rfl)) (Nat.le_of_ble_eq_true rfl) (Nat.le_of_ble_eq_true rfl) (Nat.le_of_ble_eq_true rfl) (Nat.le_of_ble_eq_true rfl) dX1_narrow_50 ?_
      refine lv_lstore (lv' := [(6, .long (lmax lo (J 5 (N 1 x)))), (0, .ref h), (1, .int (nI x)), (2, .long lo), (4, .long hi)]) C.1 C.2.1 dX1_narrow_53 hl (by decide) rfl (fun ls hl => ?_)
      refine lv_lload C.1 C.2.1 dX1_narrow_55 (lv_at hl 4 rfl) ?_
      refine lv_aload_n C.1 C.2.1 dX1_narrow_57 rfl (lv_at hl 1 rfl) ?_
      refine lv_iload_n C.1 C.2.1 dX1_narrow_58 rfl (lv_at hl 2 rfl) ?_
      refine q_callSl (As := [.int (nI x)]) (rest := [.long hi]) C S hl O.1 rfl (c_highOf O x (by first | omega | exact hL _ | exact hP _ | exact hF _) hL) (cwV 1 C.2.2.2.2 gX1_narrow_X1_highOf rfl rfl rfl (by decide +kernel) ⟨Nat.le_of_ble_eq_true rfl, Nat.le_of_ble_eq_true rfl⟩) rfl rfl (Nat.le_of_ble_eq_true rfl) ⟨Nat.le_of_ble_eq_true rfl, Nat.le_of_ble_eq_true rfl⟩ dX1_narrow_59 (fun v hv => ?_)
      subst hv
      refine va_mmin_long C.1 C.2.1 (C.2.2.1.trans hl.1.symm) C.2.2.2.1 (C.2.2.2.2 _ (List.mem_of_getElem? (i := 5) rfl)) (C.2.2.2.2 _ (List.mem_of_getElem? (i := 6) rfl)) (C.2.2.2.2 _ (List.mem_of_getElem? (i := 3) rfl)) (C.2.2.2.2 _ (List.mem_of_getElem? (i := 7) rfl)) (Nat.le_of_ble_eq_true rfl) (Nat.le_of_ble_eq_true rfl) (Nat.le_of_ble_eq_true rfl) (Nat.le_of_ble_eq_true rfl) dX1_narrow_62 ?_
      refine lv_lstore (lv' := [(8, .long (lmin hi (J 6 (N 1 x)))), (6, .long (lmax lo (J 5 (N 1 x)))), (0, .ref h), (1, .int (nI x)), (2, .long lo), (4, .long hi)]) C.1 C.2.1 dX1_narrow_65 hl (by decide) rfl (fun ls hl => ?_)
      refine lv_lload C.1 C.2.1 dX1_narrow_67 (lv_at hl 0 rfl) ?_
      refine lv_lload C.1 C.2.1 dX1_narrow_69 (lv_at hl 1 rfl) ?_
      refine q_lcmp_ge (tgt := 77) C dX1_narrow_71 dX1_narrow_72 (by decide) (fun c71 => ?_) (fun c71 => ?_)
      · refine lv_aload_n C.1 C.2.1 dX1_narrow_77 rfl (lv_at hl 2 rfl) ?_
        refine o_get (v := .ref (a 1)) C S O rfl inX1_narrow_X1 1 (Nat.le_of_ble_eq_true rfl) lkX1_narrow_9 rfl dX1_narrow_78 ?_
        refine lv_iload_n C.1 C.2.1 dX1_narrow_81 rfl (lv_at hl 3 rfl) ?_
        refine o_nald (x := (N 1) x) C S O 1 (Nat.le_of_ble_eq_true rfl) rfl x rfl (show x < 64 from by first | omega | exact hL _ | exact hP _ | exact hF _) (Nat.le_of_ble_eq_true rfl) rfl dX1_narrow_82 ?_
        refine lv_istore (lv' := [(10, .int (nI ((N 1) x))), (8, .long (lmin hi (J 6 (N 1 x)))), (6, .long (lmax lo (J 5 (N 1 x)))), (0, .ref h), (1, .int (nI x)), (2, .long lo), (4, .long hi)]) C.1 C.2.1 dX1_narrow_83 hl (by decide) rfl (fun ls hl => ?_)
        refine lv_aload_n C.1 C.2.1 dX1_narrow_85 rfl (lv_at hl 3 rfl) ?_
        refine o_get (v := .ref (a 4)) C S O rfl inX1_narrow_X1 4 (Nat.le_of_ble_eq_true rfl) lkX1_narrow_23 rfl dX1_narrow_86 ?_
        refine lv_iload C.1 C.2.1 dX1_narrow_89 (lv_at hl 0 rfl) ?_
        refine lv_iconst (v := bI true) C.1 C.2.1 dX1_narrow_91 (by decide) ?_
        refine o_yast C S O F 4 (Nat.le_of_ble_eq_true rfl) rfl ((N 1) x) rfl (show (N 1) x < 64 from by first | omega | exact hL _ | exact hP _ | exact hF _) (Nat.le_of_ble_eq_true rfl) ⟨by omega, by omega⟩ dX1_narrow_92 (fun f H locs S O F => ?_)
        refine lv_aload_n C.1 C.2.1 dX1_narrow_93 rfl (lv_at hl 3 rfl) ?_
        refine o_get (v := .ref (a 5)) C S O rfl inX1_narrow_X1 5 (Nat.le_of_ble_eq_true rfl) lkX1_narrow_26 rfl dX1_narrow_94 ?_
        refine lv_iload C.1 C.2.1 dX1_narrow_97 (lv_at hl 0 rfl) ?_
        refine lv_lload C.1 C.2.1 dX1_narrow_99 (lv_at hl 2 rfl) ?_
        refine o_last C S O F 5 (Nat.le_of_ble_eq_true rfl) rfl ((N 1) x) rfl (show (N 1) x < 64 from by first | omega | exact hL _ | exact hP _ | exact hF _) (Nat.le_of_ble_eq_true rfl) ⟨by omega, by omega⟩ dX1_narrow_101 (fun f H locs S O F => ?_)
        refine lv_aload_n C.1 C.2.1 dX1_narrow_102 rfl (lv_at hl 3 rfl) ?_
        refine o_get (v := .ref (a 6)) C S O rfl inX1_narrow_X1 6 (Nat.le_of_ble_eq_true rfl) lkX1_narrow_29 rfl dX1_narrow_103 ?_
        refine lv_iload C.1 C.2.1 dX1_narrow_106 (lv_at hl 0 rfl) ?_
        refine lv_lload C.1 C.2.1 dX1_narrow_108 (lv_at hl 1 rfl) ?_
        refine o_last C S O F 6 (Nat.le_of_ble_eq_true rfl) rfl ((N 1) x) rfl (show (N 1) x < 64 from by first | omega | exact hL _ | exact hP _ | exact hF _) (Nat.le_of_ble_eq_true rfl) ⟨by omega, by omega⟩ dX1_narrow_110 (fun f H locs S O F => ?_)
        refine lv_iconst (v := nI 1) C.1 C.2.1 dX1_narrow_111 (by decide) ?_
        exact q_retQz (b := true) C S hr hlk rfl ⟨by rw [nrOk_y c3 c14 c71], by rw [nrB_y c14 (nrOk_y c3 c14 c71), nrJ_y c14 (nrOk_y c3 c14 c71)]; exact O, F⟩ dX1_narrow_112
      · refine lv_iconst (v := nI 0) C.1 C.2.1 dX1_narrow_75 (by decide) ?_
        exact q_retQz (b := false) C S hr hlk rfl ⟨by rw [nrOk_n c14 c71], by rw [nrB_f (nrOk_n c14 c71), nrJ_f (nrOk_n c14 c71)]; exact O, F⟩ dX1_narrow_76
    · refine lv_lload_n C.1 C.2.1 dX1_narrow_17 rfl (lv_at hl 2 rfl) ?_
      refine lv_aload_n C.1 C.2.1 dX1_narrow_18 rfl (lv_at hl 0 rfl) ?_
      refine lv_iload_n C.1 C.2.1 dX1_narrow_19 rfl (lv_at hl 1 rfl) ?_
      refine q_callSl (As := [.int (nI x)]) (rest := [.long lo]) C S hl O.1 rfl (c_numberOf O x (by first | omega | exact hL _ | exact hP _ | exact hF _) hL) (cwV 1 C.2.2.2.2 gX1_narrow_X1_numberOf rfl rfl rfl (by decide +kernel) ⟨Nat.le_of_ble_eq_true rfl, Nat.le_of_ble_eq_true rfl⟩) rfl rfl (Nat.le_of_ble_eq_true rfl) ⟨Nat.le_of_ble_eq_true rfl, Nat.le_of_ble_eq_true rfl⟩ dX1_narrow_20 (fun v hv => ?_)
      subst hv
      refine q_lcmp_gt (tgt := 42) C dX1_narrow_23 dX1_narrow_24 (by decide) (fun c23 => ?_) (fun c23 => ?_)
      · refine lv_iconst (v := nI 0) C.1 C.2.1 dX1_narrow_42 (by decide) ?_
        exact q_retQz (b := false) C S hr hlk rfl ⟨by rw [nrOk_k1 c14 c23], by rw [nrB_f (nrOk_k1 c14 c23), nrJ_f (nrOk_k1 c14 c23)]; exact O, F⟩ dX1_narrow_43
      · refine lv_aload_n C.1 C.2.1 dX1_narrow_27 rfl (lv_at hl 0 rfl) ?_
        refine lv_iload_n C.1 C.2.1 dX1_narrow_28 rfl (lv_at hl 1 rfl) ?_
        refine q_callSl (As := [.int (nI x)]) (rest := []) C S hl O.1 rfl (c_numberOf O x (by first | omega | exact hL _ | exact hP _ | exact hF _) hL) (cwV 1 C.2.2.2.2 gX1_narrow_X1_numberOf rfl rfl rfl (by decide +kernel) ⟨Nat.le_of_ble_eq_true rfl, Nat.le_of_ble_eq_true rfl⟩) rfl rfl (Nat.le_of_ble_eq_true rfl) ⟨Nat.le_of_ble_eq_true rfl, Nat.le_of_ble_eq_true rfl⟩ dX1_narrow_29 (fun v hv => ?_)
        subst hv
        refine lv_lload C.1 C.2.1 dX1_narrow_32 (lv_at hl 3 rfl) ?_
        refine q_lcmp_gt (tgt := 42) C dX1_narrow_34 dX1_narrow_35 (by decide) (fun c34 => ?_) (fun c34 => ?_)
        · refine lv_iconst (v := nI 0) C.1 C.2.1 dX1_narrow_42 (by decide) ?_
          exact q_retQz (b := false) C S hr hlk rfl ⟨by rw [nrOk_k2 c14 c34], by rw [nrB_f (nrOk_k2 c14 c34), nrJ_f (nrOk_k2 c14 c34)]; exact O, F⟩ dX1_narrow_43
        · refine lv_iconst (v := nI 1) C.1 C.2.1 dX1_narrow_38 (by decide) ?_
          refine lv_goto (tgt := 43) C.1 C.2.1 dX1_narrow_39 (by decide) ?_
          exact q_retQz (b := true) C S hr hlk rfl ⟨by rw [nrOk_k c3 c14 c23 c34], by rw [nrB_k c14, nrJ_k c14]; exact O, F⟩ dX1_narrow_43
  · refine lv_iconst (v := nI 0) C.1 C.2.1 dX1_narrow_7 (by decide) ?_
    exact q_retQz (b := false) C S hr hlk rfl ⟨by rw [nrOk_b c3], by rw [nrB_f (nrOk_b c3), nrJ_f (nrOk_b c3)]; exact O, F⟩ dX1_narrow_8
end
section
/-! pure words for rows, kept rows and the search -/
theorem sh_a {B : Nat → Nat → Bool} {J : Nat → Nat → Int64} {x y : Nat} (h5 : B 4 y = false) (h33 : B 4 x = false) : shOk B J x y = true ∧ shB B J x y = B ∧ shJ B J x y = J := by
  have n5 : ¬ B 4 y = true := by rw [h5]; decide
  have n33 : ¬ B 4 x = true := by rw [h33]; decide
  simp only [shOk, shB, shJ, sh1, shB1, shJ1, if_neg n5, if_neg n33]
  exact ⟨rfl, rfl, rfl⟩
theorem sh_b {B : Nat → Nat → Bool} {J : Nat → Nat → Int64} {x y : Nat} (h5 : B 4 y = false) (h33 : B 4 x = true) : shOk B J x y = nrOk B J y (J 5 x) (J 6 x) ∧ shB B J x y = nrB B J y (J 5 x) (J 6 x) ∧ shJ B J x y = nrJ B J y (J 5 x) (J 6 x) := by
  have n5 : ¬ B 4 y = true := by rw [h5]; decide
  simp only [shOk, shB, shJ, sh1, shB1, shJ1, if_neg n5, if_pos h33]
  exact ⟨by rw [Bool.true_and], rfl, rfl⟩
theorem sh_c {B : Nat → Nat → Bool} {J : Nat → Nat → Int64} {x y : Nat} (h5 : B 4 y = true) (h : nrOk B J x (J 5 y) (J 6 y) = false) : shOk B J x y = false ∧ shB B J x y = B ∧ shJ B J x y = J := by
  have n : ¬ nrOk B J x (J 5 y) (J 6 y) = true := by rw [h]; decide
  simp only [shOk, shB, shJ, sh1, if_pos h5, if_neg n]
  exact ⟨by rw [h, Bool.false_and], trivial, trivial⟩
theorem sh_d {B : Nat → Nat → Bool} {J : Nat → Nat → Int64} {x y : Nat} (h5 : B 4 y = true) (h : nrOk B J x (J 5 y) (J 6 y) = true) (h33 : nrB B J x (J 5 y) (J 6 y) 4 x = false) : shOk B J x y = true ∧ shB B J x y = nrB B J x (J 5 y) (J 6 y) ∧ shJ B J x y = nrJ B J x (J 5 y) (J 6 y) := by
  have n : ¬ nrB B J x (J 5 y) (J 6 y) 4 x = true := by rw [h33]; decide
  simp only [shOk, shB, shJ, sh1, shB1, shJ1, if_pos h5, if_pos h, if_neg n]
  exact ⟨by rw [h, Bool.true_and], trivial, trivial⟩
theorem sh_e {B : Nat → Nat → Bool} {J : Nat → Nat → Int64} {x y : Nat} (h5 : B 4 y = true) (h : nrOk B J x (J 5 y) (J 6 y) = true) (h33 : nrB B J x (J 5 y) (J 6 y) 4 x = true) : shOk B J x y = nrOk (nrB B J x (J 5 y) (J 6 y)) (nrJ B J x (J 5 y) (J 6 y)) y (nrJ B J x (J 5 y) (J 6 y) 5 x) (nrJ B J x (J 5 y) (J 6 y) 6 x) ∧ shB B J x y = nrB (nrB B J x (J 5 y) (J 6 y)) (nrJ B J x (J 5 y) (J 6 y)) y (nrJ B J x (J 5 y) (J 6 y) 5 x) (nrJ B J x (J 5 y) (J 6 y) 6 x) ∧ shJ B J x y = nrJ (nrB B J x (J 5 y) (J 6 y)) (nrJ B J x (J 5 y) (J 6 y)) y (nrJ B J x (J 5 y) (J 6 y) 5 x) (nrJ B J x (J 5 y) (J 6 y) 6 x) := by
  simp only [shOk, shB, shJ, sh1, shB1, shJ1, if_pos h5, if_pos h, if_pos h33]
  exact ⟨by rw [h, Bool.true_and], trivial, trivial⟩
def allb (P : Nat → Bool) : Nat → Bool
  | 0 => true
  | n + 1 => allb P n && P n
theorem allb_iff {P : Nat → Bool} : ∀ {n : Nat}, allb P n = true ↔ ∀ i, i < n → P i = true
  | 0 => ⟨fun _ i h => absurd h (Nat.not_lt_zero i), fun _ => rfl⟩
  | n + 1 => by
    show (allb P n && P n) = true ↔ _
    rw [Bool.and_eq_true, allb_iff (n := n)]
    refine ⟨fun h i hi => ?_, fun h => ⟨fun i hi => h i (by omega), h n (by omega)⟩⟩
    rcases Nat.lt_or_ge i n with q | q
    · exact h.1 i q
    · rw [show i = n by omega]; exact h.2
theorem allb_t {P : Nat → Bool} {n : Nat} (h : ∀ i, i < n → P i = true) : allb P n = true := allb_iff.mpr h
theorem allb_f {P : Nat → Bool} {n i : Nat} (hi : i < n) (h : P i = false) : allb P n = false := by
  cases hb : allb P n with
  | false => rfl
  | true => rw [allb_iff.mp hb i hi] at h; cases h
def anyb (P : Nat → Bool) : Nat → Bool
  | 0 => false
  | n + 1 => anyb P n || P n
theorem anyb_iff {P : Nat → Bool} : ∀ {n : Nat}, anyb P n = true ↔ ∃ i, i < n ∧ P i = true
  | 0 => ⟨fun h => (by cases h), fun ⟨i, h, _⟩ => absurd h (Nat.not_lt_zero i)⟩
  | n + 1 => by
    show (anyb P n || P n) = true ↔ _
    rw [Bool.or_eq_true, anyb_iff (n := n)]
    constructor
    · rintro (⟨i, h1, h2⟩ | h)
      · exact ⟨i, by omega, h2⟩
      · exact ⟨n, by omega, h⟩
    · rintro ⟨i, h1, h2⟩
      rcases Nat.lt_or_ge i n with q | q
      · exact Or.inl ⟨i, q, h2⟩
      · rw [show i = n by omega] at h2; exact Or.inr h2
theorem anyb_t {P : Nat → Bool} {n i : Nat} (hi : i < n) (h : P i = true) : anyb P n = true := anyb_iff.mpr ⟨i, hi, h⟩
theorem anyb_f {P : Nat → Bool} {n : Nat} (h : ∀ i, i < n → P i = false) : anyb P n = false := by
  cases hb : anyb P n with
  | false => rfl
  | true =>
    obtain ⟨i, h1, h2⟩ := anyb_iff.mp hb
    rw [h i h1] at h2; cases h2
theorem anyb_congr {P Q : Nat → Bool} {n : Nat} (h : ∀ i, i < n → P i = Q i) : anyb P n = anyb Q n := by
  induction n with
  | zero => rfl
  | succ n ih =>
    show (anyb P n || P n) = (anyb Q n || Q n)
    rw [ih (fun i hi => h i (by omega)), h n (by omega)]
theorem allb_congr {P Q : Nat → Bool} {n : Nat} (h : ∀ i, i < n → P i = Q i) : allb P n = allb Q n := by
  induction n with
  | zero => rfl
  | succ n ih =>
    show (allb P n && P n) = (allb Q n && Q n)
    rw [ih (fun i hi => h i (by omega)), h n (by omega)]
theorem cnt_congr {P Q : Nat → Bool} {n : Nat} (h : ∀ i, i < n → P i = Q i) : cnt P n = cnt Q n := by
  induction n with
  | zero => rfl
  | succ n ih =>
    show cnt P n + (if P n = true then 1 else 0) = cnt Q n + (if Q n = true then 1 else 0)
    rw [ih (fun i hi => h i (by omega)), h n (by omega)]
def sumL (g : Nat → Int64) : Nat → Int64
  | 0 => 0
  | n + 1 => sumL g n + g n
theorem sumL_congr {g k : Nat → Int64} {n : Nat} (h : ∀ i, i < n → g i = k i) : sumL g n = sumL k n := by
  induction n with
  | zero => rfl
  | succ n ih =>
    show sumL g n + g n = sumL k n + k n
    rw [ih (fun i hi => h i (by omega)), h n (by omega)]
def unl (v : Nat → Int64) (n : Nat) : Bool := allb (fun i => allb (fun j => !decide (v j = v i)) i) n
theorem unl_iff {v : Nat → Int64} {n : Nat} : unl v n = true ↔ ∀ i j, i < n → j < i → v j ≠ v i := by
  unfold unl
  rw [allb_iff]
  constructor
  · intro h i j hi hj
    have := allb_iff.mp (h i hi) j hj
    simpa using this
  · intro h i hi
    rw [allb_iff]
    intro j hj
    have := h i j hi hj
    simpa using this
theorem unl_f {v : Nat → Int64} {n i j : Nat} (hi : i < n) (hj : j < i) (h : v j = v i) : unl v n = false := by
  cases hb : unl v n with
  | false => rfl
  | true => exact absurd h (unl_iff.mp hb i j hi hj)
theorem unl_congr {v u : Nat → Int64} {n : Nat} (h : ∀ i, i < n → v i = u i) : unl v n = unl u n := by
  unfold unl
  refine allb_congr fun i hi => allb_congr fun j hj => ?_
  rw [h i hi, h j (by omega)]
/-- a row's own check: kind, k, factors, numbers, how many -/
def soF (kind : Nat) (k : Int64) (g v : Nat → Int64) (n : Nat) : Bool := if kind = 0 then decide (sumL (fun i => g i * v i) n ≤ k) else if kind = 1 then decide (sumL (fun i => g i * v i) n = k) else unl v n
theorem soF_congr {kind : Nat} {k : Int64} {g g' v v' : Nat → Int64} {n : Nat} (hg : ∀ i, i < n → g i = g' i) (hv : ∀ i, i < n → v i = v' i) : soF kind k g v n = soF kind k g' v' n := by
  unfold soF
  rw [sumL_congr (g := fun i => g i * v i) (k := fun i => g' i * v' i) (fun i hi => by rw [hg i hi, hv i hi]), unl_congr hv]
def mI (k : Nat) : Int32 := if k = 0 then -1 else nI (k - 1)
theorem mI_0 : mI 0 = -1 := rfl
theorem mI_s (k : Nat) : mI (k + 1) = nI k := by unfold mI; rw [if_neg (by omega)]; rfl
theorem mI_int {k : Nat} (h : k < 2 ^ 31) : (mI k).toInt = (k : Int) - 1 := by
  cases k with
  | zero => rfl
  | succ k => rw [mI_s, nI_toInt (by omega)]; omega
theorem mI_ne {k : Nat} (h : k < 2 ^ 31) : mI k = -1 ↔ k = 0 := by
  constructor
  · intro q
    have := congrArg Int32.toInt q
    rw [mI_int h, show (-1 : Int32).toInt = -1 from rfl] at this
    omega
  · intro q; subst q; rfl
theorem mI_mx {a b : Nat} (ha : a < 2 ^ 31) (hb : b < 2 ^ 31) : (if mI a < mI b then mI b else mI a) = mI (max a b) := by
  by_cases h : a < b
  · rw [if_pos (by rw [Int32.lt_iff_toInt_lt, mI_int ha, mI_int hb]; omega), Nat.max_eq_right (by omega)]
  · rw [if_neg (by rw [Int32.lt_iff_toInt_lt, mI_int ha, mI_int hb]; omega), Nat.max_eq_left (by omega)]
theorem mI_eq {a b : Nat} (ha : a < 2 ^ 31) (hb : b < 2 ^ 31) : mI a = nI b ↔ a = b + 1 := by
  constructor
  · intro q
    have := congrArg Int32.toInt q
    rw [mI_int ha, nI_toInt hb] at this
    omega
  · intro q; subst q; exact mI_s b
/-- the place of x among the first n, plus one; 0 if it isn't there -/
def levF (fr : Nat → Nat) : Nat → Nat → Nat
  | 0, _ => 0
  | n + 1, x => if levF fr n x ≠ 0 then levF fr n x else if fr n = x then n + 1 else 0
theorem levF_0 {fr : Nat → Nat} {x : Nat} : ∀ {n : Nat}, (∀ i, i < n → fr i ≠ x) → levF fr n x = 0
  | 0, _ => rfl
  | n + 1, h => by
    show (if levF fr n x ≠ 0 then levF fr n x else if fr n = x then n + 1 else 0) = 0
    rw [levF_0 (fun i hi => h i (by omega)), if_neg (fun q => q rfl), if_neg (h n (by omega))]
theorem levF_at {fr : Nat → Nat} {x k : Nat} (hx : fr k = x) (hb : ∀ i, i < k → fr i ≠ x) : ∀ {n : Nat}, k < n → levF fr n x = k + 1
  | 0, h => absurd h (Nat.not_lt_zero k)
  | n + 1, h => by
    show (if levF fr n x ≠ 0 then levF fr n x else if fr n = x then n + 1 else 0) = k + 1
    rcases Nat.lt_or_ge k n with q | q
    · rw [levF_at hx hb q, if_pos (by omega)]
    · have hk : k = n := by omega
      subst hk
      rw [levF_0 hb, if_neg (fun q => q rfl), if_pos hx]
theorem levF_le {fr : Nat → Nat} {x : Nat} : ∀ {n : Nat}, levF fr n x ≤ n
  | 0 => Nat.le_refl 0
  | n + 1 => by
    have := levF_le (fr := fr) (x := x) (n := n)
    show (if levF fr n x ≠ 0 then levF fr n x else if fr n = x then n + 1 else 0) ≤ n + 1
    split
    · omega
    · split <;> omega
theorem levF_ne0 {fr : Nat → Nat} {x : Nat} : ∀ {n : Nat}, levF fr n x ≠ 0 → ∃ k, k < n ∧ fr k = x ∧ levF fr n x = k + 1
  | 0, h => absurd rfl h
  | n + 1, h => by
    by_cases h1 : levF fr n x ≠ 0
    · obtain ⟨k, a, b, c⟩ := levF_ne0 h1
      exact ⟨k, by omega, b, by show (if levF fr n x ≠ 0 then levF fr n x else if fr n = x then n + 1 else 0) = _; rw [if_pos h1, c]⟩
    · by_cases h2 : fr n = x
      · exact ⟨n, by omega, h2, by show (if levF fr n x ≠ 0 then levF fr n x else if fr n = x then n + 1 else 0) = _; rw [if_neg h1, if_pos h2]⟩
      · exact absurd (by show (if levF fr n x ≠ 0 then levF fr n x else if fr n = x then n + 1 else 0) = _; rw [if_neg h1, if_neg h2]) h
theorem levF_iff {fr : Nat → Nat} {x n : Nat} : levF fr n x = 0 ↔ ∀ i, i < n → fr i ≠ x := by
  constructor
  · intro h i hi q
    obtain ⟨k, hk, hb⟩ := pk_least (fun j => fr j = x) ⟨i, q⟩
    have hki : k ≤ i := by
      rcases Nat.lt_or_ge i k with z | z
      · exact absurd q (hb i z)
      · exact z
    rw [levF_at hk hb (by omega)] at h
    omega
  · exact levF_0
/-- the greatest level plus one of the unknown places of a row; 9 for one that is no free name -/
def lastF (pl : Nat → Nat) (L : Nat → Nat) (K : Nat → Bool) (fr : Nat → Nat) (c : Nat) : Nat → Nat
  | 0 => 0
  | n + 1 => if K (L (pl n)) = true then lastF pl L K fr c n else max (lastF pl L K fr c n) (if levF fr c (L (pl n)) = 0 then 9 else levF fr c (L (pl n)))
theorem lastF_le {pl L : Nat → Nat} {K : Nat → Bool} {fr : Nat → Nat} {c : Nat} : ∀ {n : Nat}, lastF pl L K fr c n ≤ max 9 c
  | 0 => Nat.zero_le _
  | n + 1 => by
    have h1 := lastF_le (pl := pl) (L := L) (K := K) (fr := fr) (c := c) (n := n)
    have h2 := levF_le (fr := fr) (x := L (pl n)) (n := c)
    show (if K (L (pl n)) = true then lastF pl L K fr c n else max (lastF pl L K fr c n) (if levF fr c (L (pl n)) = 0 then 9 else levF fr c (L (pl n)))) ≤ max 9 c
    split
    · exact h1
    · split <;> omega
theorem up_id {α : Type} (g : Nat → α) (k : Nat) : va_up g k (g k) = g := by
  funext j; unfold va_up; split
  · rename_i h; rw [h]
  · rfl
theorem lastF_k {pl L : Nat → Nat} {K : Nat → Bool} {fr : Nat → Nat} {c n : Nat} (h : K (L (pl n)) = true) : lastF pl L K fr c (n + 1) = lastF pl L K fr c n := if_pos h
theorem lastF_u {pl L : Nat → Nat} {K : Nat → Bool} {fr : Nat → Nat} {c n : Nat} (h : K (L (pl n)) = false) : lastF pl L K fr c (n + 1) = max (lastF pl L K fr c n) (if levF fr c (L (pl n)) = 0 then 9 else levF fr c (L (pl n))) := if_neg (by rw [h]; decide)
/-- the free names of a row: how many, and which -/
def gth (pl L : Nat → Nat) (K : Nat → Bool) (c0 : Nat) (fr0 : Nat → Nat) : Nat → Nat × (Nat → Nat)
  | 0 => (c0, fr0)
  | n + 1 => if K (L (L (pl n))) = false ∧ levF (gth pl L K c0 fr0 n).2 (gth pl L K c0 fr0 n).1 (L (pl n)) = 0 then ((gth pl L K c0 fr0 n).1 + 1, va_up (gth pl L K c0 fr0 n).2 (gth pl L K c0 fr0 n).1 (L (pl n))) else gth pl L K c0 fr0 n
theorem gth_y {pl L : Nat → Nat} {K : Nat → Bool} {c0 : Nat} {fr0 : Nat → Nat} {n : Nat} (h1 : K (L (L (pl n))) = false) (h2 : levF (gth pl L K c0 fr0 n).2 (gth pl L K c0 fr0 n).1 (L (pl n)) = 0) : gth pl L K c0 fr0 (n + 1) = ((gth pl L K c0 fr0 n).1 + 1, va_up (gth pl L K c0 fr0 n).2 (gth pl L K c0 fr0 n).1 (L (pl n))) := if_pos ⟨h1, h2⟩
theorem gth_k {pl L : Nat → Nat} {K : Nat → Bool} {c0 : Nat} {fr0 : Nat → Nat} {n : Nat} (h1 : K (L (L (pl n))) = true) : gth pl L K c0 fr0 (n + 1) = gth pl L K c0 fr0 n := if_neg (fun q => by rw [h1] at q; exact absurd q.1 (by decide))
theorem gth_o {pl L : Nat → Nat} {K : Nat → Bool} {c0 : Nat} {fr0 : Nat → Nat} {n : Nat} (h2 : levF (gth pl L K c0 fr0 n).2 (gth pl L K c0 fr0 n).1 (L (pl n)) ≠ 0) : gth pl L K c0 fr0 (n + 1) = gth pl L K c0 fr0 n := if_neg (fun q => h2 q.2)
def wset (W : Nat → Int64) (base m : Nat) (v : Nat → Int64) : Nat → Int64 := fun i => if base ≤ i ∧ i < base + m then v (i - base) else W i
theorem wset_0 (W : Nat → Int64) (base : Nat) (v : Nat → Int64) : wset W base 0 v = W := by
  funext i; unfold wset; rw [if_neg (by omega)]
theorem wset_s (W : Nat → Int64) (base m : Nat) (v : Nat → Int64) : wset W base (m + 1) v = va_up (wset W base m v) (base + m) (v m) := by
  funext i
  unfold wset va_up
  by_cases hi : i = base + m
  · subst hi
    rw [if_pos (by omega), if_pos rfl, show base + m - base = m by omega]
  · rw [if_neg hi]
    dsimp only
    by_cases h : base ≤ i ∧ i < base + m
    · rw [if_pos h, if_pos (by omega)]
    · rw [if_neg h, if_neg (by omega)]
end
section
set_option maxHeartbeats 4000000 in
set_option maxRecDepth 100000 in
theorem c_shareSpans {l : Launch} {G : fw_G} {A : Nat → Prop} {f0 : fw_F} {b h : Nat} {a : Nat → Nat} {I : Nat → Nat} {N : Nat → Nat → Nat} {B : Nat → Nat → Bool} {J : Nat → Nat → Int64} (O : isO G dN f0 b h a I N B J) (x y : Nat) (hx : x < 64) (hy : y < 64) (hL : ∀ i, N 1 i < 64)  : Met l yX1_shareSpans wsX1_shareSpans ({ frames := 2, cells := 0, slots := 0, locals := 53 }) (va_Pc [.ref h, .int (nI x), .int (nI y)] (fw_P G A f0)) (va_Qi (fun (r : Int32) (f1 : fw_F) => r = bI (shOk B J (N 1 x) (N 1 y)) ∧ isO G dN f1 b h a I N (shB B J (N 1 x) (N 1 y)) (shJ B J (N 1 x) (N 1 y)) ∧ fw_fr f0 f1 b (b + 8)) (fw_B G A) A) 0 0 A := by
  refine q_head rfl (by decide) (Nat.le_of_ble_eq_true rfl) ?_
  intro p e s m below meth c ls C hr hlk hnm P hl
  have S := P.start
  have hl : lv_has ls 3 [(0, .ref h), (1, .int (nI x)), (2, .int (nI y))] := hl
  have F := fw_fr_rf f0 b (b + 8)
  refine lv_aload_n C.1 C.2.1 dX1_shareSpans_0 rfl (lv_at hl 0 rfl) ?_
  refine lv_iload_n C.1 C.2.1 dX1_shareSpans_1 rfl (lv_at hl 2 rfl) ?_
  refine q_callSi (As := [.int (nI y)]) (rest := []) C S hl O.1 rfl (c_hasSpan O y (by first | omega | exact hL _ | exact hP _ | exact hF _) hL) (cwV 1 C.2.2.2.2 gX1_shareSpans_X1_hasSpan rfl rfl rfl (by decide +kernel) ⟨Nat.le_of_ble_eq_true rfl, Nat.le_of_ble_eq_true rfl⟩) rfl rfl (Nat.le_of_ble_eq_true rfl) ⟨Nat.le_of_ble_eq_true rfl, Nat.le_of_ble_eq_true rfl⟩ dX1_shareSpans_2 (fun v hv => ?_)
  subst hv
  refine q_ifeqB (tgt := 28) C dX1_shareSpans_5 (by decide) (fun c5 => ?_) (fun c5 => ?_)
  · refine lv_aload_n C.1 C.2.1 dX1_shareSpans_28 rfl (lv_at hl 0 rfl) ?_
    refine lv_iload_n C.1 C.2.1 dX1_shareSpans_29 rfl (lv_at hl 1 rfl) ?_
    refine q_callSi (As := [.int (nI x)]) (rest := []) C S hl O.1 rfl (c_hasSpan O x (by first | omega | exact hL _ | exact hP _ | exact hF _) hL) (cwV 1 C.2.2.2.2 gX1_shareSpans_X1_hasSpan rfl rfl rfl (by decide +kernel) ⟨Nat.le_of_ble_eq_true rfl, Nat.le_of_ble_eq_true rfl⟩) rfl rfl (Nat.le_of_ble_eq_true rfl) ⟨Nat.le_of_ble_eq_true rfl, Nat.le_of_ble_eq_true rfl⟩ dX1_shareSpans_30 (fun v hv => ?_)
    subst hv
    refine q_ifeqB (tgt := 54) C dX1_shareSpans_33 (by decide) (fun c33 => ?_) (fun c33 => ?_)
    · refine lv_iconst (v := nI 1) C.1 C.2.1 dX1_shareSpans_54 (by decide) ?_
      refine lv_goto (tgt := 59) C.1 C.2.1 dX1_shareSpans_55 (by decide) ?_
      exact q_retQz (b := true) C S hr hlk rfl ⟨by rw [(sh_a c5 c33).1], by rw [(sh_a c5 c33).2.1, (sh_a c5 c33).2.2]; exact O, F⟩ dX1_shareSpans_59
    · refine lv_aload_n C.1 C.2.1 dX1_shareSpans_36 rfl (lv_at hl 0 rfl) ?_
      refine lv_iload_n C.1 C.2.1 dX1_shareSpans_37 rfl (lv_at hl 2 rfl) ?_
      refine lv_aload_n C.1 C.2.1 dX1_shareSpans_38 rfl (lv_at hl 0 rfl) ?_
      refine lv_iload_n C.1 C.2.1 dX1_shareSpans_39 rfl (lv_at hl 1 rfl) ?_
      refine q_callSl (As := [.int (nI x)]) (rest := [.int (nI y), .ref h]) C S hl O.1 rfl (c_lowOf O x (by first | omega | exact hL _ | exact hP _ | exact hF _) hL) (cwV 1 C.2.2.2.2 gX1_shareSpans_X1_lowOf rfl rfl rfl (by decide +kernel) ⟨Nat.le_of_ble_eq_true rfl, Nat.le_of_ble_eq_true rfl⟩) rfl rfl (Nat.le_of_ble_eq_true rfl) ⟨Nat.le_of_ble_eq_true rfl, Nat.le_of_ble_eq_true rfl⟩ dX1_shareSpans_40 (fun v hv => ?_)
      subst hv
      refine lv_aload_n C.1 C.2.1 dX1_shareSpans_43 rfl (lv_at hl 0 rfl) ?_
      refine lv_iload_n C.1 C.2.1 dX1_shareSpans_44 rfl (lv_at hl 1 rfl) ?_
      refine q_callSl (As := [.int (nI x)]) (rest := [.long ((J 5) ((N 1) x)), .int (nI y), .ref h]) C S hl O.1 rfl (c_highOf O x (by first | omega | exact hL _ | exact hP _ | exact hF _) hL) (cwV 1 C.2.2.2.2 gX1_shareSpans_X1_highOf rfl rfl rfl (by decide +kernel) ⟨Nat.le_of_ble_eq_true rfl, Nat.le_of_ble_eq_true rfl⟩) rfl rfl (Nat.le_of_ble_eq_true rfl) ⟨Nat.le_of_ble_eq_true rfl, Nat.le_of_ble_eq_true rfl⟩ dX1_shareSpans_45 (fun v hv => ?_)
      subst hv
      refine q_callQi (As := [.int (nI y), .long ((J 5) ((N 1) x)), .long ((J 6) ((N 1) x))]) (rest := []) C S hl O.1 rfl (c_narrow O y (by first | omega | exact hL _ | exact hP _ | exact hF _) hL ((J 5) ((N 1) x)) ((J 6) ((N 1) x))) (cwV 3 C.2.2.2.2 gX1_shareSpans_X1_narrow rfl rfl rfl (by decide +kernel) ⟨Nat.le_of_ble_eq_true rfl, Nat.le_of_ble_eq_true rfl⟩) rfl rfl (Nat.le_of_ble_eq_true rfl) ⟨Nat.le_of_ble_eq_true rfl, Nat.le_of_ble_eq_true rfl⟩ dX1_shareSpans_48 (fun v f H locs hv S => ?_)
      obtain ⟨rfl, O, F1⟩ := hv
      have F := fw_fr_tr F F1
      refine q_ifeqB (tgt := 58) C dX1_shareSpans_51 (by decide) (fun c51 => ?_) (fun c51 => ?_)
      · refine lv_iconst (v := nI 0) C.1 C.2.1 dX1_shareSpans_58 (by decide) ?_
        exact q_retQz (b := false) C S hr hlk rfl ⟨by rw [(sh_b c5 c33).1, c51], by rw [(sh_b c5 c33).2.1, (sh_b c5 c33).2.2]; exact O, F⟩ dX1_shareSpans_59
      · refine lv_iconst (v := nI 1) C.1 C.2.1 dX1_shareSpans_54 (by decide) ?_
        refine lv_goto (tgt := 59) C.1 C.2.1 dX1_shareSpans_55 (by decide) ?_
        exact q_retQz (b := true) C S hr hlk rfl ⟨by rw [(sh_b c5 c33).1, c51], by rw [(sh_b c5 c33).2.1, (sh_b c5 c33).2.2]; exact O, F⟩ dX1_shareSpans_59
  · refine lv_aload_n C.1 C.2.1 dX1_shareSpans_8 rfl (lv_at hl 0 rfl) ?_
    refine lv_iload_n C.1 C.2.1 dX1_shareSpans_9 rfl (lv_at hl 1 rfl) ?_
    refine lv_aload_n C.1 C.2.1 dX1_shareSpans_10 rfl (lv_at hl 0 rfl) ?_
    refine lv_iload_n C.1 C.2.1 dX1_shareSpans_11 rfl (lv_at hl 2 rfl) ?_
    refine q_callSl (As := [.int (nI y)]) (rest := [.int (nI x), .ref h]) C S hl O.1 rfl (c_lowOf O y (by first | omega | exact hL _ | exact hP _ | exact hF _) hL) (cwV 1 C.2.2.2.2 gX1_shareSpans_X1_lowOf rfl rfl rfl (by decide +kernel) ⟨Nat.le_of_ble_eq_true rfl, Nat.le_of_ble_eq_true rfl⟩) rfl rfl (Nat.le_of_ble_eq_true rfl) ⟨Nat.le_of_ble_eq_true rfl, Nat.le_of_ble_eq_true rfl⟩ dX1_shareSpans_12 (fun v hv => ?_)
    subst hv
    refine lv_aload_n C.1 C.2.1 dX1_shareSpans_15 rfl (lv_at hl 0 rfl) ?_
    refine lv_iload_n C.1 C.2.1 dX1_shareSpans_16 rfl (lv_at hl 2 rfl) ?_
    refine q_callSl (As := [.int (nI y)]) (rest := [.long ((J 5) ((N 1) y)), .int (nI x), .ref h]) C S hl O.1 rfl (c_highOf O y (by first | omega | exact hL _ | exact hP _ | exact hF _) hL) (cwV 1 C.2.2.2.2 gX1_shareSpans_X1_highOf rfl rfl rfl (by decide +kernel) ⟨Nat.le_of_ble_eq_true rfl, Nat.le_of_ble_eq_true rfl⟩) rfl rfl (Nat.le_of_ble_eq_true rfl) ⟨Nat.le_of_ble_eq_true rfl, Nat.le_of_ble_eq_true rfl⟩ dX1_shareSpans_17 (fun v hv => ?_)
    subst hv
    refine q_callQi (As := [.int (nI x), .long ((J 5) ((N 1) y)), .long ((J 6) ((N 1) y))]) (rest := []) C S hl O.1 rfl (c_narrow O x (by first | omega | exact hL _ | exact hP _ | exact hF _) hL ((J 5) ((N 1) y)) ((J 6) ((N 1) y))) (cwV 3 C.2.2.2.2 gX1_shareSpans_X1_narrow rfl rfl rfl (by decide +kernel) ⟨Nat.le_of_ble_eq_true rfl, Nat.le_of_ble_eq_true rfl⟩) rfl rfl (Nat.le_of_ble_eq_true rfl) ⟨Nat.le_of_ble_eq_true rfl, Nat.le_of_ble_eq_true rfl⟩ dX1_shareSpans_20 (fun v f H locs hv S => ?_)
    obtain ⟨rfl, O, F1⟩ := hv
    have F := fw_fr_tr F F1
    refine q_ifneB (tgt := 28) C dX1_shareSpans_23 (by decide) (fun c23 => ?_) (fun c23 => ?_)
    · refine lv_aload_n C.1 C.2.1 dX1_shareSpans_28 rfl (lv_at hl 0 rfl) ?_
      refine lv_iload_n C.1 C.2.1 dX1_shareSpans_29 rfl (lv_at hl 1 rfl) ?_
      refine q_callSi (As := [.int (nI x)]) (rest := []) C S hl O.1 rfl (c_hasSpan O x (by first | omega | exact hL _ | exact hP _ | exact hF _) hL) (cwV 1 C.2.2.2.2 gX1_shareSpans_X1_hasSpan rfl rfl rfl (by decide +kernel) ⟨Nat.le_of_ble_eq_true rfl, Nat.le_of_ble_eq_true rfl⟩) rfl rfl (Nat.le_of_ble_eq_true rfl) ⟨Nat.le_of_ble_eq_true rfl, Nat.le_of_ble_eq_true rfl⟩ dX1_shareSpans_30 (fun v hv => ?_)
      subst hv
      refine q_ifeqB (tgt := 54) C dX1_shareSpans_33 (by decide) (fun c33 => ?_) (fun c33 => ?_)
      · refine lv_iconst (v := nI 1) C.1 C.2.1 dX1_shareSpans_54 (by decide) ?_
        refine lv_goto (tgt := 59) C.1 C.2.1 dX1_shareSpans_55 (by decide) ?_
        exact q_retQz (b := true) C S hr hlk rfl ⟨by rw [(sh_d c5 c23 c33).1], by rw [(sh_d c5 c23 c33).2.1, (sh_d c5 c23 c33).2.2]; exact O, F⟩ dX1_shareSpans_59
      · refine lv_aload_n C.1 C.2.1 dX1_shareSpans_36 rfl (lv_at hl 0 rfl) ?_
        refine lv_iload_n C.1 C.2.1 dX1_shareSpans_37 rfl (lv_at hl 2 rfl) ?_
        refine lv_aload_n C.1 C.2.1 dX1_shareSpans_38 rfl (lv_at hl 0 rfl) ?_
        refine lv_iload_n C.1 C.2.1 dX1_shareSpans_39 rfl (lv_at hl 1 rfl) ?_
        refine q_callSl (As := [.int (nI x)]) (rest := [.int (nI y), .ref h]) C S hl O.1 rfl (c_lowOf O x (by first | omega | exact hL _ | exact hP _ | exact hF _) hL) (cwV 1 C.2.2.2.2 gX1_shareSpans_X1_lowOf rfl rfl rfl (by decide +kernel) ⟨Nat.le_of_ble_eq_true rfl, Nat.le_of_ble_eq_true rfl⟩) rfl rfl (Nat.le_of_ble_eq_true rfl) ⟨Nat.le_of_ble_eq_true rfl, Nat.le_of_ble_eq_true rfl⟩ dX1_shareSpans_40 (fun v hv => ?_)
        subst hv
        refine lv_aload_n C.1 C.2.1 dX1_shareSpans_43 rfl (lv_at hl 0 rfl) ?_
        refine lv_iload_n C.1 C.2.1 dX1_shareSpans_44 rfl (lv_at hl 1 rfl) ?_
        refine q_callSl (As := [.int (nI x)]) (rest := [.long (((nrJ B J ((N 1) x) ((J 5) ((N 1) y)) ((J 6) ((N 1) y))) 5) ((N 1) x)), .int (nI y), .ref h]) C S hl O.1 rfl (c_highOf O x (by first | omega | exact hL _ | exact hP _ | exact hF _) hL) (cwV 1 C.2.2.2.2 gX1_shareSpans_X1_highOf rfl rfl rfl (by decide +kernel) ⟨Nat.le_of_ble_eq_true rfl, Nat.le_of_ble_eq_true rfl⟩) rfl rfl (Nat.le_of_ble_eq_true rfl) ⟨Nat.le_of_ble_eq_true rfl, Nat.le_of_ble_eq_true rfl⟩ dX1_shareSpans_45 (fun v hv => ?_)
        subst hv
        refine q_callQi (As := [.int (nI y), .long (((nrJ B J ((N 1) x) ((J 5) ((N 1) y)) ((J 6) ((N 1) y))) 5) ((N 1) x)), .long (((nrJ B J ((N 1) x) ((J 5) ((N 1) y)) ((J 6) ((N 1) y))) 6) ((N 1) x))]) (rest := []) C S hl O.1 rfl (c_narrow O y (by first | omega | exact hL _ | exact hP _ | exact hF _) hL (((nrJ B J ((N 1) x) ((J 5) ((N 1) y)) ((J 6) ((N 1) y))) 5) ((N 1) x)) (((nrJ B J ((N 1) x) ((J 5) ((N 1) y)) ((J 6) ((N 1) y))) 6) ((N 1) x))) (cwV 3 C.2.2.2.2 gX1_shareSpans_X1_narrow rfl rfl rfl (by decide +kernel) ⟨Nat.le_of_ble_eq_true rfl, Nat.le_of_ble_eq_true rfl⟩) rfl rfl (Nat.le_of_ble_eq_true rfl) ⟨Nat.le_of_ble_eq_true rfl, Nat.le_of_ble_eq_true rfl⟩ dX1_shareSpans_48 (fun v f H locs hv S => ?_)
        obtain ⟨rfl, O, F1⟩ := hv
        have F := fw_fr_tr F F1
        refine q_ifeqB (tgt := 58) C dX1_shareSpans_51 (by decide) (fun c51 => ?_) (fun c51 => ?_)
        · refine lv_iconst (v := nI 0) C.1 C.2.1 dX1_shareSpans_58 (by decide) ?_
          exact q_retQz (b := false) C S hr hlk rfl ⟨by rw [(sh_e c5 c23 c33).1, c51], by rw [(sh_e c5 c23 c33).2.1, (sh_e c5 c23 c33).2.2]; exact O, F⟩ dX1_shareSpans_59
        · refine lv_iconst (v := nI 1) C.1 C.2.1 dX1_shareSpans_54 (by decide) ?_
          refine lv_goto (tgt := 59) C.1 C.2.1 dX1_shareSpans_55 (by decide) ?_
          exact q_retQz (b := true) C S hr hlk rfl ⟨by rw [(sh_e c5 c23 c33).1, c51], by rw [(sh_e c5 c23 c33).2.1, (sh_e c5 c23 c33).2.2]; exact O, F⟩ dX1_shareSpans_59
    · refine lv_iconst (v := nI 0) C.1 C.2.1 dX1_shareSpans_26 (by decide) ?_
      exact q_retQz (b := false) C S hr hlk rfl ⟨by rw [(sh_c c5 c23).1], by rw [(sh_c c5 c23).2.1, (sh_c c5 c23).2.2]; rw [nrB_f c23, nrJ_f c23] at O; exact O, F⟩ dX1_shareSpans_27
theorem inX1_copyFrom_X1 : ∀ w ∈ u_ws RX1 TX1 7, w ∈ wsX1_copyFrom := (fun _ h => (List.mem_cons_of_mem _ (List.mem_append_right _ h)))
theorem lkX1_copyFrom_32 : Cond.fieldLink RX1 32 (TX1 0).1 (TX1 0).2.1 (TX1 0).2.2.1 ∈ wsX1_copyFrom := List.mem_of_getElem? (i := 1) rfl
theorem lkX1_copyFrom_9 : Cond.fieldLink RX1 9 (TX1 1).1 (TX1 1).2.1 (TX1 1).2.2.1 ∈ wsX1_copyFrom := List.mem_of_getElem? (i := 2) rfl
theorem lkX1_copyFrom_15 : Cond.fieldLink RX1 15 (TX1 2).1 (TX1 2).2.1 (TX1 2).2.2.1 ∈ wsX1_copyFrom := List.mem_of_getElem? (i := 3) rfl
theorem lkX1_copyFrom_19 : Cond.fieldLink RX1 19 (TX1 3).1 (TX1 3).2.1 (TX1 3).2.2.1 ∈ wsX1_copyFrom := List.mem_of_getElem? (i := 4) rfl
theorem lkX1_copyFrom_23 : Cond.fieldLink RX1 23 (TX1 4).1 (TX1 4).2.1 (TX1 4).2.2.1 ∈ wsX1_copyFrom := List.mem_of_getElem? (i := 5) rfl
theorem lkX1_copyFrom_26 : Cond.fieldLink RX1 26 (TX1 5).1 (TX1 5).2.1 (TX1 5).2.2.1 ∈ wsX1_copyFrom := List.mem_of_getElem? (i := 6) rfl
theorem lkX1_copyFrom_29 : Cond.fieldLink RX1 29 (TX1 6).1 (TX1 6).2.1 (TX1 6).2.2.1 ∈ wsX1_copyFrom := List.mem_of_getElem? (i := 7) rfl
set_option maxHeartbeats 4000000 in
set_option maxRecDepth 100000 in
theorem c_copyFrom {l : Launch} {G : fw_G} {A : Nat → Prop} {f0 : fw_F} {b h : Nat} {a : Nat → Nat} {I : Nat → Nat} {N : Nat → Nat → Nat} {B : Nat → Nat → Bool} {J : Nat → Nat → Int64} {b2 h2 : Nat} {a2 : Nat → Nat} {I2 : Nat → Nat} {N2 : Nat → Nat → Nat} {B2 : Nat → Nat → Bool} {J2 : Nat → Nat → Int64} (O : isO G dN f0 b h a I N B J) (O2 : isO G dN f0 b2 h2 a2 I2 N2 B2 J2) (hd : b2 + 8 ≤ b ∨ b + 8 ≤ b2) (hn2 : I2 0 ≤ 64) (hL : ∀ i, N 1 i < 64) (hL2 : ∀ i, N2 1 i < 64)  : Met l yX1_copyFrom wsX1_copyFrom ({ frames := 0, cells := 0, slots := 0, locals := 0 }) (va_Pc [.ref h, .ref h2] (fw_P G A f0)) (va_Qv (fun (f1 : fw_F) => ∃ N' B' J', isO G dN f1 b h a (va_up I 0 (I2 0)) N' B' J' ∧ (∀ i, i < I2 0 → N' 1 i = N2 1 i ∧ B' 2 i = B2 2 i ∧ J' 3 i = J2 3 i ∧ B' 4 i = B2 4 i ∧ J' 5 i = J2 5 i ∧ J' 6 i = J2 6 i) ∧ (∀ i, N' 1 i < 64) ∧ fw_fr f0 f1 b (b + 8)) (fw_B G A) A) 0 0 A := by
  refine q_head rfl (by decide) (Nat.le_of_ble_eq_true rfl) ?_
  intro p e s m below meth c ls C hr hlk hnm P hl
  have S := P.start
  have hl : lv_has ls 3 [(0, .ref h), (1, .ref h2)] := hl
  have F := fw_fr_rf f0 b (b + 8)
  refine lv_aload_n C.1 C.2.1 dX1_copyFrom_0 rfl (lv_at hl 0 rfl) ?_
  refine lv_aload_n C.1 C.2.1 dX1_copyFrom_1 rfl (lv_at hl 1 rfl) ?_
  refine o_get (v := .int (nI (I2 0))) C S (o_fr O2 F hd) rfl inX1_copyFrom_X1 0 (Nat.le_of_ble_eq_true rfl) lkX1_copyFrom_32 rfl dX1_copyFrom_2 ?_
  refine o_puti C S O F rfl inX1_copyFrom_X1 tyX1 tyX1_ok nmX1 0 (Nat.le_of_ble_eq_true rfl) rfl lkX1_copyFrom_32 rfl rfl ⟨by omega, by omega⟩ dX1_copyFrom_5 (fun f H locs S O F => ?_)
  refine lv_iconst (v := nI 0) C.1 C.2.1 dX1_copyFrom_8 (by decide) ?_
  refine lv_istore_n (lv' := [(2, .int (nI 0)), (0, .ref h), (1, .ref h2)]) C.1 C.2.1 dX1_copyFrom_9 rfl hl (by decide) rfl (fun ls hl => ?_)
  have lp10 : ∀ (n : Nat) (z : Nat) (N3 : Nat → Nat → Nat) (B3 : Nat → Nat → Bool) (J3 : Nat → Nat → Int64), I2 0 - z < n → (z ≤ I2 0) → (∀ i, i < z → N3 1 i = N2 1 i ∧ B3 2 i = B2 2 i ∧ J3 3 i = J2 3 i ∧ B3 4 i = B2 4 i ∧ J3 5 i = J2 5 i ∧ J3 6 i = J2 6 i) → (∀ i, N3 1 i < 64) → ∀ (f : fw_F) (H : Heap) (locs : List Loc) (ls : Array Slot), fw_S G A s f H locs → isO G dN f b h a (va_up I 0 (I2 0)) N3 B3 J3 → fw_fr f0 f b (b + 8) → lv_has ls 3 [(2, .int (nI z)), (0, .ref h), (1, .ref h2)] → W p l e ({ frames := 0, cells := 0, slots := 0, locals := 0 }) s m [.ref h, .ref h2].toArray below meth c H locs 0 0 (MQ below (va_Qv (fun (f1 : fw_F) => ∃ N' B' J', isO G dN f1 b h a (va_up I 0 (I2 0)) N' B' J' ∧ (∀ i, i < I2 0 → N' 1 i = N2 1 i ∧ B' 2 i = B2 2 i ∧ J' 3 i = J2 3 i ∧ B' 4 i = B2 4 i ∧ J' 5 i = J2 5 i ∧ J' 6 i = J2 6 i) ∧ (∀ i, N' 1 i < 64) ∧ fw_fr f0 f1 b (b + 8)) (fw_B G A) A) [.ref h, .ref h2].toArray s 0 0 A) (F0 m 10 ls []) := by
    intro n10
    induction n10 with
    | zero => intro z N3 B3 J3 hme10; exact absurd hme10 (Nat.not_lt_zero _)
    | succ n10 ih10 =>
      intro z N3 B3 J3 hme10 hz heq hL3 f H locs ls S O F hl
      refine lv_iload_n C.1 C.2.1 dX1_copyFrom_10 rfl (lv_at hl 0 rfl) ?_
      refine lv_aload_n C.1 C.2.1 dX1_copyFrom_11 rfl (lv_at hl 1 rfl) ?_
      refine o_get (v := .int (nI (I2 0))) C S O rfl inX1_copyFrom_X1 0 (Nat.le_of_ble_eq_true rfl) lkX1_copyFrom_32 rfl dX1_copyFrom_12 ?_
      refine q_ge (tgt := 96) C (by omega) (by omega) dX1_copyFrom_15 (by decide) (fun c15 => ?_) (fun c15 => ?_)
      · exact q_retQv C S hr hlk ⟨N3, B3, J3, O, by rw [show I2 0 = z by omega]; exact heq, hL3, F⟩ dX1_copyFrom_96
      · refine lv_aload_n C.1 C.2.1 dX1_copyFrom_18 rfl (lv_at hl 1 rfl) ?_
        refine o_get (v := .ref (a 1)) C S O rfl inX1_copyFrom_X1 1 (Nat.le_of_ble_eq_true rfl) lkX1_copyFrom_9 rfl dX1_copyFrom_19 ?_
        refine lv_iload_n C.1 C.2.1 dX1_copyFrom_22 rfl (lv_at hl 0 rfl) ?_
        refine lv_aload_n C.1 C.2.1 dX1_copyFrom_23 rfl (lv_at hl 2 rfl) ?_
        refine o_get (v := .ref (a2 1)) C S (o_fr O2 F hd) rfl inX1_copyFrom_X1 1 (Nat.le_of_ble_eq_true rfl) lkX1_copyFrom_9 rfl dX1_copyFrom_24 ?_
        refine lv_iload_n C.1 C.2.1 dX1_copyFrom_27 rfl (lv_at hl 0 rfl) ?_
        refine o_nald (x := (N2 1) z) C S (o_fr O2 F hd) 1 (Nat.le_of_ble_eq_true rfl) rfl z rfl (show z < 64 from by first | omega | exact hL _ | exact hP _ | exact hF _) (Nat.le_of_ble_eq_true rfl) rfl dX1_copyFrom_28 ?_
        refine o_nast C S O F 1 (Nat.le_of_ble_eq_true rfl) rfl z rfl (show z < 64 from by first | omega | exact hL _ | exact hP _ | exact hF _) (Nat.le_of_ble_eq_true rfl) ⟨by omega, by omega⟩ dX1_copyFrom_29 (fun f H locs S O F => ?_)
        refine lv_aload_n C.1 C.2.1 dX1_copyFrom_30 rfl (lv_at hl 1 rfl) ?_
        refine o_get (v := .ref (a 2)) C S O rfl inX1_copyFrom_X1 2 (Nat.le_of_ble_eq_true rfl) lkX1_copyFrom_15 rfl dX1_copyFrom_31 ?_
        refine lv_iload_n C.1 C.2.1 dX1_copyFrom_34 rfl (lv_at hl 0 rfl) ?_
        refine lv_aload_n C.1 C.2.1 dX1_copyFrom_35 rfl (lv_at hl 2 rfl) ?_
        refine o_get (v := .ref (a2 2)) C S (o_fr O2 F hd) rfl inX1_copyFrom_X1 2 (Nat.le_of_ble_eq_true rfl) lkX1_copyFrom_15 rfl dX1_copyFrom_36 ?_
        refine lv_iload_n C.1 C.2.1 dX1_copyFrom_39 rfl (lv_at hl 0 rfl) ?_
        refine o_yald (x := (B2 2) z) C S (o_fr O2 F hd) 2 (Nat.le_of_ble_eq_true rfl) rfl z rfl (show z < 64 from by first | omega | exact hL _ | exact hP _ | exact hF _) (Nat.le_of_ble_eq_true rfl) rfl dX1_copyFrom_40 ?_
        refine o_yast C S O F 2 (Nat.le_of_ble_eq_true rfl) rfl z rfl (show z < 64 from by first | omega | exact hL _ | exact hP _ | exact hF _) (Nat.le_of_ble_eq_true rfl) ⟨by omega, by omega⟩ dX1_copyFrom_41 (fun f H locs S O F => ?_)
        refine lv_aload_n C.1 C.2.1 dX1_copyFrom_42 rfl (lv_at hl 1 rfl) ?_
        refine o_get (v := .ref (a 3)) C S O rfl inX1_copyFrom_X1 3 (Nat.le_of_ble_eq_true rfl) lkX1_copyFrom_19 rfl dX1_copyFrom_43 ?_
        refine lv_iload_n C.1 C.2.1 dX1_copyFrom_46 rfl (lv_at hl 0 rfl) ?_
        refine lv_aload_n C.1 C.2.1 dX1_copyFrom_47 rfl (lv_at hl 2 rfl) ?_
        refine o_get (v := .ref (a2 3)) C S (o_fr O2 F hd) rfl inX1_copyFrom_X1 3 (Nat.le_of_ble_eq_true rfl) lkX1_copyFrom_19 rfl dX1_copyFrom_48 ?_
        refine lv_iload_n C.1 C.2.1 dX1_copyFrom_51 rfl (lv_at hl 0 rfl) ?_
        refine o_lald (x := (J2 3) z) C S (o_fr O2 F hd) 3 (Nat.le_of_ble_eq_true rfl) rfl z rfl (show z < 64 from by first | omega | exact hL _ | exact hP _ | exact hF _) (Nat.le_of_ble_eq_true rfl) rfl dX1_copyFrom_52 ?_
        refine o_last C S O F 3 (Nat.le_of_ble_eq_true rfl) rfl z rfl (show z < 64 from by first | omega | exact hL _ | exact hP _ | exact hF _) (Nat.le_of_ble_eq_true rfl) ⟨by omega, by omega⟩ dX1_copyFrom_53 (fun f H locs S O F => ?_)
        refine lv_aload_n C.1 C.2.1 dX1_copyFrom_54 rfl (lv_at hl 1 rfl) ?_
        refine o_get (v := .ref (a 4)) C S O rfl inX1_copyFrom_X1 4 (Nat.le_of_ble_eq_true rfl) lkX1_copyFrom_23 rfl dX1_copyFrom_55 ?_
        refine lv_iload_n C.1 C.2.1 dX1_copyFrom_58 rfl (lv_at hl 0 rfl) ?_
        refine lv_aload_n C.1 C.2.1 dX1_copyFrom_59 rfl (lv_at hl 2 rfl) ?_
        refine o_get (v := .ref (a2 4)) C S (o_fr O2 F hd) rfl inX1_copyFrom_X1 4 (Nat.le_of_ble_eq_true rfl) lkX1_copyFrom_23 rfl dX1_copyFrom_60 ?_
        refine lv_iload_n C.1 C.2.1 dX1_copyFrom_63 rfl (lv_at hl 0 rfl) ?_
        refine o_yald (x := (B2 4) z) C S (o_fr O2 F hd) 4 (Nat.le_of_ble_eq_true rfl) rfl z rfl (show z < 64 from by first | omega | exact hL _ | exact hP _ | exact hF _) (Nat.le_of_ble_eq_true rfl) rfl dX1_copyFrom_64 ?_
        refine o_yast C S O F 4 (Nat.le_of_ble_eq_true rfl) rfl z rfl (show z < 64 from by first | omega | exact hL _ | exact hP _ | exact hF _) (Nat.le_of_ble_eq_true rfl) ⟨by omega, by omega⟩ dX1_copyFrom_65 (fun f H locs S O F => ?_)
        refine lv_aload_n C.1 C.2.1 dX1_copyFrom_66 rfl (lv_at hl 1 rfl) ?_
        refine o_get (v := .ref (a 5)) C S O rfl inX1_copyFrom_X1 5 (Nat.le_of_ble_eq_true rfl) lkX1_copyFrom_26 rfl dX1_copyFrom_67 ?_
        refine lv_iload_n C.1 C.2.1 dX1_copyFrom_70 rfl (lv_at hl 0 rfl) ?_
        refine lv_aload_n C.1 C.2.1 dX1_copyFrom_71 rfl (lv_at hl 2 rfl) ?_
        refine o_get (v := .ref (a2 5)) C S (o_fr O2 F hd) rfl inX1_copyFrom_X1 5 (Nat.le_of_ble_eq_true rfl) lkX1_copyFrom_26 rfl dX1_copyFrom_72 ?_
        refine lv_iload_n C.1 C.2.1 dX1_copyFrom_75 rfl (lv_at hl 0 rfl) ?_
        refine o_lald (x := (J2 5) z) C S (o_fr O2 F hd) 5 (Nat.le_of_ble_eq_true rfl) rfl z rfl (show z < 64 from by first | omega | exact hL _ | exact hP _ | exact hF _) (Nat.le_of_ble_eq_true rfl) rfl dX1_copyFrom_76 ?_
        refine o_last C S O F 5 (Nat.le_of_ble_eq_true rfl) rfl z rfl (show z < 64 from by first | omega | exact hL _ | exact hP _ | exact hF _) (Nat.le_of_ble_eq_true rfl) ⟨by omega, by omega⟩ dX1_copyFrom_77 (fun f H locs S O F => ?_)
        refine lv_aload_n C.1 C.2.1 dX1_copyFrom_78 rfl (lv_at hl 1 rfl) ?_
        refine o_get (v := .ref (a 6)) C S O rfl inX1_copyFrom_X1 6 (Nat.le_of_ble_eq_true rfl) lkX1_copyFrom_29 rfl dX1_copyFrom_79 ?_
        refine lv_iload_n C.1 C.2.1 dX1_copyFrom_82 rfl (lv_at hl 0 rfl) ?_
        refine lv_aload_n C.1 C.2.1 dX1_copyFrom_83 rfl (lv_at hl 2 rfl) ?_
        refine o_get (v := .ref (a2 6)) C S (o_fr O2 F hd) rfl inX1_copyFrom_X1 6 (Nat.le_of_ble_eq_true rfl) lkX1_copyFrom_29 rfl dX1_copyFrom_84 ?_
        refine lv_iload_n C.1 C.2.1 dX1_copyFrom_87 rfl (lv_at hl 0 rfl) ?_
        refine o_lald (x := (J2 6) z) C S (o_fr O2 F hd) 6 (Nat.le_of_ble_eq_true rfl) rfl z rfl (show z < 64 from by first | omega | exact hL _ | exact hP _ | exact hF _) (Nat.le_of_ble_eq_true rfl) rfl dX1_copyFrom_88 ?_
        refine o_last C S O F 6 (Nat.le_of_ble_eq_true rfl) rfl z rfl (show z < 64 from by first | omega | exact hL _ | exact hP _ | exact hF _) (Nat.le_of_ble_eq_true rfl) ⟨by omega, by omega⟩ dX1_copyFrom_89 (fun f H locs S O F => ?_)
        refine q_iinc (d := 1) (lv' := [(2, .int (nI (z + 1))), (0, .ref h), (1, .ref h2)]) C dX1_copyFrom_90 hl (k := 0) rfl (by decide) (by decide) rfl (fun ls hl => ?_)
        refine lv_goto (tgt := 10) C.1 C.2.1 dX1_copyFrom_93 (by decide) ?_
        exact ih10 (z + 1) (va_up N3 1 (va_up (N3 1) z ((N2 1) z))) (va_up (va_up B3 2 (va_up (B3 2) z ((B2 2) z))) 4 (va_up (B3 4) z ((B2 4) z))) (va_up (va_up (va_up J3 3 (va_up (J3 3) z ((J2 3) z))) 5 (va_up (J3 5) z ((J2 5) z))) 6 (va_up (J3 6) z ((J2 6) z))) (by omega) (by omega) (fun i hi => by rcases Nat.lt_or_ge i z with q | q; exact (by have := heq i q; refine ⟨?_, ?_, ?_, ?_, ?_, ?_⟩ <;> (first | (show va_up _ _ _ _ = _; rw [up_n (by omega)]) | skip) <;> first | exact this.1 | exact this.2.1 | exact this.2.2.1 | exact this.2.2.2.1 | exact this.2.2.2.2.1 | exact this.2.2.2.2.2); rw [show i = z by omega]; refine ⟨?_, ?_, ?_, ?_, ?_, ?_⟩ <;> (show va_up _ _ _ _ = _) <;> rw [up_s]) (fun i => by show va_up _ _ _ _ < 64; by_cases q : i = z; rw [q, up_s]; exact hL2 _; rw [up_n q]; exact hL3 i) _ _ _ _ S O F (lv_sub hl [0, 1, 2] rfl)
  exact lp10 (I2 0 + 1) 0 N B J (by omega) (by omega) (fun i hi => absurd hi (Nat.not_lt_zero i)) hL _ _ _ _ S O F (lv_sub hl [0, 1, 2] rfl)
theorem inX2_append_X2 : ∀ w ∈ u_ws RX2 TX2 3, w ∈ wsX2_append := (fun _ h => (List.mem_cons_of_mem _ (List.mem_append_right _ h)))
theorem lkX2_append_19 : Cond.fieldLink RX2 19 (TX2 0).1 (TX2 0).2.1 (TX2 0).2.2.1 ∈ wsX2_append := List.mem_of_getElem? (i := 1) rfl
theorem lkX2_append_9 : Cond.fieldLink RX2 9 (TX2 1).1 (TX2 1).2.1 (TX2 1).2.2.1 ∈ wsX2_append := List.mem_of_getElem? (i := 2) rfl
theorem lkX2_append_15 : Cond.fieldLink RX2 15 (TX2 2).1 (TX2 2).2.1 (TX2 2).2.2.1 ∈ wsX2_append := List.mem_of_getElem? (i := 3) rfl
set_option maxHeartbeats 4000000 in
set_option maxRecDepth 100000 in
theorem c_append {l : Launch} {G : fw_G} {A : Nat → Prop} {f0 : fw_F} {br hro : Nat} {ar : Nat → Nat} {Ir : Nat → Nat} {Nr : Nat → Nat → Nat} {Br : Nat → Nat → Bool} {Jr : Nat → Nat → Int64} (Or : isO G dR f0 br hro ar Ir Nr Br Jr) (x : Nat) (v : Int64) (hn : Ir 0 < 32)  : Met l yX2_append wsX2_append ({ frames := 0, cells := 0, slots := 0, locals := 0 }) (va_Pc [.ref hro, .int (nI x), .long v] (fw_P G A f0)) (va_Qv (fun (f1 : fw_F) => isO G dR f1 br hro ar (va_up Ir 0 (Ir 0 + 1)) (va_up Nr 1 (va_up (Nr 1) (Ir 0) x)) Br (va_up Jr 2 (va_up (Jr 2) (Ir 0) v)) ∧ fw_fr f0 f1 br (br + 4)) (fw_B G A) A) 0 0 A := by
  refine q_head rfl (by decide) (Nat.le_of_ble_eq_true rfl) ?_
  intro p e s m below meth c ls C hr hlk hnm P hl
  have S := P.start
  have hl : lv_has ls 4 [(0, .ref hro), (1, .int (nI x)), (2, .long v)] := hl
  have F := fw_fr_rf f0 br (br + 4)
  refine lv_aload_n C.1 C.2.1 dX2_append_0 rfl (lv_at hl 0 rfl) ?_
  refine o_get (v := .int (nI (Ir 0))) C S Or rfl inX2_append_X2 0 (Nat.le_of_ble_eq_true rfl) lkX2_append_19 rfl dX2_append_1 ?_
  refine lv_bipush (v := nI 32) C.1 C.2.1 dX2_append_4 (by decide) ?_
  refine q_ge (tgt := 39) C (by omega) (by decide) dX2_append_6 (by decide) (fun c6 => ?_) (fun c6 => ?_)
  · exact absurd c6 (by omega)
  · refine lv_aload_n C.1 C.2.1 dX2_append_9 rfl (lv_at hl 0 rfl) ?_
    refine o_get (v := .ref (ar 1)) C S Or rfl inX2_append_X2 1 (Nat.le_of_ble_eq_true rfl) lkX2_append_9 rfl dX2_append_10 ?_
    refine lv_aload_n C.1 C.2.1 dX2_append_13 rfl (lv_at hl 0 rfl) ?_
    refine o_get (v := .int (nI (Ir 0))) C S Or rfl inX2_append_X2 0 (Nat.le_of_ble_eq_true rfl) lkX2_append_19 rfl dX2_append_14 ?_
    refine lv_iload_n C.1 C.2.1 dX2_append_17 rfl (lv_at hl 1 rfl) ?_
    refine o_nast C S Or F 1 (Nat.le_of_ble_eq_true rfl) rfl (Ir 0) rfl (show (Ir 0) < 32 from by first | omega | exact hL _ | exact hP _ | exact hF _) (Nat.le_of_ble_eq_true rfl) ⟨by omega, by omega⟩ dX2_append_18 (fun f H locs S Or F => ?_)
    refine lv_aload_n C.1 C.2.1 dX2_append_19 rfl (lv_at hl 0 rfl) ?_
    refine o_get (v := .ref (ar 2)) C S Or rfl inX2_append_X2 2 (Nat.le_of_ble_eq_true rfl) lkX2_append_15 rfl dX2_append_20 ?_
    refine lv_aload_n C.1 C.2.1 dX2_append_23 rfl (lv_at hl 0 rfl) ?_
    refine o_get (v := .int (nI (Ir 0))) C S Or rfl inX2_append_X2 0 (Nat.le_of_ble_eq_true rfl) lkX2_append_19 rfl dX2_append_24 ?_
    refine lv_lload_n C.1 C.2.1 dX2_append_27 rfl (lv_at hl 2 rfl) ?_
    refine o_last C S Or F 2 (Nat.le_of_ble_eq_true rfl) rfl (Ir 0) rfl (show (Ir 0) < 32 from by first | omega | exact hL _ | exact hP _ | exact hF _) (Nat.le_of_ble_eq_true rfl) ⟨by omega, by omega⟩ dX2_append_28 (fun f H locs S Or F => ?_)
    refine lv_aload_n C.1 C.2.1 dX2_append_29 rfl (lv_at hl 0 rfl) ?_
    refine lv_dup C.1 C.2.1 dX2_append_30 rfl ?_
    refine o_get (v := .int (nI (Ir 0))) C S Or rfl inX2_append_X2 0 (Nat.le_of_ble_eq_true rfl) lkX2_append_19 rfl dX2_append_31 ?_
    refine lv_iconst (v := nI 1) C.1 C.2.1 dX2_append_34 (by decide) ?_
    refine q_iadd C dX2_append_35 ?_
    refine o_puti C S Or F rfl inX2_append_X2 tyX2 tyX2_ok nmX2 0 (Nat.le_of_ble_eq_true rfl) rfl lkX2_append_19 rfl rfl ⟨by omega, by omega⟩ dX2_append_36 (fun f H locs S Or F => ?_)
    exact q_retQv C S hr hlk ⟨Or, F⟩ dX2_append_39
theorem inX2_cutAtFirstGone_X2 : ∀ w ∈ u_ws RX2 TX2 3, w ∈ wsX2_cutAtFirstGone := (fun _ h => (List.mem_cons_of_mem _ (List.mem_append_left _ (List.mem_append_right _ h))))
theorem lkX2_cutAtFirstGone_19 : Cond.fieldLink RX2 19 (TX2 0).1 (TX2 0).2.1 (TX2 0).2.2.1 ∈ wsX2_cutAtFirstGone := List.mem_of_getElem? (i := 1) rfl
theorem lkX2_cutAtFirstGone_9 : Cond.fieldLink RX2 9 (TX2 1).1 (TX2 1).2.1 (TX2 1).2.2.1 ∈ wsX2_cutAtFirstGone := List.mem_of_getElem? (i := 2) rfl
set_option maxHeartbeats 4000000 in
set_option maxRecDepth 100000 in
theorem c_cut {l : Launch} {G : fw_G} {A : Nat → Prop} {f0 : fw_F} {br hro : Nat} {ar : Nat → Nat} {Ir : Nat → Nat} {Nr : Nat → Nat → Nat} {Br : Nat → Nat → Bool} {Jr : Nat → Nat → Int64} {bn hn : Nat} {an : Nat → Nat} {In : Nat → Nat} {Nn : Nat → Nat → Nat} {Bn : Nat → Nat → Bool} {Jn : Nat → Nat → Int64} (Or : isO G dR f0 br hro ar Ir Nr Br Jr) (On : isO G dN f0 bn hn an In Nn Bn Jn) (hd : bn + 8 ≤ br ∨ br + 4 ≤ bn) (hm : Ir 0 ≤ 32) (hn0 : In 0 ≤ 64) (hP : ∀ i, Nr 1 i < 64)  : Met l yX2_cutAtFirstGone wsX2_cutAtFirstGone ({ frames := 1, cells := 0, slots := 0, locals := 21 }) (va_Pc [.ref hro, .ref hn] (fw_P G A f0)) (va_Qv (fun (f1 : fw_F) => ∃ c, c ≤ Ir 0 ∧ (∀ i, i < c → Nr 1 i < In 0) ∧ (c < Ir 0 → In 0 ≤ Nr 1 c) ∧ isO G dR f1 br hro ar (va_up Ir 0 c) Nr Br Jr ∧ fw_fr f0 f1 br (br + 4)) (fw_B G A) A) 0 0 A := by
  refine q_head rfl (by decide) (Nat.le_of_ble_eq_true rfl) ?_
  intro p e s m below meth c ls C hr hlk hnm P hl
  have S := P.start
  have hl : lv_has ls 3 [(0, .ref hro), (1, .ref hn)] := hl
  have F := fw_fr_rf f0 br (br + 4)
  refine lv_iconst (v := nI 0) C.1 C.2.1 dX2_cutAtFirstGone_0 (by decide) ?_
  refine lv_istore_n (lv' := [(2, .int (nI 0)), (0, .ref hro), (1, .ref hn)]) C.1 C.2.1 dX2_cutAtFirstGone_1 rfl hl (by decide) rfl (fun ls hl => ?_)
  have lp2 : ∀ (n : Nat) (z : Nat), Ir 0 - z < n → (z ≤ Ir 0) → (∀ i, i < z → Nr 1 i < In 0) → ∀ (f : fw_F) (H : Heap) (locs : List Loc) (ls : Array Slot), fw_S G A s f H locs → isO G dR f br hro ar Ir Nr Br Jr → fw_fr f0 f br (br + 4) → lv_has ls 3 [(2, .int (nI z)), (0, .ref hro), (1, .ref hn)] → W p l e ({ frames := 1, cells := 0, slots := 0, locals := 21 }) s m [.ref hro, .ref hn].toArray below meth c H locs 0 0 (MQ below (va_Qv (fun (f1 : fw_F) => ∃ c, c ≤ Ir 0 ∧ (∀ i, i < c → Nr 1 i < In 0) ∧ (c < Ir 0 → In 0 ≤ Nr 1 c) ∧ isO G dR f1 br hro ar (va_up Ir 0 c) Nr Br Jr ∧ fw_fr f0 f1 br (br + 4)) (fw_B G A) A) [.ref hro, .ref hn].toArray s 0 0 A) (F0 m 2 ls []) := by
    intro n2
    induction n2 with
    | zero => intro z hme2; exact absurd hme2 (Nat.not_lt_zero _)
    | succ n2 ih2 =>
      intro z hme2 hz hz2 f H locs ls S Or F hl
      refine lv_iload_n C.1 C.2.1 dX2_cutAtFirstGone_2 rfl (lv_at hl 0 rfl) ?_
      refine lv_aload_n C.1 C.2.1 dX2_cutAtFirstGone_3 rfl (lv_at hl 1 rfl) ?_
      refine o_get (v := .int (nI (Ir 0))) C S Or rfl inX2_cutAtFirstGone_X2 0 (Nat.le_of_ble_eq_true rfl) lkX2_cutAtFirstGone_19 rfl dX2_cutAtFirstGone_4 ?_
      refine q_ge (tgt := 37) C (by omega) (by omega) dX2_cutAtFirstGone_7 (by decide) (fun c7 => ?_) (fun c7 => ?_)
      · exact q_retQv C S hr hlk ⟨Ir 0, Nat.le_refl _, fun i hi => hz2 i (by omega), fun q => absurd q (Nat.lt_irrefl _), by rw [up_id]; exact Or, F⟩ dX2_cutAtFirstGone_37
      · refine lv_aload_n C.1 C.2.1 dX2_cutAtFirstGone_10 rfl (lv_at hl 2 rfl) ?_
        refine lv_aload_n C.1 C.2.1 dX2_cutAtFirstGone_11 rfl (lv_at hl 1 rfl) ?_
        refine o_get (v := .ref (ar 1)) C S Or rfl inX2_cutAtFirstGone_X2 1 (Nat.le_of_ble_eq_true rfl) lkX2_cutAtFirstGone_9 rfl dX2_cutAtFirstGone_12 ?_
        refine lv_iload_n C.1 C.2.1 dX2_cutAtFirstGone_15 rfl (lv_at hl 0 rfl) ?_
        refine o_nald (x := (Nr 1) z) C S Or 1 (Nat.le_of_ble_eq_true rfl) rfl z rfl (show z < 32 from by first | omega | exact hL _ | exact hP _ | exact hF _) (Nat.le_of_ble_eq_true rfl) rfl dX2_cutAtFirstGone_16 ?_
        refine q_callSi (As := [.int (nI ((Nr 1) z))]) (rest := []) C S hl (o_fr On F hd).1 rfl (c_has (o_fr On F hd) (nI ((Nr 1) z))) (cwV 1 C.2.2.2.2 gX2_cutAtFirstGone_X1_has rfl rfl rfl (by decide +kernel) ⟨Nat.le_of_ble_eq_true rfl, Nat.le_of_ble_eq_true rfl⟩) rfl rfl (Nat.le_of_ble_eq_true rfl) ⟨Nat.le_of_ble_eq_true rfl, Nat.le_of_ble_eq_true rfl⟩ dX2_cutAtFirstGone_17 (fun v hv => ?_)
        subst hv
        refine q_ifneB (tgt := 31) C dX2_cutAtFirstGone_20 (by decide) (fun c20 => ?_) (fun c20 => ?_)
        · refine q_iinc (d := 1) (lv' := [(2, .int (nI (z + 1))), (0, .ref hro), (1, .ref hn)]) C dX2_cutAtFirstGone_31 hl (k := 0) rfl (by decide) (by decide) rfl (fun ls hl => ?_)
          refine lv_goto (tgt := 2) C.1 C.2.1 dX2_cutAtFirstGone_34 (by decide) ?_
          exact ih2 (z + 1) (by omega) (by omega) (fun i hi => by rcases Nat.lt_or_ge i z with q | q; exact hz2 i q; rw [ix_nI (Nat.lt_trans (hP _) (by decide)) (by omega)] at c20; rw [show i = z by omega]; exact of_decide_eq_true c20) _ _ _ _ S Or F (lv_sub hl [0, 1, 2] rfl)
        · refine lv_aload_n C.1 C.2.1 dX2_cutAtFirstGone_23 rfl (lv_at hl 1 rfl) ?_
          refine lv_iload_n C.1 C.2.1 dX2_cutAtFirstGone_24 rfl (lv_at hl 0 rfl) ?_
          refine o_puti C S Or F rfl inX2_cutAtFirstGone_X2 tyX2 tyX2_ok nmX2 0 (Nat.le_of_ble_eq_true rfl) rfl lkX2_cutAtFirstGone_19 rfl rfl ⟨by omega, by omega⟩ dX2_cutAtFirstGone_25 (fun f H locs S Or F => ?_)
          refine lv_goto (tgt := 37) C.1 C.2.1 dX2_cutAtFirstGone_28 (by decide) ?_
          exact q_retQv C S hr hlk ⟨z, by omega, hz2, fun _ => by rw [ix_nI (Nat.lt_trans (hP _) (by decide)) (by omega)] at c20; exact Nat.not_lt.mp (of_decide_eq_false c20), Or, F⟩ dX2_cutAtFirstGone_37
  exact lp2 (Ir 0 + 1) 0 (by omega) (by omega) (fun i hi => absurd hi (Nat.not_lt_zero i)) _ _ _ _ S Or F (lv_sub hl [0, 1, 2] rfl)
theorem inX0_countFree_X0 : ∀ w ∈ u_ws RX0 TX0 4, w ∈ wsX0_countFree := (fun _ h => (List.mem_cons_of_mem _ (List.mem_append_left _ (List.mem_append_right _ h))))
theorem lkX0_countFree_34 : Cond.fieldLink RX0 34 (TX0 1).1 (TX0 1).2.1 (TX0 1).2.2.1 ∈ wsX0_countFree := List.mem_of_getElem? (i := 1) rfl
set_option maxHeartbeats 4000000 in
set_option maxRecDepth 100000 in
theorem c_countFree {l : Launch} {G : fw_G} {A : Nat → Prop} {f0 : fw_F} {bk hk : Nat} {w : Nat} {ak : Nat → Nat} {Ik : Nat → Nat} {Nk : Nat → Nat → Nat} {Bk : Nat → Nat → Bool} {Jk : Nat → Nat → Int64} {bn hn : Nat} {an : Nat → Nat} {In : Nat → Nat} {Nn : Nat → Nat → Nat} {Bn : Nat → Nat → Bool} {Jn : Nat → Nat → Int64} (Ok : isO G (dK w) f0 bk hk ak Ik Nk Bk Jk) (On : isO G dN f0 bn hn an In Nn Bn Jn) (hw : w ≤ 32) (hP : ∀ i, Nk 1 i < 64) (hL : ∀ i, Nn 1 i < 64)  : Met l yX0_countFree wsX0_countFree ({ frames := 1, cells := 0, slots := 0, locals := 21 }) (va_Pc [.ref hk, .ref hn] (fw_P G A f0)) (vp_Si (fun (r : Int32) => r = nI (cnt (fun i => !Bn 2 (Nn 1 (Nk 1 i))) w))) 0 0 (fun _ => False) := by
  refine q_head rfl (by decide) (Nat.le_of_ble_eq_true rfl) ?_
  intro p e s m below meth c ls C hr hlk hnm P hl
  have S := P.start
  have hl : lv_has ls 4 [(0, .ref hk), (1, .ref hn)] := hl
  refine lv_iconst (v := nI 0) C.1 C.2.1 dX0_countFree_0 (by decide) ?_
  refine lv_istore_n (lv' := [(2, .int (nI 0)), (0, .ref hk), (1, .ref hn)]) C.1 C.2.1 dX0_countFree_1 rfl hl (by decide) rfl (fun ls hl => ?_)
  refine lv_iconst (v := nI 0) C.1 C.2.1 dX0_countFree_2 (by decide) ?_
  refine lv_istore_n (lv' := [(3, .int (nI 0)), (2, .int (nI 0)), (0, .ref hk), (1, .ref hn)]) C.1 C.2.1 dX0_countFree_3 rfl hl (by decide) rfl (fun ls hl => ?_)
  have lp4 : ∀ (n : Nat) (z : Nat) (q : Nat), w - z < n → (z ≤ w) → (q = cnt (fun i => !Bn 2 (Nn 1 (Nk 1 i))) z) → ∀ (ls : Array Slot), lv_has ls 4 [(3, .int (nI z)), (2, .int (nI q)), (0, .ref hk), (1, .ref hn)] → W p l e ({ frames := 1, cells := 0, slots := 0, locals := 21 }) s m [.ref hk, .ref hn].toArray below meth c s.heap [] 0 0 (MQ below (vp_Si (fun (r : Int32) => r = nI (cnt (fun i => !Bn 2 (Nn 1 (Nk 1 i))) w))) [.ref hk, .ref hn].toArray s 0 0 (fun _ => False)) (F0 m 4 ls []) := by
    intro n4
    induction n4 with
    | zero => intro z q hme4; exact absurd hme4 (Nat.not_lt_zero _)
    | succ n4 ih4 =>
      intro z q hme4 hz hq ls hl
      refine lv_iload_n C.1 C.2.1 dX0_countFree_4 rfl (lv_at hl 0 rfl) ?_
      refine lv_aload_n C.1 C.2.1 dX0_countFree_5 rfl (lv_at hl 2 rfl) ?_
      refine o_get (v := .ref (ak 1)) C S Ok rfl inX0_countFree_X0 1 (Nat.le_of_ble_eq_true rfl) lkX0_countFree_34 rfl dX0_countFree_6 ?_
      refine q_alenN (n := w) C S ((Ok.2 1 (Nat.le_of_ble_eq_true rfl)).1 rfl) dX0_countFree_9 ?_
      refine q_ge (tgt := 35) C (by omega) (by omega) dX0_countFree_10 (by decide) (fun c10 => ?_) (fun c10 => ?_)
      · refine lv_iload_n C.1 C.2.1 dX0_countFree_35 rfl (lv_at hl 1 rfl) ?_
        exact q_retSi C hr hlk (by rw [hq, show z = w by omega]) dX0_countFree_36
      · refine lv_aload_n C.1 C.2.1 dX0_countFree_13 rfl (lv_at hl 3 rfl) ?_
        refine lv_aload_n C.1 C.2.1 dX0_countFree_14 rfl (lv_at hl 2 rfl) ?_
        refine o_get (v := .ref (ak 1)) C S Ok rfl inX0_countFree_X0 1 (Nat.le_of_ble_eq_true rfl) lkX0_countFree_34 rfl dX0_countFree_15 ?_
        refine lv_iload_n C.1 C.2.1 dX0_countFree_18 rfl (lv_at hl 0 rfl) ?_
        refine o_nald (x := (Nk 1) z) C S Ok 1 (Nat.le_of_ble_eq_true rfl) rfl z rfl (show z < w from by first | omega | exact hL _ | exact hP _ | exact hF _) (show w < 2 ^ 31 by omega) rfl dX0_countFree_19 ?_
        refine q_callSi (As := [.int (nI ((Nk 1) z))]) (rest := []) C S hl On.1 rfl (c_isKnown On ((Nk 1) z) (by first | omega | exact hL _ | exact hP _ | exact hF _) hL) (cwV 1 C.2.2.2.2 gX0_countFree_X1_isKnown rfl rfl rfl (by decide +kernel) ⟨Nat.le_of_ble_eq_true rfl, Nat.le_of_ble_eq_true rfl⟩) rfl rfl (Nat.le_of_ble_eq_true rfl) ⟨Nat.le_of_ble_eq_true rfl, Nat.le_of_ble_eq_true rfl⟩ dX0_countFree_20 (fun v hv => ?_)
        subst hv
        refine q_ifneB (tgt := 29) C dX0_countFree_23 (by decide) (fun c23 => ?_) (fun c23 => ?_)
        · refine q_iinc (d := 1) (lv' := [(3, .int (nI (z + 1))), (2, .int (nI q)), (0, .ref hk), (1, .ref hn)]) C dX0_countFree_29 hl (k := 0) rfl (by decide) (by decide) rfl (fun ls hl => ?_)
          refine lv_goto (tgt := 4) C.1 C.2.1 dX0_countFree_32 (by decide) ?_
          exact ih4 (z + 1) q (by omega) (by omega) (by rw [hq, cnt_f (by show (!Bn 2 (Nn 1 (Nk 1 z))) = false; rw [c23]; rfl)]) _ (lv_sub hl [0, 1, 2, 3] rfl)
        · refine q_iinc (d := 1) (lv' := [(2, .int (nI (q + 1))), (3, .int (nI z)), (0, .ref hk), (1, .ref hn)]) C dX0_countFree_26 hl (k := 1) rfl (by decide) (by decide) rfl (fun ls hl => ?_)
          refine q_iinc (d := 1) (lv' := [(3, .int (nI (z + 1))), (2, .int (nI (q + 1))), (0, .ref hk), (1, .ref hn)]) C dX0_countFree_29 hl (k := 1) rfl (by decide) (by decide) rfl (fun ls hl => ?_)
          refine lv_goto (tgt := 4) C.1 C.2.1 dX0_countFree_32 (by decide) ?_
          exact ih4 (z + 1) (q + 1) (by omega) (by omega) (by rw [hq, cnt_t (by show (!Bn 2 (Nn 1 (Nk 1 z))) = true; rw [c23]; rfl)]) _ (lv_sub hl [0, 1, 2, 3] rfl)
  exact lp4 (w + 1) 0 0 (by omega) (by omega) rfl _ (lv_sub hl [0, 1, 2, 3] rfl)
theorem inX0_holds_X0 : ∀ w ∈ u_ws RX0 TX0 4, w ∈ wsX0_holds := (fun _ h => (List.mem_cons_of_mem _ (List.mem_append_left _ (List.mem_append_right _ h))))
theorem lkX0_holds_34 : Cond.fieldLink RX0 34 (TX0 1).1 (TX0 1).2.1 (TX0 1).2.2.1 ∈ wsX0_holds := List.mem_of_getElem? (i := 1) rfl
set_option maxHeartbeats 4000000 in
set_option maxRecDepth 100000 in
theorem c_holds {l : Launch} {G : fw_G} {A : Nat → Prop} {f0 : fw_F} {bk hk : Nat} {w : Nat} {ak : Nat → Nat} {Ik : Nat → Nat} {Nk : Nat → Nat → Nat} {Bk : Nat → Nat → Bool} {Jk : Nat → Nat → Int64} {bn hn : Nat} {an : Nat → Nat} {In : Nat → Nat} {Nn : Nat → Nat → Nat} {Bn : Nat → Nat → Bool} {Jn : Nat → Nat → Int64} (Ok : isO G (dK w) f0 bk hk ak Ik Nk Bk Jk) (On : isO G dN f0 bn hn an In Nn Bn Jn) (x : Nat) (hx : x < 64) (hw : w ≤ 32) (hP : ∀ i, Nk 1 i < 64) (hL : ∀ i, Nn 1 i < 64)  : Met l yX0_holds wsX0_holds ({ frames := 1, cells := 0, slots := 0, locals := 21 }) (va_Pc [.ref hk, .int (nI x), .ref hn] (fw_P G A f0)) (vp_Si (fun (r : Int32) => r = bI (anyb (fun i => decide (Nn 1 (Nk 1 i) = Nn 1 x)) w))) 0 0 (fun _ => False) := by
  refine q_head rfl (by decide) (Nat.le_of_ble_eq_true rfl) ?_
  intro p e s m below meth c ls C hr hlk hnm P hl
  have S := P.start
  have hl : lv_has ls 4 [(0, .ref hk), (1, .int (nI x)), (2, .ref hn)] := hl
  refine lv_iconst (v := nI 0) C.1 C.2.1 dX0_holds_0 (by decide) ?_
  refine lv_istore_n (lv' := [(3, .int (nI 0)), (0, .ref hk), (1, .int (nI x)), (2, .ref hn)]) C.1 C.2.1 dX0_holds_1 rfl hl (by decide) rfl (fun ls hl => ?_)
  have lp2 : ∀ (n : Nat) (z : Nat), w - z < n → (z ≤ w) → (∀ i, i < z → Nn 1 (Nk 1 i) ≠ Nn 1 x) → ∀ (ls : Array Slot), lv_has ls 4 [(3, .int (nI z)), (0, .ref hk), (1, .int (nI x)), (2, .ref hn)] → W p l e ({ frames := 1, cells := 0, slots := 0, locals := 21 }) s m [.ref hk, .int (nI x), .ref hn].toArray below meth c s.heap [] 0 0 (MQ below (vp_Si (fun (r : Int32) => r = bI (anyb (fun i => decide (Nn 1 (Nk 1 i) = Nn 1 x)) w))) [.ref hk, .int (nI x), .ref hn].toArray s 0 0 (fun _ => False)) (F0 m 2 ls []) := by
    intro n2
    induction n2 with
    | zero => intro z hme2; exact absurd hme2 (Nat.not_lt_zero _)
    | succ n2 ih2 =>
      intro z hme2 hz hq ls hl
      refine lv_iload_n C.1 C.2.1 dX0_holds_2 rfl (lv_at hl 0 rfl) ?_
      refine lv_aload_n C.1 C.2.1 dX0_holds_3 rfl (lv_at hl 1 rfl) ?_
      refine o_get (v := .ref (ak 1)) C S Ok rfl inX0_holds_X0 1 (Nat.le_of_ble_eq_true rfl) lkX0_holds_34 rfl dX0_holds_4 ?_
      refine q_alenN (n := w) C S ((Ok.2 1 (Nat.le_of_ble_eq_true rfl)).1 rfl) dX0_holds_7 ?_
      refine q_ge (tgt := 37) C (by omega) (by omega) dX0_holds_8 (by decide) (fun c8 => ?_) (fun c8 => ?_)
      · refine lv_iconst (v := nI 0) C.1 C.2.1 dX0_holds_37 (by decide) ?_
        exact q_retSz (b := false) C hr hlk rfl (by show bI false = bI _; rw [anyb_f (fun i hi => by exact decide_eq_false (hq i (by omega)))]) dX0_holds_38
      · refine lv_aload_n C.1 C.2.1 dX0_holds_11 rfl (lv_at hl 3 rfl) ?_
        refine lv_aload_n C.1 C.2.1 dX0_holds_12 rfl (lv_at hl 1 rfl) ?_
        refine o_get (v := .ref (ak 1)) C S Ok rfl inX0_holds_X0 1 (Nat.le_of_ble_eq_true rfl) lkX0_holds_34 rfl dX0_holds_13 ?_
        refine lv_iload_n C.1 C.2.1 dX0_holds_16 rfl (lv_at hl 0 rfl) ?_
        refine o_nald (x := (Nk 1) z) C S Ok 1 (Nat.le_of_ble_eq_true rfl) rfl z rfl (show z < w from by first | omega | exact hL _ | exact hP _ | exact hF _) (show w < 2 ^ 31 by omega) rfl dX0_holds_17 ?_
        refine q_callSi (As := [.int (nI ((Nk 1) z))]) (rest := []) C S hl On.1 rfl (c_leastOf On ((Nk 1) z) (by first | omega | exact hL _ | exact hP _ | exact hF _) ) (cwV 1 C.2.2.2.2 gX0_holds_X1_leastOf rfl rfl rfl (by decide +kernel) ⟨Nat.le_of_ble_eq_true rfl, Nat.le_of_ble_eq_true rfl⟩) rfl rfl (Nat.le_of_ble_eq_true rfl) ⟨Nat.le_of_ble_eq_true rfl, Nat.le_of_ble_eq_true rfl⟩ dX0_holds_18 (fun v hv => ?_)
        subst hv
        refine lv_aload_n C.1 C.2.1 dX0_holds_21 rfl (lv_at hl 3 rfl) ?_
        refine lv_iload_n C.1 C.2.1 dX0_holds_22 rfl (lv_at hl 2 rfl) ?_
        refine q_callSi (As := [.int (nI x)]) (rest := [.int (nI ((Nn 1) ((Nk 1) z)))]) C S hl On.1 rfl (c_leastOf On x (by first | omega | exact hL _ | exact hP _ | exact hF _) ) (cwV 1 C.2.2.2.2 gX0_holds_X1_leastOf rfl rfl rfl (by decide +kernel) ⟨Nat.le_of_ble_eq_true rfl, Nat.le_of_ble_eq_true rfl⟩) rfl rfl (Nat.le_of_ble_eq_true rfl) ⟨Nat.le_of_ble_eq_true rfl, Nat.le_of_ble_eq_true rfl⟩ dX0_holds_23 (fun v hv => ?_)
        subst hv
        refine q_nee (tgt := 31) C (Nat.lt_trans (hL _) (by decide)) (Nat.lt_trans (hL _) (by decide)) dX0_holds_26 (by decide) (fun c26 => ?_) (fun c26 => ?_)
        · refine q_iinc (d := 1) (lv' := [(3, .int (nI (z + 1))), (0, .ref hk), (1, .int (nI x)), (2, .ref hn)]) C dX0_holds_31 hl (k := 0) rfl (by decide) (by decide) rfl (fun ls hl => ?_)
          refine lv_goto (tgt := 2) C.1 C.2.1 dX0_holds_34 (by decide) ?_
          exact ih2 (z + 1) (by omega) (by omega) (fun i hi => by rcases Nat.lt_or_ge i z with q | q; exact hq i q; rw [show i = z by omega]; exact c26) _ (lv_sub hl [0, 1, 2, 3] rfl)
        · refine lv_iconst (v := nI 1) C.1 C.2.1 dX0_holds_29 (by decide) ?_
          exact q_retSz (b := true) C hr hlk rfl (by show bI true = bI _; rw [anyb_t (i := z) (by omega) (by exact decide_eq_true c26)]) dX0_holds_30
  exact lp2 (w + 1) 0 (by omega) (by omega) (fun i hi => absurd hi (Nat.not_lt_zero i)) _ (lv_sub hl [0, 1, 2, 3] rfl)
theorem inX0_sum_X0 : ∀ w ∈ u_ws RX0 TX0 4, w ∈ wsX0_sum := (fun _ h => (List.mem_cons_of_mem _ (List.mem_append_left _ (List.mem_append_right _ h))))
theorem lkX0_sum_34 : Cond.fieldLink RX0 34 (TX0 1).1 (TX0 1).2.1 (TX0 1).2.2.1 ∈ wsX0_sum := List.mem_of_getElem? (i := 1) rfl
theorem lkX0_sum_42 : Cond.fieldLink RX0 42 (TX0 3).1 (TX0 3).2.1 (TX0 3).2.2.1 ∈ wsX0_sum := List.mem_of_getElem? (i := 2) rfl
set_option maxHeartbeats 4000000 in
set_option maxRecDepth 100000 in
theorem c_sum {l : Launch} {G : fw_G} {A : Nat → Prop} {f0 : fw_F} {bk hk : Nat} {w : Nat} {ak : Nat → Nat} {Ik : Nat → Nat} {Nk : Nat → Nat → Nat} {Bk : Nat → Nat → Bool} {Jk : Nat → Nat → Int64} {bn hn : Nat} {an : Nat → Nat} {In : Nat → Nat} {Nn : Nat → Nat → Nat} {Bn : Nat → Nat → Bool} {Jn : Nat → Nat → Int64} (Ok : isO G (dK w) f0 bk hk ak Ik Nk Bk Jk) (On : isO G dN f0 bn hn an In Nn Bn Jn) (hw : w ≤ 32) (hP : ∀ i, Nk 1 i < 64) (hL : ∀ i, Nn 1 i < 64)  : Met l yX0_sum wsX0_sum ({ frames := 1, cells := 0, slots := 0, locals := 21 }) (va_Pc [.ref hk, .ref hn] (fw_P G A f0)) (vp_Sl (fun (r : Int64) => r = sumL (fun i => Jk 3 i * Jn 3 (Nn 1 (Nk 1 i))) w)) 0 0 (fun _ => False) := by
  refine q_head rfl (by decide) (Nat.le_of_ble_eq_true rfl) ?_
  intro p e s m below meth c ls C hr hlk hnm P hl
  have S := P.start
  have hl : lv_has ls 5 [(0, .ref hk), (1, .ref hn)] := hl
  refine lv_lconst (v := 0) C.1 C.2.1 dX0_sum_0 (by decide) ?_
  refine lv_lstore_n (lv' := [(2, .long 0), (0, .ref hk), (1, .ref hn)]) C.1 C.2.1 dX0_sum_1 rfl hl (by decide) rfl (fun ls hl => ?_)
  refine lv_iconst (v := nI 0) C.1 C.2.1 dX0_sum_2 (by decide) ?_
  refine lv_istore (lv' := [(4, .int (nI 0)), (2, .long 0), (0, .ref hk), (1, .ref hn)]) C.1 C.2.1 dX0_sum_3 hl (by decide) rfl (fun ls hl => ?_)
  have lp5 : ∀ (n : Nat) (z : Nat) (q : Int64), w - z < n → (z ≤ w) → (q = sumL (fun i => Jk 3 i * Jn 3 (Nn 1 (Nk 1 i))) z) → ∀ (ls : Array Slot), lv_has ls 5 [(4, .int (nI z)), (2, .long q), (0, .ref hk), (1, .ref hn)] → W p l e ({ frames := 1, cells := 0, slots := 0, locals := 21 }) s m [.ref hk, .ref hn].toArray below meth c s.heap [] 0 0 (MQ below (vp_Sl (fun (r : Int64) => r = sumL (fun i => Jk 3 i * Jn 3 (Nn 1 (Nk 1 i))) w)) [.ref hk, .ref hn].toArray s 0 0 (fun _ => False)) (F0 m 5 ls []) := by
    intro n5
    induction n5 with
    | zero => intro z q hme5; exact absurd hme5 (Nat.not_lt_zero _)
    | succ n5 ih5 =>
      intro z q hme5 hz hq ls hl
      refine lv_iload C.1 C.2.1 dX0_sum_5 (lv_at hl 0 rfl) ?_
      refine lv_aload_n C.1 C.2.1 dX0_sum_7 rfl (lv_at hl 2 rfl) ?_
      refine o_get (v := .ref (ak 1)) C S Ok rfl inX0_sum_X0 1 (Nat.le_of_ble_eq_true rfl) lkX0_sum_34 rfl dX0_sum_8 ?_
      refine q_alenN (n := w) C S ((Ok.2 1 (Nat.le_of_ble_eq_true rfl)).1 rfl) dX0_sum_11 ?_
      refine q_ge (tgt := 43) C (by omega) (by omega) dX0_sum_12 (by decide) (fun c12 => ?_) (fun c12 => ?_)
      · refine lv_lload_n C.1 C.2.1 dX0_sum_43 rfl (lv_at hl 1 rfl) ?_
        exact q_retSl C hr hlk (by rw [hq, show z = w by omega]) dX0_sum_44
      · refine lv_lload_n C.1 C.2.1 dX0_sum_15 rfl (lv_at hl 1 rfl) ?_
        refine lv_aload_n C.1 C.2.1 dX0_sum_16 rfl (lv_at hl 2 rfl) ?_
        refine o_get (v := .ref (ak 3)) C S Ok rfl inX0_sum_X0 3 (Nat.le_of_ble_eq_true rfl) lkX0_sum_42 rfl dX0_sum_17 ?_
        refine lv_iload C.1 C.2.1 dX0_sum_20 (lv_at hl 0 rfl) ?_
        refine o_lald (x := (Jk 3) z) C S Ok 3 (Nat.le_of_ble_eq_true rfl) rfl z rfl (show z < w from by first | omega | exact hL _ | exact hP _ | exact hF _) (show w < 2 ^ 31 by omega) rfl dX0_sum_22 ?_
        refine lv_aload_n C.1 C.2.1 dX0_sum_23 rfl (lv_at hl 3 rfl) ?_
        refine lv_aload_n C.1 C.2.1 dX0_sum_24 rfl (lv_at hl 2 rfl) ?_
        refine o_get (v := .ref (ak 1)) C S Ok rfl inX0_sum_X0 1 (Nat.le_of_ble_eq_true rfl) lkX0_sum_34 rfl dX0_sum_25 ?_
        refine lv_iload C.1 C.2.1 dX0_sum_28 (lv_at hl 0 rfl) ?_
        refine o_nald (x := (Nk 1) z) C S Ok 1 (Nat.le_of_ble_eq_true rfl) rfl z rfl (show z < w from by first | omega | exact hL _ | exact hP _ | exact hF _) (show w < 2 ^ 31 by omega) rfl dX0_sum_30 ?_
        refine q_callSl (As := [.int (nI ((Nk 1) z))]) (rest := [.long ((Jk 3) z), .long q]) C S hl On.1 rfl (c_numberOf On ((Nk 1) z) (by first | omega | exact hL _ | exact hP _ | exact hF _) hL) (cwV 1 C.2.2.2.2 gX0_sum_X1_numberOf rfl rfl rfl (by decide +kernel) ⟨Nat.le_of_ble_eq_true rfl, Nat.le_of_ble_eq_true rfl⟩) rfl rfl (Nat.le_of_ble_eq_true rfl) ⟨Nat.le_of_ble_eq_true rfl, Nat.le_of_ble_eq_true rfl⟩ dX0_sum_31 (fun v hv => ?_)
        subst hv
        refine lv_lmul C.1 C.2.1 dX0_sum_34 ?_
        refine lv_ladd C.1 C.2.1 dX0_sum_35 ?_
        refine lv_lstore_n (lv' := [(2, .long (q + (((Jk 3) z) * ((Jn 3) ((Nn 1) ((Nk 1) z)))))), (4, .int (nI z)), (0, .ref hk), (1, .ref hn)]) C.1 C.2.1 dX0_sum_36 rfl hl (by decide) rfl (fun ls hl => ?_)
        refine q_iinc (d := 1) (lv' := [(4, .int (nI (z + 1))), (2, .long (q + (((Jk 3) z) * ((Jn 3) ((Nn 1) ((Nk 1) z)))))), (0, .ref hk), (1, .ref hn)]) C dX0_sum_37 hl (k := 1) rfl (by decide) (by decide) rfl (fun ls hl => ?_)
        refine lv_goto (tgt := 5) C.1 C.2.1 dX0_sum_40 (by decide) ?_
        exact ih5 (z + 1) (q + (((Jk 3) z) * ((Jn 3) ((Nn 1) ((Nk 1) z))))) (by omega) (by omega) (by rw [hq]; rfl) _ (lv_sub hl [0, 1, 2, 3] rfl)
  exact lp5 (w + 1) 0 0 (by omega) (by omega) rfl _ (lv_sub hl [0, 1, 2, 3] rfl)
theorem inX0_allUnlike_X0 : ∀ w ∈ u_ws RX0 TX0 4, w ∈ wsX0_allUnlike := (fun _ h => (List.mem_cons_of_mem _ (List.mem_append_left _ (List.mem_append_right _ h))))
theorem lkX0_allUnlike_34 : Cond.fieldLink RX0 34 (TX0 1).1 (TX0 1).2.1 (TX0 1).2.2.1 ∈ wsX0_allUnlike := List.mem_of_getElem? (i := 1) rfl
set_option maxHeartbeats 4000000 in
set_option maxRecDepth 100000 in
theorem c_allUnlike {l : Launch} {G : fw_G} {A : Nat → Prop} {f0 : fw_F} {bk hk : Nat} {w : Nat} {ak : Nat → Nat} {Ik : Nat → Nat} {Nk : Nat → Nat → Nat} {Bk : Nat → Nat → Bool} {Jk : Nat → Nat → Int64} {bn hn : Nat} {an : Nat → Nat} {In : Nat → Nat} {Nn : Nat → Nat → Nat} {Bn : Nat → Nat → Bool} {Jn : Nat → Nat → Int64} (Ok : isO G (dK w) f0 bk hk ak Ik Nk Bk Jk) (On : isO G dN f0 bn hn an In Nn Bn Jn) (hw : w ≤ 32) (hP : ∀ i, Nk 1 i < 64) (hL : ∀ i, Nn 1 i < 64)  : Met l yX0_allUnlike wsX0_allUnlike ({ frames := 1, cells := 0, slots := 0, locals := 21 }) (va_Pc [.ref hk, .ref hn] (fw_P G A f0)) (vp_Si (fun (r : Int32) => r = bI (unl (fun i => Jn 3 (Nn 1 (Nk 1 i))) w))) 0 0 (fun _ => False) := by
  refine q_head rfl (by decide) (Nat.le_of_ble_eq_true rfl) ?_
  intro p e s m below meth c ls C hr hlk hnm P hl
  have S := P.start
  have hl : lv_has ls 6 [(0, .ref hk), (1, .ref hn)] := hl
  refine lv_iconst (v := nI 1) C.1 C.2.1 dX0_allUnlike_0 (by decide) ?_
  refine lv_istore_n (lv' := [(2, .int (nI 1)), (0, .ref hk), (1, .ref hn)]) C.1 C.2.1 dX0_allUnlike_1 rfl hl (by decide) rfl (fun ls hl => ?_)
  have lp2 : ∀ (n : Nat) (z : Nat), w + 1 - z < n → (1 ≤ z ∧ z ≤ w + 1) → (∀ i j, i < z → j < i → Jn 3 (Nn 1 (Nk 1 j)) ≠ Jn 3 (Nn 1 (Nk 1 i))) → ∀ (ls : Array Slot), lv_has ls 6 [(2, .int (nI z)), (0, .ref hk), (1, .ref hn)] → W p l e ({ frames := 1, cells := 0, slots := 0, locals := 21 }) s m [.ref hk, .ref hn].toArray below meth c s.heap [] 0 0 (MQ below (vp_Si (fun (r : Int32) => r = bI (unl (fun i => Jn 3 (Nn 1 (Nk 1 i))) w))) [.ref hk, .ref hn].toArray s 0 0 (fun _ => False)) (F0 m 2 ls []) := by
    intro n2
    induction n2 with
    | zero => intro z hme2; exact absurd hme2 (Nat.not_lt_zero _)
    | succ n2 ih2 =>
      intro z hme2 hz hz2 ls hl
      refine lv_iload_n C.1 C.2.1 dX0_allUnlike_2 rfl (lv_at hl 0 rfl) ?_
      refine lv_aload_n C.1 C.2.1 dX0_allUnlike_3 rfl (lv_at hl 1 rfl) ?_
      refine o_get (v := .ref (ak 1)) C S Ok rfl inX0_allUnlike_X0 1 (Nat.le_of_ble_eq_true rfl) lkX0_allUnlike_34 rfl dX0_allUnlike_4 ?_
      refine q_alenN (n := w) C S ((Ok.2 1 (Nat.le_of_ble_eq_true rfl)).1 rfl) dX0_allUnlike_7 ?_
      refine q_ge (tgt := 61) C (by omega) (by omega) dX0_allUnlike_8 (by decide) (fun c8 => ?_) (fun c8 => ?_)
      · refine lv_iconst (v := nI 1) C.1 C.2.1 dX0_allUnlike_61 (by decide) ?_
        exact q_retSz (b := true) C hr hlk rfl (by show bI true = bI _; rw [unl_iff.mpr (fun i j hi hj => hz2 i j (by omega) hj)]) dX0_allUnlike_62
      · refine lv_aload_n C.1 C.2.1 dX0_allUnlike_11 rfl (lv_at hl 2 rfl) ?_
        refine lv_aload_n C.1 C.2.1 dX0_allUnlike_12 rfl (lv_at hl 1 rfl) ?_
        refine o_get (v := .ref (ak 1)) C S Ok rfl inX0_allUnlike_X0 1 (Nat.le_of_ble_eq_true rfl) lkX0_allUnlike_34 rfl dX0_allUnlike_13 ?_
        refine lv_iload_n C.1 C.2.1 dX0_allUnlike_16 rfl (lv_at hl 0 rfl) ?_
        refine o_nald (x := (Nk 1) z) C S Ok 1 (Nat.le_of_ble_eq_true rfl) rfl z rfl (show z < w from by first | omega | exact hL _ | exact hP _ | exact hF _) (show w < 2 ^ 31 by omega) rfl dX0_allUnlike_17 ?_
        refine q_callSl (As := [.int (nI ((Nk 1) z))]) (rest := []) C S hl On.1 rfl (c_numberOf On ((Nk 1) z) (by first | omega | exact hL _ | exact hP _ | exact hF _) hL) (cwV 1 C.2.2.2.2 gX0_allUnlike_X1_numberOf rfl rfl rfl (by decide +kernel) ⟨Nat.le_of_ble_eq_true rfl, Nat.le_of_ble_eq_true rfl⟩) rfl rfl (Nat.le_of_ble_eq_true rfl) ⟨Nat.le_of_ble_eq_true rfl, Nat.le_of_ble_eq_true rfl⟩ dX0_allUnlike_18 (fun v hv => ?_)
        subst hv
        refine lv_lstore_n (lv' := [(3, .long ((Jn 3) ((Nn 1) ((Nk 1) z)))), (2, .int (nI z)), (0, .ref hk), (1, .ref hn)]) C.1 C.2.1 dX0_allUnlike_21 rfl hl (by decide) rfl (fun ls hl => ?_)
        refine lv_iconst (v := nI 0) C.1 C.2.1 dX0_allUnlike_22 (by decide) ?_
        refine lv_istore (lv' := [(5, .int (nI 0)), (3, .long ((Jn 3) ((Nn 1) ((Nk 1) z)))), (2, .int (nI z)), (0, .ref hk), (1, .ref hn)]) C.1 C.2.1 dX0_allUnlike_23 hl (by decide) rfl (fun ls hl => ?_)
        have lp25 : ∀ (n : Nat) (q : Nat), z - q < n → (q ≤ z) → (∀ j, j < q → Jn 3 (Nn 1 (Nk 1 j)) ≠ Jn 3 (Nn 1 (Nk 1 z))) → ∀ (ls : Array Slot), lv_has ls 6 [(5, .int (nI q)), (3, .long ((Jn 3) ((Nn 1) ((Nk 1) z)))), (2, .int (nI z)), (0, .ref hk), (1, .ref hn)] → W p l e ({ frames := 1, cells := 0, slots := 0, locals := 21 }) s m [.ref hk, .ref hn].toArray below meth c s.heap [] 0 0 (MQ below (vp_Si (fun (r : Int32) => r = bI (unl (fun i => Jn 3 (Nn 1 (Nk 1 i))) w))) [.ref hk, .ref hn].toArray s 0 0 (fun _ => False)) (F0 m 25 ls []) := by
          intro n25
          induction n25 with
          | zero => intro q hme25; exact absurd hme25 (Nat.not_lt_zero _)
          | succ n25 ih25 =>
            intro q hme25 hq hq2 ls hl
            refine lv_iload C.1 C.2.1 dX0_allUnlike_25 (lv_at hl 0 rfl) ?_
            refine lv_iload_n C.1 C.2.1 dX0_allUnlike_27 rfl (lv_at hl 2 rfl) ?_
            refine q_ge (tgt := 55) C (by omega) (by omega) dX0_allUnlike_28 (by decide) (fun c28 => ?_) (fun c28 => ?_)
            · refine q_iinc (d := 1) (lv' := [(2, .int (nI (z + 1))), (5, .int (nI q)), (3, .long ((Jn 3) ((Nn 1) ((Nk 1) z)))), (0, .ref hk), (1, .ref hn)]) C dX0_allUnlike_55 hl (k := 2) rfl (by decide) (by decide) rfl (fun ls hl => ?_)
              refine lv_goto (tgt := 2) C.1 C.2.1 dX0_allUnlike_58 (by decide) ?_
              exact ih2 (z + 1) (by omega) (by omega) (fun i j hi hj => by rcases Nat.lt_or_ge i z with a | a; exact hz2 i j a hj; rw [show i = z by omega] at hj ⊢; exact hq2 j (by omega)) _ (lv_sub hl [0, 3, 4] rfl)
            · refine lv_aload_n C.1 C.2.1 dX0_allUnlike_31 rfl (lv_at hl 4 rfl) ?_
              refine lv_aload_n C.1 C.2.1 dX0_allUnlike_32 rfl (lv_at hl 3 rfl) ?_
              refine o_get (v := .ref (ak 1)) C S Ok rfl inX0_allUnlike_X0 1 (Nat.le_of_ble_eq_true rfl) lkX0_allUnlike_34 rfl dX0_allUnlike_33 ?_
              refine lv_iload C.1 C.2.1 dX0_allUnlike_36 (lv_at hl 0 rfl) ?_
              refine o_nald (x := (Nk 1) q) C S Ok 1 (Nat.le_of_ble_eq_true rfl) rfl q rfl (show q < w from by first | omega | exact hL _ | exact hP _ | exact hF _) (show w < 2 ^ 31 by omega) rfl dX0_allUnlike_38 ?_
              refine q_callSl (As := [.int (nI ((Nk 1) q))]) (rest := []) C S hl On.1 rfl (c_numberOf On ((Nk 1) q) (by first | omega | exact hL _ | exact hP _ | exact hF _) hL) (cwV 1 C.2.2.2.2 gX0_allUnlike_X1_numberOf rfl rfl rfl (by decide +kernel) ⟨Nat.le_of_ble_eq_true rfl, Nat.le_of_ble_eq_true rfl⟩) rfl rfl (Nat.le_of_ble_eq_true rfl) ⟨Nat.le_of_ble_eq_true rfl, Nat.le_of_ble_eq_true rfl⟩ dX0_allUnlike_39 (fun v hv => ?_)
              subst hv
              refine lv_lload_n C.1 C.2.1 dX0_allUnlike_42 rfl (lv_at hl 1 rfl) ?_
              refine q_lcmp_ne (tgt := 49) C dX0_allUnlike_43 dX0_allUnlike_44 (by decide) (fun c43 => ?_) (fun c43 => ?_)
              · refine q_iinc (d := 1) (lv' := [(5, .int (nI (q + 1))), (3, .long ((Jn 3) ((Nn 1) ((Nk 1) z)))), (2, .int (nI z)), (0, .ref hk), (1, .ref hn)]) C dX0_allUnlike_49 hl (k := 0) rfl (by decide) (by decide) rfl (fun ls hl => ?_)
                refine lv_goto (tgt := 25) C.1 C.2.1 dX0_allUnlike_52 (by decide) ?_
                exact ih25 (q + 1) (by omega) (by omega) (fun j hj => by rcases Nat.lt_or_ge j q with a | a; exact hq2 j a; rw [show j = q by omega]; exact c43) _ (lv_sub hl [0, 1, 2, 3, 4] rfl)
              · refine lv_iconst (v := nI 0) C.1 C.2.1 dX0_allUnlike_47 (by decide) ?_
                exact q_retSz (b := false) C hr hlk rfl (by show bI false = bI _; rw [unl_f (i := z) (j := q) (by omega) (by omega) c43]) dX0_allUnlike_48
        exact lp25 (z + 1) 0 (by omega) (by omega) (fun i hi => absurd hi (Nat.not_lt_zero i)) _ (lv_sub hl [0, 1, 2, 3, 4] rfl)
  exact lp2 (w + 2) 1 (by omega) (by omega) (fun i j hi hj => by omega) _ (lv_sub hl [0, 1, 2] rfl)
end
section
theorem inX0_isSo_X0 : ∀ w ∈ u_ws RX0 TX0 4, w ∈ wsX0_isSo := (fun _ h => (List.mem_cons_of_mem _ (List.mem_append_left _ (List.mem_append_right _ h))))
theorem lkX0_isSo_9 : Cond.fieldLink RX0 9 (TX0 0).1 (TX0 0).2.1 (TX0 0).2.2.1 ∈ wsX0_isSo := List.mem_of_getElem? (i := 1) rfl
theorem lkX0_isSo_15 : Cond.fieldLink RX0 15 (TX0 2).1 (TX0 2).2.1 (TX0 2).2.2.1 ∈ wsX0_isSo := List.mem_of_getElem? (i := 2) rfl
set_option maxHeartbeats 4000000 in
set_option maxRecDepth 100000 in
theorem c_isSo {l : Launch} {G : fw_G} {A : Nat → Prop} {f0 : fw_F} {bk hk : Nat} {w : Nat} {ak : Nat → Nat} {Ik : Nat → Nat} {Nk : Nat → Nat → Nat} {Bk : Nat → Nat → Bool} {Jk : Nat → Nat → Int64} {bn hn : Nat} {an : Nat → Nat} {In : Nat → Nat} {Nn : Nat → Nat → Nat} {Bn : Nat → Nat → Bool} {Jn : Nat → Nat → Int64} (Ok : isO G (dK w) f0 bk hk ak Ik Nk Bk Jk) (On : isO G dN f0 bn hn an In Nn Bn Jn) (hw : w ≤ 32) (hP : ∀ i, Nk 1 i < 64) (hL : ∀ i, Nn 1 i < 64) (hk2 : Ik 0 ≤ 2)  : Met l yX0_isSo wsX0_isSo ({ frames := 2, cells := 0, slots := 0, locals := 46 }) (va_Pc [.ref hk, .ref hn] (fw_P G A f0)) (vp_Si (fun (r : Int32) => r = bI (soF (Ik 0) (Jk 2 0) (Jk 3) (fun i => Jn 3 (Nn 1 (Nk 1 i))) w))) 0 0 (fun _ => False) := by
  refine q_head rfl (by decide) (Nat.le_of_ble_eq_true rfl) ?_
  intro p e s m below meth c ls C hr hlk hnm P hl
  have S := P.start
  have hl : lv_has ls 2 [(0, .ref hk), (1, .ref hn)] := hl
  refine lv_aload_n C.1 C.2.1 dX0_isSo_0 rfl (lv_at hl 0 rfl) ?_
  refine o_get (v := .int (nI (Ik 0))) C S Ok rfl inX0_isSo_X0 0 (Nat.le_of_ble_eq_true rfl) lkX0_isSo_9 rfl dX0_isSo_1 ?_
  rcases (show Ik 0 = 0 ∨ Ik 0 = 1 ∨ Ik 0 = 2 by omega) with hk0 | hk0 | hk0
  · refine lv_lookup (off := 28) (tgt := 32) C.1 C.2.1 dX0_isSo_4 (by decide) (by rw [hk0]; decide) (by decide) ?_
    refine lv_aload_n C.1 C.2.1 dX0_isSo_32 rfl (lv_at hl 0 rfl) ?_
    refine lv_aload_n C.1 C.2.1 dX0_isSo_33 rfl (lv_at hl 1 rfl) ?_
    refine q_callSl (As := [.ref hn]) (rest := []) C S hl Ok.1 rfl (c_sum Ok On hw hP hL) (cwV 1 C.2.2.2.2 gX0_isSo_X0_sum rfl rfl rfl (by decide +kernel) ⟨Nat.le_of_ble_eq_true rfl, Nat.le_of_ble_eq_true rfl⟩) rfl rfl (Nat.le_of_ble_eq_true rfl) ⟨Nat.le_of_ble_eq_true rfl, Nat.le_of_ble_eq_true rfl⟩ dX0_isSo_34 (fun v hv => ?_)
    subst hv
    refine lv_aload_n C.1 C.2.1 dX0_isSo_37 rfl (lv_at hl 0 rfl) ?_
    refine o_get (v := .long ((Jk 2) 0)) C S Ok rfl inX0_isSo_X0 2 (Nat.le_of_ble_eq_true rfl) lkX0_isSo_15 rfl dX0_isSo_38 ?_
    refine q_lcmp_gt (tgt := 49) C dX0_isSo_41 dX0_isSo_42 (by decide) (fun c41 => ?_) (fun c41 => ?_)
    · refine lv_iconst (v := nI 0) C.1 C.2.1 dX0_isSo_49 (by decide) ?_
      exact q_retSz (b := false) C hr hlk rfl (by show bI false = bI _; rw [soF, if_pos hk0]; exact congrArg bI (decide_eq_false c41).symm) dX0_isSo_50
    · refine lv_iconst (v := nI 1) C.1 C.2.1 dX0_isSo_45 (by decide) ?_
      refine lv_goto (tgt := 50) C.1 C.2.1 dX0_isSo_46 (by decide) ?_
      exact q_retSz (b := true) C hr hlk rfl (by show bI true = bI _; rw [soF, if_pos hk0]; exact congrArg bI (decide_eq_true c41).symm) dX0_isSo_50
  · refine lv_lookup (off := 47) (tgt := 51) C.1 C.2.1 dX0_isSo_4 (by decide) (by rw [hk0]; decide) (by decide) ?_
    refine lv_aload_n C.1 C.2.1 dX0_isSo_51 rfl (lv_at hl 0 rfl) ?_
    refine lv_aload_n C.1 C.2.1 dX0_isSo_52 rfl (lv_at hl 1 rfl) ?_
    refine q_callSl (As := [.ref hn]) (rest := []) C S hl Ok.1 rfl (c_sum Ok On hw hP hL) (cwV 1 C.2.2.2.2 gX0_isSo_X0_sum rfl rfl rfl (by decide +kernel) ⟨Nat.le_of_ble_eq_true rfl, Nat.le_of_ble_eq_true rfl⟩) rfl rfl (Nat.le_of_ble_eq_true rfl) ⟨Nat.le_of_ble_eq_true rfl, Nat.le_of_ble_eq_true rfl⟩ dX0_isSo_53 (fun v hv => ?_)
    subst hv
    refine lv_aload_n C.1 C.2.1 dX0_isSo_56 rfl (lv_at hl 0 rfl) ?_
    refine o_get (v := .long ((Jk 2) 0)) C S Ok rfl inX0_isSo_X0 2 (Nat.le_of_ble_eq_true rfl) lkX0_isSo_15 rfl dX0_isSo_57 ?_
    refine q_lcmp_ne (tgt := 68) C dX0_isSo_60 dX0_isSo_61 (by decide) (fun c60 => ?_) (fun c60 => ?_)
    · refine lv_iconst (v := nI 0) C.1 C.2.1 dX0_isSo_68 (by decide) ?_
      exact q_retSz (b := false) C hr hlk rfl (by show bI false = bI _; rw [soF, if_neg (by omega), if_pos hk0]; exact congrArg bI (decide_eq_false c60).symm) dX0_isSo_69
    · refine lv_iconst (v := nI 1) C.1 C.2.1 dX0_isSo_64 (by decide) ?_
      refine lv_goto (tgt := 69) C.1 C.2.1 dX0_isSo_65 (by decide) ?_
      exact q_retSz (b := true) C hr hlk rfl (by show bI true = bI _; rw [soF, if_neg (by omega), if_pos hk0]; exact congrArg bI (decide_eq_true c60).symm) dX0_isSo_69
  · refine lv_lookup (off := 66) (tgt := 70) C.1 C.2.1 dX0_isSo_4 (by decide) (by rw [hk0]; decide) (by decide) ?_
    refine lv_aload_n C.1 C.2.1 dX0_isSo_70 rfl (lv_at hl 0 rfl) ?_
    refine lv_aload_n C.1 C.2.1 dX0_isSo_71 rfl (lv_at hl 1 rfl) ?_
    refine q_callSi (As := [.ref hn]) (rest := []) C S hl Ok.1 rfl (c_allUnlike Ok On hw hP hL) (cwV 1 C.2.2.2.2 gX0_isSo_X0_allUnlike rfl rfl rfl (by decide +kernel) ⟨Nat.le_of_ble_eq_true rfl, Nat.le_of_ble_eq_true rfl⟩) rfl rfl (Nat.le_of_ble_eq_true rfl) ⟨Nat.le_of_ble_eq_true rfl, Nat.le_of_ble_eq_true rfl⟩ dX0_isSo_72 (fun v hv => ?_)
    subst hv
    exact q_retSz (b := (unl (fun i => (Jn 3) ((Nn 1) ((Nk 1) i))) w)) C hr hlk rfl (by show bI _ = bI _; rw [soF, if_neg (by omega), if_neg (by omega)]) dX0_isSo_75
theorem inX3_endWays_X3 : ∀ w ∈ u_ws RX3 TX3 6, w ∈ wsX3_endWays := (fun _ h => (List.mem_cons_of_mem _ (List.mem_append_right _ h)))
theorem lkX3_endWays_22 : Cond.fieldLink RX3 22 (TX3 1).1 (TX3 1).2.1 (TX3 1).2.2.1 ∈ wsX3_endWays := List.mem_of_getElem? (i := 1) rfl
theorem lkX3_endWays_26 : Cond.fieldLink RX3 26 (TX3 2).1 (TX3 2).2.1 (TX3 2).2.2.1 ∈ wsX3_endWays := List.mem_of_getElem? (i := 2) rfl
set_option maxHeartbeats 4000000 in
set_option maxRecDepth 100000 in
theorem c_endWays {l : Launch} {G : fw_G} {A : Nat → Prop} {f0 : fw_F} {bs hs : Nat} {as_ : Nat → Nat} {Is : Nat → Nat} {Ns : Nat → Nat → Nat} {Bs : Nat → Nat → Bool} {Js : Nat → Nat → Int64} (Os : isO G dS f0 bs hs as_ Is Ns Bs Js)   : Met l yX3_endWays wsX3_endWays ({ frames := 0, cells := 0, slots := 0, locals := 0 }) (va_Pc [.ref hs] (fw_P G A f0)) (va_Qv (fun (f1 : fw_F) => isO G dS f1 bs hs as_ (va_up (va_up Is 1 0) 2 0) Ns Bs Js ∧ fw_fr f0 f1 bs (bs + 7)) (fw_B G A) A) 0 0 A := by
  refine q_head rfl (by decide) (Nat.le_of_ble_eq_true rfl) ?_
  intro p e s m below meth c ls C hr hlk hnm P hl
  have S := P.start
  have hl : lv_has ls 1 [(0, .ref hs)] := hl
  have F := fw_fr_rf f0 bs (bs + 7)
  refine lv_aload_n C.1 C.2.1 dX3_endWays_0 rfl (lv_at hl 0 rfl) ?_
  refine lv_iconst (v := nI 0) C.1 C.2.1 dX3_endWays_1 (by decide) ?_
  refine o_puti C S Os F rfl inX3_endWays_X3 tyX3 tyX3_ok nmX3 1 (Nat.le_of_ble_eq_true rfl) rfl lkX3_endWays_22 rfl rfl ⟨by omega, by omega⟩ dX3_endWays_2 (fun f H locs S Os F => ?_)
  refine lv_aload_n C.1 C.2.1 dX3_endWays_5 rfl (lv_at hl 0 rfl) ?_
  refine lv_iconst (v := nI 0) C.1 C.2.1 dX3_endWays_6 (by decide) ?_
  refine o_puti C S Os F rfl inX3_endWays_X3 tyX3 tyX3_ok nmX3 2 (Nat.le_of_ble_eq_true rfl) rfl lkX3_endWays_26 rfl rfl ⟨by omega, by omega⟩ dX3_endWays_7 (fun f H locs S Os F => ?_)
  exact q_retQv C S hr hlk ⟨Os, F⟩ dX3_endWays_10
theorem inX3_hasWay_X3 : ∀ w ∈ u_ws RX3 TX3 6, w ∈ wsX3_hasWay := (fun _ h => (List.mem_cons_of_mem _ (List.mem_append_right _ h)))
theorem lkX3_hasWay_26 : Cond.fieldLink RX3 26 (TX3 2).1 (TX3 2).2.1 (TX3 2).2.2.1 ∈ wsX3_hasWay := List.mem_of_getElem? (i := 1) rfl
set_option maxHeartbeats 4000000 in
set_option maxRecDepth 100000 in
theorem c_hasWay {l : Launch} {G : fw_G} {A : Nat → Prop} {f0 : fw_F} {bs hs : Nat} {as_ : Nat → Nat} {Is : Nat → Nat} {Ns : Nat → Nat → Nat} {Bs : Nat → Nat → Bool} {Js : Nat → Nat → Int64} (Os : isO G dS f0 bs hs as_ Is Ns Bs Js) (x : Int32)  : Met l yX3_hasWay wsX3_hasWay ({ frames := 0, cells := 0, slots := 0, locals := 0 }) (va_Pc [.ref hs, .int x] (fw_P G A f0)) (vp_Si (fun (r : Int32) => r = bI (ix x (Is 2)))) 0 0 (fun _ => False) := by
  refine q_head rfl (by decide) (Nat.le_of_ble_eq_true rfl) ?_
  intro p e s m below meth c ls C hr hlk hnm P hl
  have S := P.start
  have hl : lv_has ls 2 [(0, .ref hs), (1, .int x)] := hl
  refine lv_iload_n C.1 C.2.1 dX3_hasWay_0 rfl (lv_at hl 1 rfl) ?_
  refine lv_if_lt (tgt := 16) C.1 C.2.1 dX3_hasWay_1 (by decide) (fun c1 => ?_) (fun c1 => ?_)
  · refine lv_iconst (v := nI 0) C.1 C.2.1 dX3_hasWay_16 (by decide) ?_
    exact q_retSz (b := false) C hr hlk rfl (by show bI false = bI _; rw [ix, decide_eq_false (not_not_intro c1)]; rfl) dX3_hasWay_17
  · refine lv_iload_n C.1 C.2.1 dX3_hasWay_4 rfl (lv_at hl 1 rfl) ?_
    refine lv_aload_n C.1 C.2.1 dX3_hasWay_5 rfl (lv_at hl 0 rfl) ?_
    refine o_get (v := .int (nI (Is 2))) C S Os rfl inX3_hasWay_X3 2 (Nat.le_of_ble_eq_true rfl) lkX3_hasWay_26 rfl dX3_hasWay_6 ?_
    refine lv_icmp_ge (tgt := 16) C.1 C.2.1 dX3_hasWay_9 (by decide) (fun c9 => ?_) (fun c9 => ?_)
    · refine lv_iconst (v := nI 0) C.1 C.2.1 dX3_hasWay_16 (by decide) ?_
      exact q_retSz (b := false) C hr hlk rfl (by show bI false = bI _; rw [ix, decide_eq_false (Int32.not_lt.mpr c9), Bool.and_false]) dX3_hasWay_17
    · refine lv_iconst (v := nI 1) C.1 C.2.1 dX3_hasWay_12 (by decide) ?_
      refine lv_goto (tgt := 17) C.1 C.2.1 dX3_hasWay_13 (by decide) ?_
      exact q_retSz (b := true) C hr hlk rfl (by show bI true = bI _; rw [ix, decide_eq_true c1, decide_eq_true (Int32.not_le.mp c9)]; rfl) dX3_hasWay_17
theorem inX3_numberIn_X3 : ∀ w ∈ u_ws RX3 TX3 6, w ∈ wsX3_numberIn := (fun _ h => (List.mem_cons_of_mem _ (List.mem_append_right _ h)))
theorem lkX3_numberIn_15 : Cond.fieldLink RX3 15 (TX3 4).1 (TX3 4).2.1 (TX3 4).2.2.1 ∈ wsX3_numberIn := List.mem_of_getElem? (i := 1) rfl
set_option maxHeartbeats 4000000 in
set_option maxRecDepth 100000 in
theorem c_numberIn {l : Launch} {G : fw_G} {A : Nat → Prop} {f0 : fw_F} {bs hs : Nat} {as_ : Nat → Nat} {Is : Nat → Nat} {Ns : Nat → Nat → Nat} {Bs : Nat → Nat → Bool} {Js : Nat → Nat → Int64} (Os : isO G dS f0 bs hs as_ Is Ns Bs Js) (x y : Nat) (hx : x < 200) (hy : y < 8)  : Met l yX3_numberIn wsX3_numberIn ({ frames := 0, cells := 0, slots := 0, locals := 0 }) (va_Pc [.ref hs, .int (nI x), .int (nI y)] (fw_P G A f0)) (vp_Sl (fun (r : Int64) => r = Js 4 (x * 8 + y))) 0 0 (fun _ => False) := by
  refine q_head rfl (by decide) (Nat.le_of_ble_eq_true rfl) ?_
  intro p e s m below meth c ls C hr hlk hnm P hl
  have S := P.start
  have hl : lv_has ls 3 [(0, .ref hs), (1, .int (nI x)), (2, .int (nI y))] := hl
  refine lv_aload_n C.1 C.2.1 dX3_numberIn_0 rfl (lv_at hl 0 rfl) ?_
  refine o_get (v := .ref (as_ 4)) C S Os rfl inX3_numberIn_X3 4 (Nat.le_of_ble_eq_true rfl) lkX3_numberIn_15 rfl dX3_numberIn_1 ?_
  refine lv_iload_n C.1 C.2.1 dX3_numberIn_4 rfl (lv_at hl 1 rfl) ?_
  refine lv_bipush (v := nI 8) C.1 C.2.1 dX3_numberIn_5 (by decide) ?_
  refine q_imul C dX3_numberIn_7 ?_
  refine lv_iload_n C.1 C.2.1 dX3_numberIn_8 rfl (lv_at hl 2 rfl) ?_
  refine q_iadd C dX3_numberIn_9 ?_
  refine o_lald (x := (Js 4) ((x * 8) + y)) C S Os 4 (Nat.le_of_ble_eq_true rfl) rfl ((x * 8) + y) rfl (show (x * 8) + y < 1600 from by omega) (Nat.le_of_ble_eq_true rfl) rfl dX3_numberIn_10 ?_
  exact q_retSl C hr hlk rfl dX3_numberIn_11
theorem inX3_levelOf_X3 : ∀ w ∈ u_ws RX3 TX3 6, w ∈ wsX3_levelOf := (fun _ h => (List.mem_cons_of_mem _ (List.mem_append_right _ h)))
theorem lkX3_levelOf_22 : Cond.fieldLink RX3 22 (TX3 1).1 (TX3 1).2.1 (TX3 1).2.2.1 ∈ wsX3_levelOf := List.mem_of_getElem? (i := 1) rfl
theorem lkX3_levelOf_9 : Cond.fieldLink RX3 9 (TX3 0).1 (TX3 0).2.1 (TX3 0).2.2.1 ∈ wsX3_levelOf := List.mem_of_getElem? (i := 2) rfl
set_option maxHeartbeats 4000000 in
set_option maxRecDepth 100000 in
theorem c_levelOf {l : Launch} {G : fw_G} {A : Nat → Prop} {f0 : fw_F} {bs hs : Nat} {as_ : Nat → Nat} {Is : Nat → Nat} {Ns : Nat → Nat → Nat} {Bs : Nat → Nat → Bool} {Js : Nat → Nat → Int64} (Os : isO G dS f0 bs hs as_ Is Ns Bs Js) (x : Nat) (hx : x < 64) (hc : Is 1 ≤ 32) (hF : ∀ i, Ns 0 i < 64)  : Met l yX3_levelOf wsX3_levelOf ({ frames := 0, cells := 0, slots := 0, locals := 0 }) (va_Pc [.ref hs, .int (nI x)] (fw_P G A f0)) (vp_Si (fun (r : Int32) => r = mI (levF (Ns 0) (Is 1) x))) 0 0 (fun _ => False) := by
  refine q_head rfl (by decide) (Nat.le_of_ble_eq_true rfl) ?_
  intro p e s m below meth c ls C hr hlk hnm P hl
  have S := P.start
  have hl : lv_has ls 3 [(0, .ref hs), (1, .int (nI x))] := hl
  refine lv_iconst (v := nI 0) C.1 C.2.1 dX3_levelOf_0 (by decide) ?_
  refine lv_istore_n (lv' := [(2, .int (nI 0)), (0, .ref hs), (1, .int (nI x))]) C.1 C.2.1 dX3_levelOf_1 rfl hl (by decide) rfl (fun ls hl => ?_)
  have lp2 : ∀ (n : Nat) (z : Nat), Is 1 - z < n → (z ≤ Is 1) → (∀ i, i < z → Ns 0 i ≠ x) → ∀ (ls : Array Slot), lv_has ls 3 [(2, .int (nI z)), (0, .ref hs), (1, .int (nI x))] → W p l e ({ frames := 0, cells := 0, slots := 0, locals := 0 }) s m [.ref hs, .int (nI x)].toArray below meth c s.heap [] 0 0 (MQ below (vp_Si (fun (r : Int32) => r = mI (levF (Ns 0) (Is 1) x))) [.ref hs, .int (nI x)].toArray s 0 0 (fun _ => False)) (F0 m 2 ls []) := by
    intro n2
    induction n2 with
    | zero => intro z hme2; exact absurd hme2 (Nat.not_lt_zero _)
    | succ n2 ih2 =>
      intro z hme2 hz hz2 ls hl
      refine lv_iload_n C.1 C.2.1 dX3_levelOf_2 rfl (lv_at hl 0 rfl) ?_
      refine lv_aload_n C.1 C.2.1 dX3_levelOf_3 rfl (lv_at hl 1 rfl) ?_
      refine o_get (v := .int (nI (Is 1))) C S Os rfl inX3_levelOf_X3 1 (Nat.le_of_ble_eq_true rfl) lkX3_levelOf_22 rfl dX3_levelOf_4 ?_
      refine q_ge (tgt := 28) C (by omega) (by omega) dX3_levelOf_7 (by decide) (fun c7 => ?_) (fun c7 => ?_)
      · refine lv_iconst (v := (-1)) C.1 C.2.1 dX3_levelOf_28 (by decide) ?_
        exact q_retSi C hr hlk (by rw [levF_0 (fun i hi => hz2 i (by omega))]; rfl) dX3_levelOf_29
      · refine lv_aload_n C.1 C.2.1 dX3_levelOf_10 rfl (lv_at hl 1 rfl) ?_
        refine o_get (v := .ref (as_ 0)) C S Os rfl inX3_levelOf_X3 0 (Nat.le_of_ble_eq_true rfl) lkX3_levelOf_9 rfl dX3_levelOf_11 ?_
        refine lv_iload_n C.1 C.2.1 dX3_levelOf_14 rfl (lv_at hl 0 rfl) ?_
        refine o_nald (x := (Ns 0) z) C S Os 0 (Nat.le_of_ble_eq_true rfl) rfl z rfl (show z < 32 from by first | omega | exact hL _ | exact hP _ | exact hF _) (Nat.le_of_ble_eq_true rfl) rfl dX3_levelOf_15 ?_
        refine lv_iload_n C.1 C.2.1 dX3_levelOf_16 rfl (lv_at hl 2 rfl) ?_
        refine q_nee (tgt := 22) C (Nat.lt_trans (hF _) (by decide)) (by omega) dX3_levelOf_17 (by decide) (fun c17 => ?_) (fun c17 => ?_)
        · refine q_iinc (d := 1) (lv' := [(2, .int (nI (z + 1))), (0, .ref hs), (1, .int (nI x))]) C dX3_levelOf_22 hl (k := 0) rfl (by decide) (by decide) rfl (fun ls hl => ?_)
          refine lv_goto (tgt := 2) C.1 C.2.1 dX3_levelOf_25 (by decide) ?_
          exact ih2 (z + 1) (by omega) (by omega) (fun i hi => by rcases Nat.lt_or_ge i z with q | q; exact hz2 i q; rw [show i = z by omega]; exact c17) _ (lv_sub hl [0, 1, 2] rfl)
        · refine lv_iload_n C.1 C.2.1 dX3_levelOf_20 rfl (lv_at hl 0 rfl) ?_
          exact q_retSi C hr hlk (by rw [levF_at c17 hz2 (by omega), mI_s]) dX3_levelOf_21
  exact lp2 (Is 1 + 1) 0 (by omega) (by omega) (fun i hi => absurd hi (Nat.not_lt_zero i)) _ (lv_sub hl [0, 1, 2] rfl)
set_option maxHeartbeats 4000000 in
set_option maxRecDepth 100000 in
theorem c_isFreeName {l : Launch} {G : fw_G} {A : Nat → Prop} {f0 : fw_F} {bs hs : Nat} {as_ : Nat → Nat} {Is : Nat → Nat} {Ns : Nat → Nat → Nat} {Bs : Nat → Nat → Bool} {Js : Nat → Nat → Int64} (Os : isO G dS f0 bs hs as_ Is Ns Bs Js) (x : Nat) (hx : x < 64) (hc : Is 1 ≤ 32) (hF : ∀ i, Ns 0 i < 64)  : Met l yX3_isFreeName wsX3_isFreeName ({ frames := 1, cells := 0, slots := 0, locals := 22 }) (va_Pc [.ref hs, .int (nI x)] (fw_P G A f0)) (vp_Si (fun (r : Int32) => r = bI (decide (levF (Ns 0) (Is 1) x ≠ 0)))) 0 0 (fun _ => False) := by
  refine q_head rfl (by decide) (Nat.le_of_ble_eq_true rfl) ?_
  intro p e s m below meth c ls C hr hlk hnm P hl
  have S := P.start
  have hl : lv_has ls 2 [(0, .ref hs), (1, .int (nI x))] := hl
  refine lv_aload_n C.1 C.2.1 dX3_isFreeName_0 rfl (lv_at hl 0 rfl) ?_
  refine lv_iload_n C.1 C.2.1 dX3_isFreeName_1 rfl (lv_at hl 1 rfl) ?_
  refine q_callSi (As := [.int (nI x)]) (rest := []) C S hl Os.1 rfl (c_levelOf Os x (by first | omega | exact hL _ | exact hP _ | exact hF _) hc hF) (cwV 1 C.2.2.2.2 gX3_isFreeName_X3_levelOf rfl rfl rfl (by decide +kernel) ⟨Nat.le_of_ble_eq_true rfl, Nat.le_of_ble_eq_true rfl⟩) rfl rfl (Nat.le_of_ble_eq_true rfl) ⟨Nat.le_of_ble_eq_true rfl, Nat.le_of_ble_eq_true rfl⟩ dX3_isFreeName_2 (fun v hv => ?_)
  subst hv
  refine lv_iconst (v := (-1)) C.1 C.2.1 dX3_isFreeName_5 (by decide) ?_
  refine lv_icmp_eq (tgt := 13) C.1 C.2.1 dX3_isFreeName_6 (by decide) (fun c6 => ?_) (fun c6 => ?_)
  · refine lv_iconst (v := nI 0) C.1 C.2.1 dX3_isFreeName_13 (by decide) ?_
    exact q_retSz (b := false) C hr hlk rfl (by show bI false = bI _; rw [decide_eq_false (not_not_intro ((mI_ne (Nat.lt_of_le_of_lt levF_le (by omega))).mp c6))]) dX3_isFreeName_14
  · refine lv_iconst (v := nI 1) C.1 C.2.1 dX3_isFreeName_9 (by decide) ?_
    refine lv_goto (tgt := 14) C.1 C.2.1 dX3_isFreeName_10 (by decide) ?_
    exact q_retSz (b := true) C hr hlk rfl (by show bI true = bI _; rw [decide_eq_true (show levF (Ns 0) (Is 1) x ≠ 0 from fun q => c6 ((mI_ne (Nat.lt_of_le_of_lt levF_le (by omega))).mpr q))]) dX3_isFreeName_14
theorem inX0_levelOfLast_X0 : ∀ w ∈ u_ws RX0 TX0 4, w ∈ wsX0_levelOfLast := (fun _ h => (List.mem_cons_of_mem _ (List.mem_append_left _ (List.mem_append_left _ (List.mem_append_right _ h)))))
theorem lkX0_levelOfLast_34 : Cond.fieldLink RX0 34 (TX0 1).1 (TX0 1).2.1 (TX0 1).2.2.1 ∈ wsX0_levelOfLast := List.mem_of_getElem? (i := 1) rfl
set_option maxHeartbeats 4000000 in
set_option maxRecDepth 100000 in
theorem c_levelOfLast {l : Launch} {G : fw_G} {A : Nat → Prop} {f0 : fw_F} {bk hk : Nat} {w : Nat} {ak : Nat → Nat} {Ik : Nat → Nat} {Nk : Nat → Nat → Nat} {Bk : Nat → Nat → Bool} {Jk : Nat → Nat → Int64} {bn hn : Nat} {an : Nat → Nat} {In : Nat → Nat} {Nn : Nat → Nat → Nat} {Bn : Nat → Nat → Bool} {Jn : Nat → Nat → Int64} {bs hs : Nat} {as_ : Nat → Nat} {Is : Nat → Nat} {Ns : Nat → Nat → Nat} {Bs : Nat → Nat → Bool} {Js : Nat → Nat → Int64} (Ok : isO G (dK w) f0 bk hk ak Ik Nk Bk Jk) (On : isO G dN f0 bn hn an In Nn Bn Jn) (Os : isO G dS f0 bs hs as_ Is Ns Bs Js) (hw : w ≤ 32) (hP : ∀ i, Nk 1 i < 64) (hL : ∀ i, Nn 1 i < 64) (hc : Is 1 ≤ 32) (hF : ∀ i, Ns 0 i < 64)  : Met l yX0_levelOfLast wsX0_levelOfLast ({ frames := 1, cells := 0, slots := 0, locals := 22 }) (va_Pc [.ref hk, .ref hn, .ref hs] (fw_P G A f0)) (vp_Si (fun (r : Int32) => r = mI (lastF (Nk 1) (Nn 1) (Bn 2) (Ns 0) (Is 1) w))) 0 0 (fun _ => False) := by
  refine q_head rfl (by decide) (Nat.le_of_ble_eq_true rfl) ?_
  intro p e s m below meth c ls C hr hlk hnm P hl
  have S := P.start
  have hl : lv_has ls 6 [(0, .ref hk), (1, .ref hn), (2, .ref hs)] := hl
  refine lv_iconst (v := (-1)) C.1 C.2.1 dX0_levelOfLast_0 (by decide) ?_
  refine lv_istore_n (lv' := [(3, .int (-1)), (0, .ref hk), (1, .ref hn), (2, .ref hs)]) C.1 C.2.1 dX0_levelOfLast_1 rfl hl (by decide) rfl (fun ls hl => ?_)
  refine lv_iconst (v := nI 0) C.1 C.2.1 dX0_levelOfLast_2 (by decide) ?_
  refine lv_istore (lv' := [(4, .int (nI 0)), (3, .int (-1)), (0, .ref hk), (1, .ref hn), (2, .ref hs)]) C.1 C.2.1 dX0_levelOfLast_3 hl (by decide) rfl (fun ls hl => ?_)
  have lp5 : ∀ (n : Nat) (z : Nat) (q : Nat), w - z < n → (z ≤ w) → (q = lastF (Nk 1) (Nn 1) (Bn 2) (Ns 0) (Is 1) z) → (q ≤ 32) → ∀ (ls : Array Slot), lv_has ls 6 [(4, .int (nI z)), (3, .int (mI q)), (0, .ref hk), (1, .ref hn), (2, .ref hs)] → W p l e ({ frames := 1, cells := 0, slots := 0, locals := 22 }) s m [.ref hk, .ref hn, .ref hs].toArray below meth c s.heap [] 0 0 (MQ below (vp_Si (fun (r : Int32) => r = mI (lastF (Nk 1) (Nn 1) (Bn 2) (Ns 0) (Is 1) w))) [.ref hk, .ref hn, .ref hs].toArray s 0 0 (fun _ => False)) (F0 m 5 ls []) := by
    intro n5
    induction n5 with
    | zero => intro z q hme5; exact absurd hme5 (Nat.not_lt_zero _)
    | succ n5 ih5 =>
      intro z q hme5 hz hq hqb ls hl
      refine lv_iload C.1 C.2.1 dX0_levelOfLast_5 (lv_at hl 0 rfl) ?_
      refine lv_aload_n C.1 C.2.1 dX0_levelOfLast_7 rfl (lv_at hl 2 rfl) ?_
      refine o_get (v := .ref (ak 1)) C S Ok rfl inX0_levelOfLast_X0 1 (Nat.le_of_ble_eq_true rfl) lkX0_levelOfLast_34 rfl dX0_levelOfLast_8 ?_
      refine q_alenN (n := w) C S ((Ok.2 1 (Nat.le_of_ble_eq_true rfl)).1 rfl) dX0_levelOfLast_11 ?_
      refine q_ge (tgt := 70) C (by omega) (by omega) dX0_levelOfLast_12 (by decide) (fun c12 => ?_) (fun c12 => ?_)
      · refine lv_iload_n C.1 C.2.1 dX0_levelOfLast_70 rfl (lv_at hl 1 rfl) ?_
        exact q_retSi C hr hlk (by rw [hq, show z = w by omega]) dX0_levelOfLast_71
      · refine lv_aload_n C.1 C.2.1 dX0_levelOfLast_15 rfl (lv_at hl 3 rfl) ?_
        refine lv_aload_n C.1 C.2.1 dX0_levelOfLast_16 rfl (lv_at hl 2 rfl) ?_
        refine o_get (v := .ref (ak 1)) C S Ok rfl inX0_levelOfLast_X0 1 (Nat.le_of_ble_eq_true rfl) lkX0_levelOfLast_34 rfl dX0_levelOfLast_17 ?_
        refine lv_iload C.1 C.2.1 dX0_levelOfLast_20 (lv_at hl 0 rfl) ?_
        refine o_nald (x := (Nk 1) z) C S Ok 1 (Nat.le_of_ble_eq_true rfl) rfl z rfl (show z < w from by first | omega | exact hL _ | exact hP _ | exact hF _) (show w < 2 ^ 31 by omega) rfl dX0_levelOfLast_22 ?_
        refine q_callSi (As := [.int (nI ((Nk 1) z))]) (rest := []) C S hl On.1 rfl (c_isKnown On ((Nk 1) z) (by first | omega | exact hL _ | exact hP _ | exact hF _) hL) (cwV 1 C.2.2.2.2 gX0_levelOfLast_X1_isKnown rfl rfl rfl (by decide +kernel) ⟨Nat.le_of_ble_eq_true rfl, Nat.le_of_ble_eq_true rfl⟩) rfl rfl (Nat.le_of_ble_eq_true rfl) ⟨Nat.le_of_ble_eq_true rfl, Nat.le_of_ble_eq_true rfl⟩ dX0_levelOfLast_23 (fun v hv => ?_)
        subst hv
        refine q_ifneB (tgt := 64) C dX0_levelOfLast_26 (by decide) (fun c26 => ?_) (fun c26 => ?_)
        · refine q_iinc (d := 1) (lv' := [(4, .int (nI (z + 1))), (3, .int (mI q)), (0, .ref hk), (1, .ref hn), (2, .ref hs)]) C dX0_levelOfLast_64 hl (k := 0) rfl (by decide) (by decide) rfl (fun ls hl => ?_)
          refine lv_goto (tgt := 5) C.1 C.2.1 dX0_levelOfLast_67 (by decide) ?_
          exact ih5 (z + 1) q (by omega) (by omega) (by rw [hq, lastF_k c26]) (by omega) _ (lv_sub hl [0, 1, 2, 3, 4] rfl)
        · refine lv_aload_n C.1 C.2.1 dX0_levelOfLast_29 rfl (lv_at hl 4 rfl) ?_
          refine lv_aload_n C.1 C.2.1 dX0_levelOfLast_30 rfl (lv_at hl 3 rfl) ?_
          refine lv_aload_n C.1 C.2.1 dX0_levelOfLast_31 rfl (lv_at hl 2 rfl) ?_
          refine o_get (v := .ref (ak 1)) C S Ok rfl inX0_levelOfLast_X0 1 (Nat.le_of_ble_eq_true rfl) lkX0_levelOfLast_34 rfl dX0_levelOfLast_32 ?_
          refine lv_iload C.1 C.2.1 dX0_levelOfLast_35 (lv_at hl 0 rfl) ?_
          refine o_nald (x := (Nk 1) z) C S Ok 1 (Nat.le_of_ble_eq_true rfl) rfl z rfl (show z < w from by first | omega | exact hL _ | exact hP _ | exact hF _) (show w < 2 ^ 31 by omega) rfl dX0_levelOfLast_37 ?_
          refine q_callSi (As := [.int (nI ((Nk 1) z))]) (rest := [.ref hs]) C S hl On.1 rfl (c_leastOf On ((Nk 1) z) (by first | omega | exact hL _ | exact hP _ | exact hF _) ) (cwV 1 C.2.2.2.2 gX0_levelOfLast_X1_leastOf rfl rfl rfl (by decide +kernel) ⟨Nat.le_of_ble_eq_true rfl, Nat.le_of_ble_eq_true rfl⟩) rfl rfl (Nat.le_of_ble_eq_true rfl) ⟨Nat.le_of_ble_eq_true rfl, Nat.le_of_ble_eq_true rfl⟩ dX0_levelOfLast_38 (fun v hv => ?_)
          subst hv
          refine q_callSi (As := [.int (nI ((Nn 1) ((Nk 1) z)))]) (rest := []) C S hl Os.1 rfl (c_levelOf Os ((Nn 1) ((Nk 1) z)) (by first | omega | exact hL _ | exact hP _ | exact hF _) hc hF) (cwV 1 C.2.2.2.2 gX0_levelOfLast_X3_levelOf rfl rfl rfl (by decide +kernel) ⟨Nat.le_of_ble_eq_true rfl, Nat.le_of_ble_eq_true rfl⟩) rfl rfl (Nat.le_of_ble_eq_true rfl) ⟨Nat.le_of_ble_eq_true rfl, Nat.le_of_ble_eq_true rfl⟩ dX0_levelOfLast_41 (fun v hv => ?_)
          subst hv
          refine lv_istore (lv' := [(5, .int (mI (levF (Ns 0) (Is 1) ((Nn 1) ((Nk 1) z))))), (4, .int (nI z)), (3, .int (mI q)), (0, .ref hk), (1, .ref hn), (2, .ref hs)]) C.1 C.2.1 dX0_levelOfLast_44 hl (by decide) rfl (fun ls hl => ?_)
          refine lv_iload_n C.1 C.2.1 dX0_levelOfLast_46 rfl (lv_at hl 2 rfl) ?_
          refine lv_iload C.1 C.2.1 dX0_levelOfLast_47 (lv_at hl 0 rfl) ?_
          refine lv_iconst (v := (-1)) C.1 C.2.1 dX0_levelOfLast_49 (by decide) ?_
          refine lv_icmp_ne (tgt := 58) C.1 C.2.1 dX0_levelOfLast_50 (by decide) (fun c50 => ?_) (fun c50 => ?_)
          · refine lv_iload C.1 C.2.1 dX0_levelOfLast_58 (lv_at hl 0 rfl) ?_
            refine va_mmax C.1 C.2.1 (C.2.2.1.trans hl.1.symm) C.2.2.2.1 (C.2.2.2.2 _ (List.mem_of_getElem? (i := 2) rfl)) (C.2.2.2.2 _ (List.mem_of_getElem? (i := 3) rfl)) (C.2.2.2.2 _ (List.mem_of_getElem? (i := 4) rfl)) (C.2.2.2.2 _ (List.mem_of_getElem? (i := 5) rfl)) (Nat.le_of_ble_eq_true rfl) (Nat.le_of_ble_eq_true rfl) (Nat.le_of_ble_eq_true rfl) (Nat.le_of_ble_eq_true rfl) dX0_levelOfLast_60 ?_
            rw [mI_mx (by omega) (Nat.lt_of_le_of_lt levF_le (by omega))]
            refine lv_istore_n (lv' := [(3, .int (mI (max q (levF (Ns 0) (Is 1) (Nn 1 (Nk 1 z)))))), (5, .int (mI (levF (Ns 0) (Is 1) ((Nn 1) ((Nk 1) z))))), (4, .int (nI z)), (0, .ref hk), (1, .ref hn), (2, .ref hs)]) C.1 C.2.1 dX0_levelOfLast_63 rfl hl (by decide) rfl (fun ls hl => ?_)
            refine q_iinc (d := 1) (lv' := [(4, .int (nI (z + 1))), (3, .int (mI (max q (levF (Ns 0) (Is 1) (Nn 1 (Nk 1 z)))))), (5, .int (mI (levF (Ns 0) (Is 1) ((Nn 1) ((Nk 1) z))))), (0, .ref hk), (1, .ref hn), (2, .ref hs)]) C dX0_levelOfLast_64 hl (k := 2) rfl (by decide) (by decide) rfl (fun ls hl => ?_)
            refine lv_goto (tgt := 5) C.1 C.2.1 dX0_levelOfLast_67 (by decide) ?_
            exact ih5 (z + 1) (max q (levF (Ns 0) (Is 1) (Nn 1 (Nk 1 z)))) (by omega) (by omega) (by rw [hq, lastF_u c26, if_neg (fun q => c50 ((mI_ne (Nat.lt_of_le_of_lt levF_le (by omega))).mpr q))]) (by have := levF_le (fr := Ns 0) (x := Nn 1 (Nk 1 z)) (n := Is 1); omega) _ (lv_sub hl [0, 1, 3, 4, 5] rfl)
          · refine lv_bipush (v := nI 8) C.1 C.2.1 dX0_levelOfLast_53 (by decide) ?_
            refine lv_goto (tgt := 60) C.1 C.2.1 dX0_levelOfLast_55 (by decide) ?_
            refine va_mmax C.1 C.2.1 (C.2.2.1.trans hl.1.symm) C.2.2.2.1 (C.2.2.2.2 _ (List.mem_of_getElem? (i := 2) rfl)) (C.2.2.2.2 _ (List.mem_of_getElem? (i := 3) rfl)) (C.2.2.2.2 _ (List.mem_of_getElem? (i := 4) rfl)) (C.2.2.2.2 _ (List.mem_of_getElem? (i := 5) rfl)) (Nat.le_of_ble_eq_true rfl) (Nat.le_of_ble_eq_true rfl) (Nat.le_of_ble_eq_true rfl) (Nat.le_of_ble_eq_true rfl) dX0_levelOfLast_60 ?_
            rw [show nI 8 = mI 9 from rfl, mI_mx (by omega) (by decide)]
            refine lv_istore_n (lv' := [(3, .int (mI (max q 9))), (5, .int (mI (levF (Ns 0) (Is 1) ((Nn 1) ((Nk 1) z))))), (4, .int (nI z)), (0, .ref hk), (1, .ref hn), (2, .ref hs)]) C.1 C.2.1 dX0_levelOfLast_63 rfl hl (by decide) rfl (fun ls hl => ?_)
            refine q_iinc (d := 1) (lv' := [(4, .int (nI (z + 1))), (3, .int (mI (max q 9))), (5, .int (mI (levF (Ns 0) (Is 1) ((Nn 1) ((Nk 1) z))))), (0, .ref hk), (1, .ref hn), (2, .ref hs)]) C dX0_levelOfLast_64 hl (k := 2) rfl (by decide) (by decide) rfl (fun ls hl => ?_)
            refine lv_goto (tgt := 5) C.1 C.2.1 dX0_levelOfLast_67 (by decide) ?_
            exact ih5 (z + 1) (max q 9) (by omega) (by omega) (by rw [hq, lastF_u c26, if_pos ((mI_ne (Nat.lt_of_le_of_lt levF_le (by omega))).mp c50)]) (by omega) _ (lv_sub hl [0, 1, 3, 4, 5] rfl)
  exact lp5 (w + 1) 0 0 (by omega) (by omega) rfl (by omega) _ (lv_sub hl [0, 1, 2, 3, 4] rfl)
theorem inX3_reasonNotToStart_X3 : ∀ w ∈ u_ws RX3 TX3 6, w ∈ wsX3_reasonNotToStart := (fun _ h => (List.mem_cons_of_mem _ (List.mem_append_left _ (List.mem_append_right _ h))))
theorem lkX3_reasonNotToStart_22 : Cond.fieldLink RX3 22 (TX3 1).1 (TX3 1).2.1 (TX3 1).2.2.1 ∈ wsX3_reasonNotToStart := List.mem_of_getElem? (i := 1) rfl
theorem lkX3_reasonNotToStart_9 : Cond.fieldLink RX3 9 (TX3 0).1 (TX3 0).2.1 (TX3 0).2.2.1 ∈ wsX3_reasonNotToStart := List.mem_of_getElem? (i := 2) rfl
set_option maxHeartbeats 4000000 in
set_option maxRecDepth 100000 in
theorem c_reason {l : Launch} {G : fw_G} {A : Nat → Prop} {f0 : fw_F} {bs hs : Nat} {as_ : Nat → Nat} {Is : Nat → Nat} {Ns : Nat → Nat → Nat} {Bs : Nat → Nat → Bool} {Js : Nat → Nat → Int64} {bn hn : Nat} {an : Nat → Nat} {In : Nat → Nat} {Nn : Nat → Nat → Nat} {Bn : Nat → Nat → Bool} {Jn : Nat → Nat → Int64} (Os : isO G dS f0 bs hs as_ Is Ns Bs Js) (On : isO G dN f0 bn hn an In Nn Bn Jn) (hc : Is 1 ≤ 32) (hF : ∀ i, Ns 0 i < 64) (hL : ∀ i, Nn 1 i < 64)  : Met l yX3_reasonNotToStart wsX3_reasonNotToStart ({ frames := 1, cells := 0, slots := 0, locals := 21 }) (va_Pc [.ref hs, .ref hn] (fw_P G A f0)) (vp_Si (fun (r : Int32) => r = (if allb (fun i => Bn 4 (Nn 1 (Ns 0 i))) (Is 1) = true then (if 8 < Is 1 then (-2) else 0) else (-1)))) 0 0 (fun _ => False) := by
  refine q_head rfl (by decide) (Nat.le_of_ble_eq_true rfl) ?_
  intro p e s m below meth c ls C hr hlk hnm P hl
  have S := P.start
  have hl : lv_has ls 3 [(0, .ref hs), (1, .ref hn)] := hl
  refine lv_iconst (v := nI 0) C.1 C.2.1 dX3_reasonNotToStart_0 (by decide) ?_
  refine lv_istore_n (lv' := [(2, .int (nI 0)), (0, .ref hs), (1, .ref hn)]) C.1 C.2.1 dX3_reasonNotToStart_1 rfl hl (by decide) rfl (fun ls hl => ?_)
  have lp2 : ∀ (n : Nat) (z : Nat), Is 1 - z < n → (z ≤ Is 1) → (∀ i, i < z → Bn 4 (Nn 1 (Ns 0 i)) = true) → ∀ (ls : Array Slot), lv_has ls 3 [(2, .int (nI z)), (0, .ref hs), (1, .ref hn)] → W p l e ({ frames := 1, cells := 0, slots := 0, locals := 21 }) s m [.ref hs, .ref hn].toArray below meth c s.heap [] 0 0 (MQ below (vp_Si (fun (r : Int32) => r = (if allb (fun i => Bn 4 (Nn 1 (Ns 0 i))) (Is 1) = true then (if 8 < Is 1 then (-2) else 0) else (-1)))) [.ref hs, .ref hn].toArray s 0 0 (fun _ => False)) (F0 m 2 ls []) := by
    intro n2
    induction n2 with
    | zero => intro z hme2; exact absurd hme2 (Nat.not_lt_zero _)
    | succ n2 ih2 =>
      intro z hme2 hz hz2 ls hl
      refine lv_iload_n C.1 C.2.1 dX3_reasonNotToStart_2 rfl (lv_at hl 0 rfl) ?_
      refine lv_aload_n C.1 C.2.1 dX3_reasonNotToStart_3 rfl (lv_at hl 1 rfl) ?_
      refine o_get (v := .int (nI (Is 1))) C S Os rfl inX3_reasonNotToStart_X3 1 (Nat.le_of_ble_eq_true rfl) lkX3_reasonNotToStart_22 rfl dX3_reasonNotToStart_4 ?_
      refine q_ge (tgt := 31) C (by omega) (by omega) dX3_reasonNotToStart_7 (by decide) (fun c7 => ?_) (fun c7 => ?_)
      · refine lv_aload_n C.1 C.2.1 dX3_reasonNotToStart_31 rfl (lv_at hl 1 rfl) ?_
        refine o_get (v := .int (nI (Is 1))) C S Os rfl inX3_reasonNotToStart_X3 1 (Nat.le_of_ble_eq_true rfl) lkX3_reasonNotToStart_22 rfl dX3_reasonNotToStart_32 ?_
        refine lv_bipush (v := nI 8) C.1 C.2.1 dX3_reasonNotToStart_35 (by decide) ?_
        refine q_le (tgt := 45) C (by omega) (by decide) dX3_reasonNotToStart_37 (by decide) (fun c37 => ?_) (fun c37 => ?_)
        · refine lv_iconst (v := nI 0) C.1 C.2.1 dX3_reasonNotToStart_45 (by decide) ?_
          exact q_retSi C hr hlk (by rw [if_pos (allb_t (fun i hi => hz2 i (by omega))), if_neg (by omega)]; rfl) dX3_reasonNotToStart_46
        · refine lv_bipush (v := (-2)) C.1 C.2.1 dX3_reasonNotToStart_40 (by decide) ?_
          refine lv_goto (tgt := 46) C.1 C.2.1 dX3_reasonNotToStart_42 (by decide) ?_
          exact q_retSi C hr hlk (by rw [if_pos (allb_t (fun i hi => hz2 i (by omega))), if_pos (by omega)]) dX3_reasonNotToStart_46
      · refine lv_aload_n C.1 C.2.1 dX3_reasonNotToStart_10 rfl (lv_at hl 2 rfl) ?_
        refine lv_aload_n C.1 C.2.1 dX3_reasonNotToStart_11 rfl (lv_at hl 1 rfl) ?_
        refine o_get (v := .ref (as_ 0)) C S Os rfl inX3_reasonNotToStart_X3 0 (Nat.le_of_ble_eq_true rfl) lkX3_reasonNotToStart_9 rfl dX3_reasonNotToStart_12 ?_
        refine lv_iload_n C.1 C.2.1 dX3_reasonNotToStart_15 rfl (lv_at hl 0 rfl) ?_
        refine o_nald (x := (Ns 0) z) C S Os 0 (Nat.le_of_ble_eq_true rfl) rfl z rfl (show z < 32 from by first | omega | exact hL _ | exact hP _ | exact hF _) (Nat.le_of_ble_eq_true rfl) rfl dX3_reasonNotToStart_16 ?_
        refine q_callSi (As := [.int (nI ((Ns 0) z))]) (rest := []) C S hl On.1 rfl (c_hasSpan On ((Ns 0) z) (by first | omega | exact hL _ | exact hP _ | exact hF _) hL) (cwV 1 C.2.2.2.2 gX3_reasonNotToStart_X1_hasSpan rfl rfl rfl (by decide +kernel) ⟨Nat.le_of_ble_eq_true rfl, Nat.le_of_ble_eq_true rfl⟩) rfl rfl (Nat.le_of_ble_eq_true rfl) ⟨Nat.le_of_ble_eq_true rfl, Nat.le_of_ble_eq_true rfl⟩ dX3_reasonNotToStart_17 (fun v hv => ?_)
        subst hv
        refine q_ifneB (tgt := 25) C dX3_reasonNotToStart_20 (by decide) (fun c20 => ?_) (fun c20 => ?_)
        · refine q_iinc (d := 1) (lv' := [(2, .int (nI (z + 1))), (0, .ref hs), (1, .ref hn)]) C dX3_reasonNotToStart_25 hl (k := 0) rfl (by decide) (by decide) rfl (fun ls hl => ?_)
          refine lv_goto (tgt := 2) C.1 C.2.1 dX3_reasonNotToStart_28 (by decide) ?_
          exact ih2 (z + 1) (by omega) (by omega) (fun i hi => by rcases Nat.lt_or_ge i z with q | q; exact hz2 i q; rw [show i = z by omega]; exact c20) _ (lv_sub hl [0, 1, 2] rfl)
        · refine lv_iconst (v := (-1)) C.1 C.2.1 dX3_reasonNotToStart_23 (by decide) ?_
          exact q_retSi C hr hlk (by rw [if_neg (by rw [allb_f (i := z) (by omega) c20]; decide)]) dX3_reasonNotToStart_24
  exact lp2 (Is 1 + 1) 0 (by omega) (by omega) (fun i hi => absurd hi (Nat.not_lt_zero i)) _ (lv_sub hl [0, 1, 2] rfl)
theorem inX3_gatherFree_X2 : ∀ w ∈ u_ws RX2 TX2 3, w ∈ wsX3_gatherFree := (fun _ h => (List.mem_cons_of_mem _ (List.mem_append_left _ (List.mem_append_left _ (List.mem_append_right _ h)))))
theorem lkX3_gatherFree_55 : Cond.fieldLink RX3 55 (TX2 0).1 (TX2 0).2.1 (TX2 0).2.2.1 ∈ wsX3_gatherFree := List.mem_of_getElem? (i := 1) rfl
theorem inX3_gatherFree_X3 : ∀ w ∈ u_ws RX3 TX3 6, w ∈ wsX3_gatherFree := (fun _ h => (List.mem_cons_of_mem _ (List.mem_append_left _ (List.mem_append_right _ h))))
theorem lkX3_gatherFree_9 : Cond.fieldLink RX3 9 (TX3 0).1 (TX3 0).2.1 (TX3 0).2.2.1 ∈ wsX3_gatherFree := List.mem_of_getElem? (i := 2) rfl
theorem lkX3_gatherFree_22 : Cond.fieldLink RX3 22 (TX3 1).1 (TX3 1).2.1 (TX3 1).2.2.1 ∈ wsX3_gatherFree := List.mem_of_getElem? (i := 3) rfl
set_option maxHeartbeats 4000000 in
set_option maxRecDepth 100000 in
theorem c_gatherFree {l : Launch} {G : fw_G} {A : Nat → Prop} {f0 : fw_F} {bs hs : Nat} {as_ : Nat → Nat} {Is : Nat → Nat} {Ns : Nat → Nat → Nat} {Bs : Nat → Nat → Bool} {Js : Nat → Nat → Int64} {br hro : Nat} {ar : Nat → Nat} {Ir : Nat → Nat} {Nr : Nat → Nat → Nat} {Br : Nat → Nat → Bool} {Jr : Nat → Nat → Int64} {bn hn : Nat} {an : Nat → Nat} {In : Nat → Nat} {Nn : Nat → Nat → Nat} {Bn : Nat → Nat → Bool} {Jn : Nat → Nat → Int64} (Os : isO G dS f0 bs hs as_ Is Ns Bs Js) (Or : isO G dR f0 br hro ar Ir Nr Br Jr) (On : isO G dN f0 bn hn an In Nn Bn Jn) (hd1 : br + 4 ≤ bs ∨ bs + 7 ≤ br) (hd2 : bn + 8 ≤ bs ∨ bs + 7 ≤ bn) (h0 : Is 1 = 0) (hm : Ir 0 ≤ 32) (hP : ∀ i, Nr 1 i < 64) (hF : ∀ i, Ns 0 i < 64) (hL : ∀ i, Nn 1 i < 64)  : Met l yX3_gatherFree wsX3_gatherFree ({ frames := 2, cells := 0, slots := 0, locals := 43 }) (va_Pc [.ref hs, .ref hro, .ref hn] (fw_P G A f0)) (va_Qv (fun (f1 : fw_F) => isO G dS f1 bs hs as_ (va_up Is 1 (gth (Nr 1) (Nn 1) (Bn 2) (Is 1) (Ns 0) (Ir 0)).1) (va_up Ns 0 (gth (Nr 1) (Nn 1) (Bn 2) (Is 1) (Ns 0) (Ir 0)).2) Bs Js ∧ fw_fr f0 f1 bs (bs + 7)) (fw_B G A) A) 0 0 A := by
  refine q_head rfl (by decide) (Nat.le_of_ble_eq_true rfl) ?_
  intro p e s m below meth c ls C hr hlk hnm P hl
  have S := P.start
  have hl : lv_has ls 5 [(0, .ref hs), (1, .ref hro), (2, .ref hn)] := hl
  have F := fw_fr_rf f0 bs (bs + 7)
  refine lv_iconst (v := nI 0) C.1 C.2.1 dX3_gatherFree_0 (by decide) ?_
  refine lv_istore_n (lv' := [(3, .int (nI 0)), (0, .ref hs), (1, .ref hro), (2, .ref hn)]) C.1 C.2.1 dX3_gatherFree_1 rfl hl (by decide) rfl (fun ls hl => ?_)
  have lp2 : ∀ (n : Nat) (z : Nat) (I3 : Nat → Nat) (N3 : Nat → Nat → Nat), Ir 0 - z < n → (z ≤ Ir 0) → (I3 = va_up Is 1 (gth (Nr 1) (Nn 1) (Bn 2) (Is 1) (Ns 0) z).1) → (N3 = va_up Ns 0 (gth (Nr 1) (Nn 1) (Bn 2) (Is 1) (Ns 0) z).2) → (I3 1 ≤ z) → (∀ i, N3 0 i < 64) → ∀ (f : fw_F) (H : Heap) (locs : List Loc) (ls : Array Slot), fw_S G A s f H locs → isO G dS f bs hs as_ I3 N3 Bs Js → fw_fr f0 f bs (bs + 7) → lv_has ls 5 [(3, .int (nI z)), (0, .ref hs), (1, .ref hro), (2, .ref hn)] → W p l e ({ frames := 2, cells := 0, slots := 0, locals := 43 }) s m [.ref hs, .ref hro, .ref hn].toArray below meth c H locs 0 0 (MQ below (va_Qv (fun (f1 : fw_F) => isO G dS f1 bs hs as_ (va_up Is 1 (gth (Nr 1) (Nn 1) (Bn 2) (Is 1) (Ns 0) (Ir 0)).1) (va_up Ns 0 (gth (Nr 1) (Nn 1) (Bn 2) (Is 1) (Ns 0) (Ir 0)).2) Bs Js ∧ fw_fr f0 f1 bs (bs + 7)) (fw_B G A) A) [.ref hs, .ref hro, .ref hn].toArray s 0 0 A) (F0 m 2 ls []) := by
    intro n2
    induction n2 with
    | zero => intro z I3 N3 hme2; exact absurd hme2 (Nat.not_lt_zero _)
    | succ n2 ih2 =>
      intro z I3 N3 hme2 hz hI3 hN3 hb hF3 f H locs ls S Os F hl
      have hN30 : N3 0 = (gth (Nr 1) (Nn 1) (Bn 2) (Is 1) (Ns 0) z).2 := by rw [hN3, up_s]
      have hI31 : I3 1 = (gth (Nr 1) (Nn 1) (Bn 2) (Is 1) (Ns 0) z).1 := by rw [hI3, up_s]
      refine lv_iload_n C.1 C.2.1 dX3_gatherFree_2 rfl (lv_at hl 0 rfl) ?_
      refine lv_aload_n C.1 C.2.1 dX3_gatherFree_3 rfl (lv_at hl 2 rfl) ?_
      refine o_get (v := .int (nI (Ir 0))) C S (o_fr Or F hd1) rfl inX3_gatherFree_X2 0 (Nat.le_of_ble_eq_true rfl) lkX3_gatherFree_55 rfl dX3_gatherFree_4 ?_
      refine q_ge (tgt := 67) C (by omega) (by omega) dX3_gatherFree_7 (by decide) (fun c7 => ?_) (fun c7 => ?_)
      · exact q_retQv C S hr hlk ⟨by rw [show Ir 0 = z by omega, ← hI3, ← hN3]; exact Os, F⟩ dX3_gatherFree_67
      · refine lv_aload_n C.1 C.2.1 dX3_gatherFree_10 rfl (lv_at hl 3 rfl) ?_
        refine lv_aload_n C.1 C.2.1 dX3_gatherFree_11 rfl (lv_at hl 2 rfl) ?_
        refine o_getN (v := .ref (ar 1)) C S (o_fr Or F hd1) rfl inX3_gatherFree_X2 1 (Nat.le_of_ble_eq_true rfl) S.2.2.2.1.2.1.2.2 rfl dX3_gatherFree_12 ?_
        refine lv_iload_n C.1 C.2.1 dX3_gatherFree_15 rfl (lv_at hl 0 rfl) ?_
        refine o_nald (x := (Nr 1) z) C S (o_fr Or F hd1) 1 (Nat.le_of_ble_eq_true rfl) rfl z rfl (show z < 32 from by first | omega | exact hL _ | exact hP _ | exact hF _) (Nat.le_of_ble_eq_true rfl) rfl dX3_gatherFree_16 ?_
        refine q_callSi (As := [.int (nI ((Nr 1) z))]) (rest := []) C S hl (o_fr On F hd2).1 rfl (c_leastOf (o_fr On F hd2) ((Nr 1) z) (by first | omega | exact hL _ | exact hP _ | exact hF _) ) (cwV 1 C.2.2.2.2 gX3_gatherFree_X1_leastOf rfl rfl rfl (by decide +kernel) ⟨Nat.le_of_ble_eq_true rfl, Nat.le_of_ble_eq_true rfl⟩) rfl rfl (Nat.le_of_ble_eq_true rfl) ⟨Nat.le_of_ble_eq_true rfl, Nat.le_of_ble_eq_true rfl⟩ dX3_gatherFree_17 (fun v hv => ?_)
        subst hv
        refine lv_istore (lv' := [(4, .int (nI ((Nn 1) ((Nr 1) z)))), (3, .int (nI z)), (0, .ref hs), (1, .ref hro), (2, .ref hn)]) C.1 C.2.1 dX3_gatherFree_20 hl (by decide) rfl (fun ls hl => ?_)
        refine lv_aload_n C.1 C.2.1 dX3_gatherFree_22 rfl (lv_at hl 4 rfl) ?_
        refine lv_iload C.1 C.2.1 dX3_gatherFree_23 (lv_at hl 0 rfl) ?_
        refine q_callSi (As := [.int (nI ((Nn 1) ((Nr 1) z)))]) (rest := []) C S hl (o_fr On F hd2).1 rfl (c_isKnown (o_fr On F hd2) ((Nn 1) ((Nr 1) z)) (by first | omega | exact hL _ | exact hP _ | exact hF _) hL) (cwV 1 C.2.2.2.2 gX3_gatherFree_X1_isKnown rfl rfl rfl (by decide +kernel) ⟨Nat.le_of_ble_eq_true rfl, Nat.le_of_ble_eq_true rfl⟩) rfl rfl (Nat.le_of_ble_eq_true rfl) ⟨Nat.le_of_ble_eq_true rfl, Nat.le_of_ble_eq_true rfl⟩ dX3_gatherFree_25 (fun v hv => ?_)
        subst hv
        refine q_ifneB (tgt := 61) C dX3_gatherFree_28 (by decide) (fun c28 => ?_) (fun c28 => ?_)
        · refine q_iinc (d := 1) (lv' := [(3, .int (nI (z + 1))), (4, .int (nI ((Nn 1) ((Nr 1) z)))), (0, .ref hs), (1, .ref hro), (2, .ref hn)]) C dX3_gatherFree_61 hl (k := 1) rfl (by decide) (by decide) rfl (fun ls hl => ?_)
          refine lv_goto (tgt := 2) C.1 C.2.1 dX3_gatherFree_64 (by decide) ?_
          exact ih2 (z + 1) I3 N3 (by omega) (by omega) (by rw [gth_k c28]; exact hI3) (by rw [gth_k c28]; exact hN3) (by omega) hF3 _ _ _ _ S Os F (lv_sub hl [0, 2, 3, 4] rfl)
        · refine lv_aload_n C.1 C.2.1 dX3_gatherFree_31 rfl (lv_at hl 2 rfl) ?_
          refine lv_iload C.1 C.2.1 dX3_gatherFree_32 (lv_at hl 0 rfl) ?_
          refine q_callSi (As := [.int (nI ((Nn 1) ((Nr 1) z)))]) (rest := []) C S hl Os.1 rfl (c_isFreeName Os ((Nn 1) ((Nr 1) z)) (by first | omega | exact hL _ | exact hP _ | exact hF _) (by omega) hF3) (cwV 1 C.2.2.2.2 gX3_gatherFree_X3_isFreeName rfl rfl rfl (by decide +kernel) ⟨Nat.le_of_ble_eq_true rfl, Nat.le_of_ble_eq_true rfl⟩) rfl rfl (Nat.le_of_ble_eq_true rfl) ⟨Nat.le_of_ble_eq_true rfl, Nat.le_of_ble_eq_true rfl⟩ dX3_gatherFree_34 (fun v hv => ?_)
          subst hv
          refine q_ifneB (tgt := 61) C dX3_gatherFree_37 (by decide) (fun c37 => ?_) (fun c37 => ?_)
          · refine q_iinc (d := 1) (lv' := [(3, .int (nI (z + 1))), (4, .int (nI ((Nn 1) ((Nr 1) z)))), (0, .ref hs), (1, .ref hro), (2, .ref hn)]) C dX3_gatherFree_61 hl (k := 1) rfl (by decide) (by decide) rfl (fun ls hl => ?_)
            refine lv_goto (tgt := 2) C.1 C.2.1 dX3_gatherFree_64 (by decide) ?_
            exact ih2 (z + 1) I3 N3 (by omega) (by omega) (by rw [gth_o (by rw [← hN30, ← hI31]; exact of_decide_eq_true c37)]; exact hI3) (by rw [gth_o (by rw [← hN30, ← hI31]; exact of_decide_eq_true c37)]; exact hN3) (by omega) hF3 _ _ _ _ S Os F (lv_sub hl [0, 2, 3, 4] rfl)
          · refine lv_aload_n C.1 C.2.1 dX3_gatherFree_40 rfl (lv_at hl 2 rfl) ?_
            refine o_get (v := .ref (as_ 0)) C S Os rfl inX3_gatherFree_X3 0 (Nat.le_of_ble_eq_true rfl) lkX3_gatherFree_9 rfl dX3_gatherFree_41 ?_
            refine lv_aload_n C.1 C.2.1 dX3_gatherFree_44 rfl (lv_at hl 2 rfl) ?_
            refine o_get (v := .int (nI (I3 1))) C S Os rfl inX3_gatherFree_X3 1 (Nat.le_of_ble_eq_true rfl) lkX3_gatherFree_22 rfl dX3_gatherFree_45 ?_
            refine lv_iload C.1 C.2.1 dX3_gatherFree_48 (lv_at hl 0 rfl) ?_
            refine o_nast C S Os F 0 (Nat.le_of_ble_eq_true rfl) rfl (I3 1) rfl (show (I3 1) < 32 from by omega) (Nat.le_of_ble_eq_true rfl) ⟨by omega, by omega⟩ dX3_gatherFree_50 (fun f H locs S Os F => ?_)
            refine lv_aload_n C.1 C.2.1 dX3_gatherFree_51 rfl (lv_at hl 2 rfl) ?_
            refine lv_dup C.1 C.2.1 dX3_gatherFree_52 rfl ?_
            refine o_get (v := .int (nI (I3 1))) C S Os rfl inX3_gatherFree_X3 1 (Nat.le_of_ble_eq_true rfl) lkX3_gatherFree_22 rfl dX3_gatherFree_53 ?_
            refine lv_iconst (v := nI 1) C.1 C.2.1 dX3_gatherFree_56 (by decide) ?_
            refine q_iadd C dX3_gatherFree_57 ?_
            refine o_puti C S Os F rfl inX3_gatherFree_X3 tyX3 tyX3_ok nmX3 1 (Nat.le_of_ble_eq_true rfl) rfl lkX3_gatherFree_22 rfl rfl ⟨by omega, by omega⟩ dX3_gatherFree_58 (fun f H locs S Os F => ?_)
            refine q_iinc (d := 1) (lv' := [(3, .int (nI (z + 1))), (4, .int (nI ((Nn 1) ((Nr 1) z)))), (0, .ref hs), (1, .ref hro), (2, .ref hn)]) C dX3_gatherFree_61 hl (k := 1) rfl (by decide) (by decide) rfl (fun ls hl => ?_)
            refine lv_goto (tgt := 2) C.1 C.2.1 dX3_gatherFree_64 (by decide) ?_
            exact ih2 (z + 1) (va_up I3 1 ((I3 1) + 1)) (va_up N3 0 (va_up (N3 0) (I3 1) ((Nn 1) ((Nr 1) z)))) (by omega) (by omega) (by rw [gth_y c28 (by rw [← hN30, ← hI31]; exact Decidable.not_not.mp (of_decide_eq_false c37)), hI3, bx_uu, up_s]) (by rw [gth_y c28 (by rw [← hN30, ← hI31]; exact Decidable.not_not.mp (of_decide_eq_false c37)), hN3, bx_uu, up_s, hI3, up_s]) (by show I3 1 + 1 ≤ z + 1; omega) (fun i => by show va_up _ _ _ _ < 64; by_cases q : i = I3 1; rw [q, up_s]; exact hL _; rw [up_n q]; exact hF3 i) _ _ _ _ S Os F (lv_sub hl [0, 2, 3, 4] rfl)
  exact lp2 (Ir 0 + 1) 0 Is Ns (by omega) (by omega) (up_id Is 1).symm (up_id Ns 0).symm (by omega) hF _ _ _ _ S Os F (lv_sub hl [0, 1, 2, 3] rfl)
theorem inX3_addWay_X3 : ∀ w ∈ u_ws RX3 TX3 6, w ∈ wsX3_addWay := (fun _ h => (List.mem_cons_of_mem _ (List.mem_append_left _ (List.mem_append_right _ h))))
theorem lkX3_addWay_26 : Cond.fieldLink RX3 26 (TX3 2).1 (TX3 2).2.1 (TX3 2).2.2.1 ∈ wsX3_addWay := List.mem_of_getElem? (i := 1) rfl
theorem lkX3_addWay_22 : Cond.fieldLink RX3 22 (TX3 1).1 (TX3 1).2.1 (TX3 1).2.2.1 ∈ wsX3_addWay := List.mem_of_getElem? (i := 2) rfl
theorem lkX3_addWay_15 : Cond.fieldLink RX3 15 (TX3 4).1 (TX3 4).2.1 (TX3 4).2.2.1 ∈ wsX3_addWay := List.mem_of_getElem? (i := 3) rfl
theorem lkX3_addWay_9 : Cond.fieldLink RX3 9 (TX3 0).1 (TX3 0).2.1 (TX3 0).2.2.1 ∈ wsX3_addWay := List.mem_of_getElem? (i := 4) rfl
set_option maxHeartbeats 4000000 in
set_option maxRecDepth 100000 in
theorem c_addWay {l : Launch} {G : fw_G} {A : Nat → Prop} {f0 : fw_F} {bs hs : Nat} {as_ : Nat → Nat} {Is : Nat → Nat} {Ns : Nat → Nat → Nat} {Bs : Nat → Nat → Bool} {Js : Nat → Nat → Int64} {bn hn : Nat} {an : Nat → Nat} {In : Nat → Nat} {Nn : Nat → Nat → Nat} {Bn : Nat → Nat → Bool} {Jn : Nat → Nat → Int64} (Os : isO G dS f0 bs hs as_ Is Ns Bs Js) (On : isO G dN f0 bn hn an In Nn Bn Jn) (hd2 : bn + 8 ≤ bs ∨ bs + 7 ≤ bn) (hc : Is 1 ≤ 8) (hc2 : Is 2 ≤ 200) (hF : ∀ i, Ns 0 i < 64) (hL : ∀ i, Nn 1 i < 64)  : Met l yX3_addWay wsX3_addWay ({ frames := 1, cells := 0, slots := 0, locals := 21 }) (va_Pc [.ref hs, .ref hn] (fw_P G A f0)) (va_Qi (fun (r : Int32) (f1 : fw_F) => (Is 2 < 200 ∧ r = 0 ∧ isO G dS f1 bs hs as_ (va_up Is 2 (Is 2 + 1)) Ns Bs (va_up Js 4 (wset (Js 4) (Is 2 * 8) (Is 1) (fun j => Jn 3 (Nn 1 (Ns 0 j))))) ∨ 200 ≤ Is 2 ∧ r = -4 ∧ isO G dS f1 bs hs as_ Is Ns Bs Js) ∧ fw_fr f0 f1 bs (bs + 7)) (fw_B G A) A) 0 0 A := by
  refine q_head rfl (by decide) (Nat.le_of_ble_eq_true rfl) ?_
  intro p e s m below meth c ls C hr hlk hnm P hl
  have S := P.start
  have hl : lv_has ls 3 [(0, .ref hs), (1, .ref hn)] := hl
  have F := fw_fr_rf f0 bs (bs + 7)
  refine lv_aload_n C.1 C.2.1 dX3_addWay_0 rfl (lv_at hl 0 rfl) ?_
  refine o_get (v := .int (nI (Is 2))) C S Os rfl inX3_addWay_X3 2 (Nat.le_of_ble_eq_true rfl) lkX3_addWay_26 rfl dX3_addWay_1 ?_
  refine lv_sipush (v := nI 200) C.1 C.2.1 dX3_addWay_4 (by decide) ?_
  refine q_lt (tgt := 13) C (by omega) (by decide) dX3_addWay_7 (by decide) (fun c7 => ?_) (fun c7 => ?_)
  · refine lv_iconst (v := nI 0) C.1 C.2.1 dX3_addWay_13 (by decide) ?_
    refine lv_istore_n (lv' := [(2, .int (nI 0)), (0, .ref hs), (1, .ref hn)]) C.1 C.2.1 dX3_addWay_14 rfl hl (by decide) rfl (fun ls hl => ?_)
    have lp15 : ∀ (n : Nat) (z : Nat) (J3 : Nat → Nat → Int64), Is 1 - z < n → (z ≤ Is 1) → (J3 = va_up Js 4 (wset (Js 4) (Is 2 * 8) z (fun j => Jn 3 (Nn 1 (Ns 0 j))))) → ∀ (f : fw_F) (H : Heap) (locs : List Loc) (ls : Array Slot), fw_S G A s f H locs → isO G dS f bs hs as_ Is Ns Bs J3 → fw_fr f0 f bs (bs + 7) → lv_has ls 3 [(2, .int (nI z)), (0, .ref hs), (1, .ref hn)] → W p l e ({ frames := 1, cells := 0, slots := 0, locals := 21 }) s m [.ref hs, .ref hn].toArray below meth c H locs 0 0 (MQ below (va_Qi (fun (r : Int32) (f1 : fw_F) => (Is 2 < 200 ∧ r = 0 ∧ isO G dS f1 bs hs as_ (va_up Is 2 (Is 2 + 1)) Ns Bs (va_up Js 4 (wset (Js 4) (Is 2 * 8) (Is 1) (fun j => Jn 3 (Nn 1 (Ns 0 j))))) ∨ 200 ≤ Is 2 ∧ r = -4 ∧ isO G dS f1 bs hs as_ Is Ns Bs Js) ∧ fw_fr f0 f1 bs (bs + 7)) (fw_B G A) A) [.ref hs, .ref hn].toArray s 0 0 A) (F0 m 15 ls []) := by
      intro n15
      induction n15 with
      | zero => intro z J3 hme15; exact absurd hme15 (Nat.not_lt_zero _)
      | succ n15 ih15 =>
        intro z J3 hme15 hz hJ3 f H locs ls S Os F hl
        refine lv_iload_n C.1 C.2.1 dX3_addWay_15 rfl (lv_at hl 0 rfl) ?_
        refine lv_aload_n C.1 C.2.1 dX3_addWay_16 rfl (lv_at hl 1 rfl) ?_
        refine o_get (v := .int (nI (Is 1))) C S Os rfl inX3_addWay_X3 1 (Nat.le_of_ble_eq_true rfl) lkX3_addWay_22 rfl dX3_addWay_17 ?_
        refine q_ge (tgt := 59) C (by omega) (by omega) dX3_addWay_20 (by decide) (fun c20 => ?_) (fun c20 => ?_)
        · refine lv_aload_n C.1 C.2.1 dX3_addWay_59 rfl (lv_at hl 1 rfl) ?_
          refine lv_dup C.1 C.2.1 dX3_addWay_60 rfl ?_
          refine o_get (v := .int (nI (Is 2))) C S Os rfl inX3_addWay_X3 2 (Nat.le_of_ble_eq_true rfl) lkX3_addWay_26 rfl dX3_addWay_61 ?_
          refine lv_iconst (v := nI 1) C.1 C.2.1 dX3_addWay_64 (by decide) ?_
          refine q_iadd C dX3_addWay_65 ?_
          refine o_puti C S Os F rfl inX3_addWay_X3 tyX3 tyX3_ok nmX3 2 (Nat.le_of_ble_eq_true rfl) rfl lkX3_addWay_26 rfl rfl ⟨by omega, by omega⟩ dX3_addWay_66 (fun f H locs S Os F => ?_)
          refine lv_iconst (v := nI 0) C.1 C.2.1 dX3_addWay_69 (by decide) ?_
          exact q_retQi C S hr hlk ⟨Or.inl ⟨by omega, rfl, by rw [show Is 1 = z by omega, ← hJ3]; exact Os⟩, F⟩ dX3_addWay_70
        · refine lv_iload_n C.1 C.2.1 dX3_addWay_23 rfl (lv_at hl 0 rfl) ?_
          refine lv_bipush (v := nI 8) C.1 C.2.1 dX3_addWay_24 (by decide) ?_
          refine q_ge (tgt := 59) C (by omega) (by decide) dX3_addWay_26 (by decide) (fun c26 => ?_) (fun c26 => ?_)
          · exact absurd c26 (by omega)
          · refine lv_aload_n C.1 C.2.1 dX3_addWay_29 rfl (lv_at hl 1 rfl) ?_
            refine o_get (v := .ref (as_ 4)) C S Os rfl inX3_addWay_X3 4 (Nat.le_of_ble_eq_true rfl) lkX3_addWay_15 rfl dX3_addWay_30 ?_
            refine lv_aload_n C.1 C.2.1 dX3_addWay_33 rfl (lv_at hl 1 rfl) ?_
            refine o_get (v := .int (nI (Is 2))) C S Os rfl inX3_addWay_X3 2 (Nat.le_of_ble_eq_true rfl) lkX3_addWay_26 rfl dX3_addWay_34 ?_
            refine lv_bipush (v := nI 8) C.1 C.2.1 dX3_addWay_37 (by decide) ?_
            refine q_imul C dX3_addWay_39 ?_
            refine lv_iload_n C.1 C.2.1 dX3_addWay_40 rfl (lv_at hl 0 rfl) ?_
            refine q_iadd C dX3_addWay_41 ?_
            refine lv_aload_n C.1 C.2.1 dX3_addWay_42 rfl (lv_at hl 2 rfl) ?_
            refine lv_aload_n C.1 C.2.1 dX3_addWay_43 rfl (lv_at hl 1 rfl) ?_
            refine o_get (v := .ref (as_ 0)) C S Os rfl inX3_addWay_X3 0 (Nat.le_of_ble_eq_true rfl) lkX3_addWay_9 rfl dX3_addWay_44 ?_
            refine lv_iload_n C.1 C.2.1 dX3_addWay_47 rfl (lv_at hl 0 rfl) ?_
            refine o_nald (x := (Ns 0) z) C S Os 0 (Nat.le_of_ble_eq_true rfl) rfl z rfl (show z < 32 from by first | omega | exact hL _ | exact hP _ | exact hF _) (Nat.le_of_ble_eq_true rfl) rfl dX3_addWay_48 ?_
            refine q_callSl (As := [.int (nI ((Ns 0) z))]) (rest := [.int (nI (((Is 2) * 8) + z)), .ref (as_ 4)]) C S hl (o_fr On F hd2).1 rfl (c_numberOf (o_fr On F hd2) ((Ns 0) z) (by first | omega | exact hL _ | exact hP _ | exact hF _) hL) (cwV 1 C.2.2.2.2 gX3_addWay_X1_numberOf rfl rfl rfl (by decide +kernel) ⟨Nat.le_of_ble_eq_true rfl, Nat.le_of_ble_eq_true rfl⟩) rfl rfl (Nat.le_of_ble_eq_true rfl) ⟨Nat.le_of_ble_eq_true rfl, Nat.le_of_ble_eq_true rfl⟩ dX3_addWay_49 (fun v hv => ?_)
            subst hv
            refine o_last C S Os F 4 (Nat.le_of_ble_eq_true rfl) rfl (((Is 2) * 8) + z) rfl (show ((Is 2) * 8) + z < 1600 from by omega) (Nat.le_of_ble_eq_true rfl) ⟨by omega, by omega⟩ dX3_addWay_52 (fun f H locs S Os F => ?_)
            refine q_iinc (d := 1) (lv' := [(2, .int (nI (z + 1))), (0, .ref hs), (1, .ref hn)]) C dX3_addWay_53 hl (k := 0) rfl (by decide) (by decide) rfl (fun ls hl => ?_)
            refine lv_goto (tgt := 15) C.1 C.2.1 dX3_addWay_56 (by decide) ?_
            exact ih15 (z + 1) (va_up J3 4 (va_up (J3 4) (((Is 2) * 8) + z) ((Jn 3) ((Nn 1) ((Ns 0) z))))) (by omega) (by omega) (by rw [wset_s, hJ3, bx_uu, up_s]) _ _ _ _ S Os F (lv_sub hl [0, 1, 2] rfl)
    exact lp15 (Is 1 + 1) 0 Js (by omega) (by omega) (by rw [wset_0, up_id]) _ _ _ _ S Os F (lv_sub hl [0, 1, 2] rfl)
  · refine lv_bipush (v := (-4)) C.1 C.2.1 dX3_addWay_10 (by decide) ?_
    exact q_retQi C S hr hlk ⟨Or.inr ⟨by omega, rfl, Os⟩, F⟩ dX3_addWay_12
end
section
/-! pure words of the reference -/
section NROWS
variable {p : Program} {l : Launch} {e : Env} {R : Room} {s : State} {m : MethodId} {args : Array Value} {below : List Frame} {meth : Method} {c : Code} {H : Heap} {locs : List Loc} {cells slots : Nat} {Q : State → Prop}
variable {cc : ByteArray} {pc nL : Nat} {ls : Array Slot} {rest : List Value} {Ts : List Cond} {own : String}
theorem q_ifeqN (C : CallFix p m c cc nL s args Ts own) {x : Nat} (hx : x < 2 ^ 31) {off : Int} {tgt : Nat} (hdg : decode cc pc = .ok (.ifCond .eq off, 3)) (ht : (pc : Int) + off = (tgt : Int)) (kt : x = 0 → W p l e R s m args below meth c H locs cells slots Q (F0 m tgt ls rest)) (kf : x ≠ 0 → W p l e R s m args below meth c H locs cells slots Q (F0 m (pc + 3) ls rest)) : W p l e R s m args below meth c H locs cells slots Q (F0 m pc ls (.int (nI x) :: rest)) :=
  lv_if_eq C.1 C.2.1 hdg ht (fun h => kt ((nI_eq hx (by decide)).mp h)) (fun h => kf (fun q => h ((nI_eq hx (by decide)).mpr q)))
theorem q_ifneN (C : CallFix p m c cc nL s args Ts own) {x : Nat} (hx : x < 2 ^ 31) {off : Int} {tgt : Nat} (hdg : decode cc pc = .ok (.ifCond .ne off, 3)) (ht : (pc : Int) + off = (tgt : Int)) (kt : x ≠ 0 → W p l e R s m args below meth c H locs cells slots Q (F0 m tgt ls rest)) (kf : x = 0 → W p l e R s m args below meth c H locs cells slots Q (F0 m (pc + 3) ls rest)) : W p l e R s m args below meth c H locs cells slots Q (F0 m pc ls (.int (nI x) :: rest)) :=
  lv_if_ne C.1 C.2.1 hdg ht (fun h => kt (fun q => h ((nI_eq hx (by decide)).mpr q))) (fun h => kf ((nI_eq hx (by decide)).mp (by first | exact h | exact Decidable.not_not.mp h)))
theorem q_ifleN (C : CallFix p m c cc nL s args Ts own) {x : Nat} (hx : x < 2 ^ 31) {off : Int} {tgt : Nat} (hdg : decode cc pc = .ok (.ifCond .le off, 3)) (ht : (pc : Int) + off = (tgt : Int)) (kt : x = 0 → W p l e R s m args below meth c H locs cells slots Q (F0 m tgt ls rest)) (kf : 0 < x → W p l e R s m args below meth c H locs cells slots Q (F0 m (pc + 3) ls rest)) : W p l e R s m args below meth c H locs cells slots Q (F0 m pc ls (.int (nI x) :: rest)) :=
  lv_if_le C.1 C.2.1 hdg ht (fun h => kt (Nat.le_zero.mp ((nI_leI hx (by decide)).mp h))) (fun h => kf (Nat.pos_of_ne_zero fun q => h ((nI_leI hx (by decide)).mpr (Nat.le_of_eq q))))
theorem q_ifgtN (C : CallFix p m c cc nL s args Ts own) {x : Nat} (hx : x < 2 ^ 31) {off : Int} {tgt : Nat} (hdg : decode cc pc = .ok (.ifCond .gt off, 3)) (ht : (pc : Int) + off = (tgt : Int)) (kt : 0 < x → W p l e R s m args below meth c H locs cells slots Q (F0 m tgt ls rest)) (kf : x = 0 → W p l e R s m args below meth c H locs cells slots Q (F0 m (pc + 3) ls rest)) : W p l e R s m args below meth c H locs cells slots Q (F0 m pc ls (.int (nI x) :: rest)) :=
  lv_if_gt C.1 C.2.1 hdg ht (fun h => kt ((nI_ltI (by decide) hx).mp h)) (fun h => kf (Nat.le_zero.mp (Nat.not_lt.mp fun q => h ((nI_ltI (by decide) hx).mpr q))))
end NROWS
def initL (L : Nat → Nat) (z : Nat) : Nat → Nat := fun x => if x < z then x else L x
theorem initL_0 (L : Nat → Nat) : initL L 0 = L := by funext x; unfold initL; rw [if_neg (by omega)]
theorem initL_s (L : Nat → Nat) (z : Nat) : initL L (z + 1) = va_up (initL L z) z z := by
  funext x
  unfold initL va_up
  by_cases h : x = z
  · subst h; rw [if_pos (by omega), if_pos rfl]
  · rw [if_neg h]
    dsimp only
    by_cases h2 : x < z
    · rw [if_pos h2, if_pos (by omega)]
    · rw [if_neg h2, if_neg (by omega)]
def initB (L : Nat → Bool) (z : Nat) : Nat → Bool := fun x => if x < z then false else L x
theorem initB_0 (L : Nat → Bool) : initB L 0 = L := by funext x; unfold initB; rw [if_neg (by omega)]
theorem initB_s (L : Nat → Bool) (z : Nat) : initB L (z + 1) = va_up (initB L z) z false := by
  funext x
  unfold initB va_up
  by_cases h : x = z
  · subst h; rw [if_pos (by omega), if_pos rfl]
  · rw [if_neg h]
    dsimp only
    by_cases h2 : x < z
    · rw [if_pos h2, if_pos (by omega)]
    · rw [if_neg h2, if_neg (by omega)]
/-- which name each one is one with, by the first e told -/
def wF (n : Nat) (so ofa wi : Nat → Nat) (L0 : Nat → Nat) : Nat → Nat → Nat
  | 0 => initL L0 n
  | e + 1 => if so e = 2 then jn (wF n so ofa wi L0 e) n (min (wF n so ofa wi L0 e (ofa e)) (wF n so ofa wi L0 e (wi e))) (max (wF n so ofa wi L0 e (ofa e)) (wF n so ofa wi L0 e (wi e))) else wF n so ofa wi L0 e
theorem wF_2 {n : Nat} {so ofa wi L0 : Nat → Nat} {e : Nat} (h : so e = 2) : wF n so ofa wi L0 (e + 1) = jn (wF n so ofa wi L0 e) n (min (wF n so ofa wi L0 e (ofa e)) (wF n so ofa wi L0 e (wi e))) (max (wF n so ofa wi L0 e (ofa e)) (wF n so ofa wi L0 e (wi e))) := if_pos h
theorem wF_n {n : Nat} {so ofa wi L0 : Nat → Nat} {e : Nat} (h : so e ≠ 2) : wF n so ofa wi L0 (e + 1) = wF n so ofa wi L0 e := if_neg h
section FOLD
variable (F so ofa : Nat → Nat) (fr to : Nat → Int64)
def hnF (h0 : Nat → Bool) : Nat → Nat → Bool
  | 0 => h0
  | e + 1 => if so e = 1 then va_up (hnF h0 e) (F (ofa e)) true else hnF h0 e
def nuF (h0 : Nat → Int64) : Nat → Nat → Int64
  | 0 => h0
  | e + 1 => if so e = 1 then va_up (nuF h0 e) (F (ofa e)) (fr e) else nuF h0 e
def canF (h0 : Nat → Bool) (n0 : Nat → Int64) : Nat → Bool
  | 0 => true
  | e + 1 => if so e = 1 then canF h0 n0 e && !(hnF F so ofa h0 e (F (ofa e)) && !decide (nuF F so ofa fr n0 e (F (ofa e)) = fr e)) else canF h0 n0 e
def hsF (h0 : Nat → Bool) : Nat → Nat → Bool
  | 0 => h0
  | e + 1 => if so e = 0 then va_up (hsF h0 e) (F (ofa e)) true else hsF h0 e
def loF (h0 : Nat → Bool) (l0 : Nat → Int64) : Nat → Nat → Int64
  | 0 => l0
  | e + 1 => if so e = 0 then va_up (loF h0 l0 e) (F (ofa e)) (if hsF F so ofa h0 e (F (ofa e)) = true then lmax (loF h0 l0 e (F (ofa e))) (fr e) else fr e) else loF h0 l0 e
def hiF (h0 : Nat → Bool) (l0 : Nat → Int64) : Nat → Nat → Int64
  | 0 => l0
  | e + 1 => if so e = 0 then va_up (hiF h0 l0 e) (F (ofa e)) (if hsF F so ofa h0 e (F (ofa e)) = true then lmin (hiF h0 l0 e (F (ofa e))) (to e) else to e) else hiF h0 l0 e
end FOLD
/-- the span of a name is no contradiction -/
def spOk (hn hs : Nat → Bool) (nu lo hi : Nat → Int64) (x : Nat) : Bool := !(hs x && (!decide (lo x ≤ hi x) || (hn x && (!decide (lo x ≤ nu x) || !decide (nu x ≤ hi x)))))
/-- a kept row of the reference holds: all its names known, and so; or one isn't known -/
def hoF (kind many : Nat) (pl : Nat → Nat) (by_ : Nat → Int64) (k : Int64) (kn : Nat → Bool) (nu : Nat → Int64) : Bool := if allb (fun j => kn (pl j)) many = true then soF kind k by_ (fun j => nu (pl j)) many else true
def knM (N : Nat → Nat → Nat) (B : Nat → Nat → Bool) (x : Nat) : Bool := B 21 (N 20 x) || B 26 (N 20 x)
def nuM (N : Nat → Nat → Nat) (B : Nat → Nat → Bool) (J : Nat → Nat → Int64) (x : Nat) : Int64 := if B 21 (N 20 x) = true then J 23 (N 20 x) else J 27 (N 20 x)
def hoM (N : Nat → Nat → Nat) (B : Nat → Nat → Bool) (J : Nat → Nat → Int64) (i : Nat) : Bool := hoF (N 10 i) (N 11 i) (fun k => N 12 (32 * i + k)) (fun k => J 13 (32 * i + k)) (J 14 i) (knM N B) (nuM N B J)
/-- the reference's numbers are within their bounds -/
def mOK (I : Nat → Nat) (N : Nat → Nat → Nat) : Prop := (I 0 ≤ 64 ∧ I 6 ≤ 6400 ∧ I 9 ≤ 32 ∧ I 15 ≤ 60 ∧ I 19 ≤ 40) ∧ ((∀ e, N 1 e ≤ 2) ∧ (∀ e, N 2 e < 64) ∧ (∀ e, N 3 e < 64)) ∧ ((∀ i, N 7 i < 64) ∧ (∀ i, N 10 i ≤ 2) ∧ (∀ i, N 11 i ≤ 32) ∧ (∀ i, N 12 i < 64)) ∧ (∀ i, N 20 i < 64) ∧ (∀ i, N 28 i < 64)
end
section
theorem inX5_isName_X5 : ∀ w ∈ u_ws RX5 TX5 34, w ∈ wsX5_isName := (fun _ h => (List.mem_cons_of_mem _ (List.mem_append_right _ h)))
theorem lkX5_isName_87 : Cond.fieldLink RX5 87 (TX5 0).1 (TX5 0).2.1 (TX5 0).2.2.1 ∈ wsX5_isName := List.mem_of_getElem? (i := 1) rfl
set_option maxHeartbeats 4000000 in
set_option maxRecDepth 100000 in
theorem m_isName {l : Launch} {G : fw_G} {A : Nat → Prop} {f0 : fw_F} {h : Nat} {a : Nat → Nat} {I : Nat → Nat} {N : Nat → Nat → Nat} {B : Nat → Nat → Bool} {J : Nat → Nat → Int64} (O : isO G dM f0 2000 h a I N B J) (x : Int32)  : Met l yX5_isName wsX5_isName ({ frames := 0, cells := 0, slots := 0, locals := 0 }) (va_Pc [.ref h, .int x] (fw_P G A f0)) (vp_Si (fun (r : Int32) => r = bI (ix x (I 0)))) 0 0 (fun _ => False) := by
  refine q_head rfl (by decide) (Nat.le_of_ble_eq_true rfl) ?_
  intro p e s m below meth c ls C hr hlk hnm P hl
  have S := P.start
  have hl : lv_has ls 2 [(0, .ref h), (1, .int x)] := hl
  refine lv_iload_n C.1 C.2.1 dX5_isName_0 rfl (lv_at hl 1 rfl) ?_
  refine lv_if_lt (tgt := 16) C.1 C.2.1 dX5_isName_1 (by decide) (fun c1 => ?_) (fun c1 => ?_)
  · refine lv_iconst (v := nI 0) C.1 C.2.1 dX5_isName_16 (by decide) ?_
    exact q_retSz (b := false) C hr hlk rfl (by show bI false = bI _; rw [ix, decide_eq_false (not_not_intro c1)]; rfl) dX5_isName_17
  · refine lv_iload_n C.1 C.2.1 dX5_isName_4 rfl (lv_at hl 1 rfl) ?_
    refine lv_aload_n C.1 C.2.1 dX5_isName_5 rfl (lv_at hl 0 rfl) ?_
    refine o_get (v := .int (nI (I 0))) C S O rfl inX5_isName_X5 0 (Nat.le_of_ble_eq_true rfl) lkX5_isName_87 rfl dX5_isName_6 ?_
    refine lv_icmp_ge (tgt := 16) C.1 C.2.1 dX5_isName_9 (by decide) (fun c9 => ?_) (fun c9 => ?_)
    · refine lv_iconst (v := nI 0) C.1 C.2.1 dX5_isName_16 (by decide) ?_
      exact q_retSz (b := false) C hr hlk rfl (by show bI false = bI _; rw [ix, decide_eq_false (Int32.not_lt.mpr c9), Bool.and_false]) dX5_isName_17
    · refine lv_iconst (v := nI 1) C.1 C.2.1 dX5_isName_12 (by decide) ?_
      refine lv_goto (tgt := 17) C.1 C.2.1 dX5_isName_13 (by decide) ?_
      exact q_retSz (b := true) C hr hlk rfl (by show bI true = bI _; rw [ix, decide_eq_true c1, decide_eq_true (Int32.not_le.mp c9)]; rfl) dX5_isName_17
theorem inX5_isKnown_X5 : ∀ w ∈ u_ws RX5 TX5 34, w ∈ wsX5_isKnown := (fun _ h => (List.mem_cons_of_mem _ (List.mem_append_right _ h)))
theorem lkX5_isKnown_59 : Cond.fieldLink RX5 59 (TX5 21).1 (TX5 21).2.1 (TX5 21).2.2.1 ∈ wsX5_isKnown := List.mem_of_getElem? (i := 1) rfl
theorem lkX5_isKnown_56 : Cond.fieldLink RX5 56 (TX5 20).1 (TX5 20).2.1 (TX5 20).2.2.1 ∈ wsX5_isKnown := List.mem_of_getElem? (i := 2) rfl
theorem lkX5_isKnown_75 : Cond.fieldLink RX5 75 (TX5 26).1 (TX5 26).2.1 (TX5 26).2.2.1 ∈ wsX5_isKnown := List.mem_of_getElem? (i := 3) rfl
set_option maxHeartbeats 4000000 in
set_option maxRecDepth 100000 in
theorem m_isKnown {l : Launch} {G : fw_G} {A : Nat → Prop} {f0 : fw_F} {h : Nat} {a : Nat → Nat} {I : Nat → Nat} {N : Nat → Nat → Nat} {B : Nat → Nat → Bool} {J : Nat → Nat → Int64} (O : isO G dM f0 2000 h a I N B J) (x : Nat) (hx : x < 64) (hM : mOK I N)  : Met l yX5_isKnown wsX5_isKnown ({ frames := 0, cells := 0, slots := 0, locals := 0 }) (va_Pc [.ref h, .int (nI x)] (fw_P G A f0)) (vp_Si (fun (r : Int32) => r = bI (knM N B x))) 0 0 (fun _ => False) := by
  refine q_head rfl (by decide) (Nat.le_of_ble_eq_true rfl) ?_
  intro p e s m below meth c ls C hr hlk hnm P hl
  have S := P.start
  have hl : lv_has ls 2 [(0, .ref h), (1, .int (nI x))] := hl
  obtain ⟨⟨hm0, hm6, hm9, hm15, hm19⟩, ⟨hs1, hs2, hs3⟩, ⟨hP7, hk10, hk11, hk12⟩, hL, hF⟩ := hM
  refine lv_aload_n C.1 C.2.1 dX5_isKnown_0 rfl (lv_at hl 0 rfl) ?_
  refine o_get (v := .ref (a 21)) C S O rfl inX5_isKnown_X5 21 (Nat.le_of_ble_eq_true rfl) lkX5_isKnown_59 rfl dX5_isKnown_1 ?_
  refine lv_aload_n C.1 C.2.1 dX5_isKnown_4 rfl (lv_at hl 0 rfl) ?_
  refine o_get (v := .ref (a 20)) C S O rfl inX5_isKnown_X5 20 (Nat.le_of_ble_eq_true rfl) lkX5_isKnown_56 rfl dX5_isKnown_5 ?_
  refine lv_iload_n C.1 C.2.1 dX5_isKnown_8 rfl (lv_at hl 1 rfl) ?_
  refine o_nald (x := (N 20) x) C S O 20 (Nat.le_of_ble_eq_true rfl) rfl x rfl (show x < 64 from by first | omega | exact hL _ | exact hP _ | exact hF _) (Nat.le_of_ble_eq_true rfl) rfl dX5_isKnown_9 ?_
  refine o_yald (x := (B 21) ((N 20) x)) C S O 21 (Nat.le_of_ble_eq_true rfl) rfl ((N 20) x) rfl (show (N 20) x < 64 from by first | omega | exact hL _ | exact hP _ | exact hF _) (Nat.le_of_ble_eq_true rfl) rfl dX5_isKnown_10 ?_
  refine q_ifneB (tgt := 28) C dX5_isKnown_11 (by decide) (fun c11 => ?_) (fun c11 => ?_)
  · refine lv_iconst (v := nI 1) C.1 C.2.1 dX5_isKnown_28 (by decide) ?_
    refine lv_goto (tgt := 33) C.1 C.2.1 dX5_isKnown_29 (by decide) ?_
    exact q_retSz (b := true) C hr hlk rfl (by show bI true = bI _; rw [knM, c11]; rfl) dX5_isKnown_33
  · refine lv_aload_n C.1 C.2.1 dX5_isKnown_14 rfl (lv_at hl 0 rfl) ?_
    refine o_get (v := .ref (a 26)) C S O rfl inX5_isKnown_X5 26 (Nat.le_of_ble_eq_true rfl) lkX5_isKnown_75 rfl dX5_isKnown_15 ?_
    refine lv_aload_n C.1 C.2.1 dX5_isKnown_18 rfl (lv_at hl 0 rfl) ?_
    refine o_get (v := .ref (a 20)) C S O rfl inX5_isKnown_X5 20 (Nat.le_of_ble_eq_true rfl) lkX5_isKnown_56 rfl dX5_isKnown_19 ?_
    refine lv_iload_n C.1 C.2.1 dX5_isKnown_22 rfl (lv_at hl 1 rfl) ?_
    refine o_nald (x := (N 20) x) C S O 20 (Nat.le_of_ble_eq_true rfl) rfl x rfl (show x < 64 from by first | omega | exact hL _ | exact hP _ | exact hF _) (Nat.le_of_ble_eq_true rfl) rfl dX5_isKnown_23 ?_
    refine o_yald (x := (B 26) ((N 20) x)) C S O 26 (Nat.le_of_ble_eq_true rfl) rfl ((N 20) x) rfl (show (N 20) x < 64 from by first | omega | exact hL _ | exact hP _ | exact hF _) (Nat.le_of_ble_eq_true rfl) rfl dX5_isKnown_24 ?_
    refine q_ifeqB (tgt := 32) C dX5_isKnown_25 (by decide) (fun c25 => ?_) (fun c25 => ?_)
    · refine lv_iconst (v := nI 0) C.1 C.2.1 dX5_isKnown_32 (by decide) ?_
      exact q_retSz (b := false) C hr hlk rfl (by show bI false = bI _; rw [knM, c11, c25]; rfl) dX5_isKnown_33
    · refine lv_iconst (v := nI 1) C.1 C.2.1 dX5_isKnown_28 (by decide) ?_
      refine lv_goto (tgt := 33) C.1 C.2.1 dX5_isKnown_29 (by decide) ?_
      exact q_retSz (b := true) C hr hlk rfl (by show bI true = bI _; rw [knM, c11, c25]; rfl) dX5_isKnown_33
theorem inX5_numberOf_X5 : ∀ w ∈ u_ws RX5 TX5 34, w ∈ wsX5_numberOf := (fun _ h => (List.mem_cons_of_mem _ (List.mem_append_right _ h)))
theorem lkX5_numberOf_59 : Cond.fieldLink RX5 59 (TX5 21).1 (TX5 21).2.1 (TX5 21).2.2.1 ∈ wsX5_numberOf := List.mem_of_getElem? (i := 1) rfl
theorem lkX5_numberOf_56 : Cond.fieldLink RX5 56 (TX5 20).1 (TX5 20).2.1 (TX5 20).2.2.1 ∈ wsX5_numberOf := List.mem_of_getElem? (i := 2) rfl
theorem lkX5_numberOf_78 : Cond.fieldLink RX5 78 (TX5 27).1 (TX5 27).2.1 (TX5 27).2.2.1 ∈ wsX5_numberOf := List.mem_of_getElem? (i := 4) rfl
theorem lkX5_numberOf_66 : Cond.fieldLink RX5 66 (TX5 23).1 (TX5 23).2.1 (TX5 23).2.2.1 ∈ wsX5_numberOf := List.mem_of_getElem? (i := 3) rfl
set_option maxHeartbeats 4000000 in
set_option maxRecDepth 100000 in
theorem m_numberOf {l : Launch} {G : fw_G} {A : Nat → Prop} {f0 : fw_F} {h : Nat} {a : Nat → Nat} {I : Nat → Nat} {N : Nat → Nat → Nat} {B : Nat → Nat → Bool} {J : Nat → Nat → Int64} (O : isO G dM f0 2000 h a I N B J) (x : Nat) (hx : x < 64) (hM : mOK I N)  : Met l yX5_numberOf wsX5_numberOf ({ frames := 0, cells := 0, slots := 0, locals := 0 }) (va_Pc [.ref h, .int (nI x)] (fw_P G A f0)) (vp_Sl (fun (r : Int64) => r = nuM N B J x)) 0 0 (fun _ => False) := by
  refine q_head rfl (by decide) (Nat.le_of_ble_eq_true rfl) ?_
  intro p e s m below meth c ls C hr hlk hnm P hl
  have S := P.start
  have hl : lv_has ls 2 [(0, .ref h), (1, .int (nI x))] := hl
  obtain ⟨⟨hm0, hm6, hm9, hm15, hm19⟩, ⟨hs1, hs2, hs3⟩, ⟨hP7, hk10, hk11, hk12⟩, hL, hF⟩ := hM
  refine lv_aload_n C.1 C.2.1 dX5_numberOf_0 rfl (lv_at hl 0 rfl) ?_
  refine o_get (v := .ref (a 21)) C S O rfl inX5_numberOf_X5 21 (Nat.le_of_ble_eq_true rfl) lkX5_numberOf_59 rfl dX5_numberOf_1 ?_
  refine lv_aload_n C.1 C.2.1 dX5_numberOf_4 rfl (lv_at hl 0 rfl) ?_
  refine o_get (v := .ref (a 20)) C S O rfl inX5_numberOf_X5 20 (Nat.le_of_ble_eq_true rfl) lkX5_numberOf_56 rfl dX5_numberOf_5 ?_
  refine lv_iload_n C.1 C.2.1 dX5_numberOf_8 rfl (lv_at hl 1 rfl) ?_
  refine o_nald (x := (N 20) x) C S O 20 (Nat.le_of_ble_eq_true rfl) rfl x rfl (show x < 64 from by first | omega | exact hL _ | exact hP _ | exact hF _) (Nat.le_of_ble_eq_true rfl) rfl dX5_numberOf_9 ?_
  refine o_yald (x := (B 21) ((N 20) x)) C S O 21 (Nat.le_of_ble_eq_true rfl) rfl ((N 20) x) rfl (show (N 20) x < 64 from by first | omega | exact hL _ | exact hP _ | exact hF _) (Nat.le_of_ble_eq_true rfl) rfl dX5_numberOf_10 ?_
  refine q_ifeqB (tgt := 28) C dX5_numberOf_11 (by decide) (fun c11 => ?_) (fun c11 => ?_)
  · refine lv_aload_n C.1 C.2.1 dX5_numberOf_28 rfl (lv_at hl 0 rfl) ?_
    refine o_get (v := .ref (a 27)) C S O rfl inX5_numberOf_X5 27 (Nat.le_of_ble_eq_true rfl) lkX5_numberOf_78 rfl dX5_numberOf_29 ?_
    refine lv_aload_n C.1 C.2.1 dX5_numberOf_32 rfl (lv_at hl 0 rfl) ?_
    refine o_get (v := .ref (a 20)) C S O rfl inX5_numberOf_X5 20 (Nat.le_of_ble_eq_true rfl) lkX5_numberOf_56 rfl dX5_numberOf_33 ?_
    refine lv_iload_n C.1 C.2.1 dX5_numberOf_36 rfl (lv_at hl 1 rfl) ?_
    refine o_nald (x := (N 20) x) C S O 20 (Nat.le_of_ble_eq_true rfl) rfl x rfl (show x < 64 from by first | omega | exact hL _ | exact hP _ | exact hF _) (Nat.le_of_ble_eq_true rfl) rfl dX5_numberOf_37 ?_
    refine o_lald (x := (J 27) ((N 20) x)) C S O 27 (Nat.le_of_ble_eq_true rfl) rfl ((N 20) x) rfl (show (N 20) x < 64 from by first | omega | exact hL _ | exact hP _ | exact hF _) (Nat.le_of_ble_eq_true rfl) rfl dX5_numberOf_38 ?_
    exact q_retSl C hr hlk (by rw [nuM, if_neg (by rw [c11]; decide)]) dX5_numberOf_39
  · refine lv_aload_n C.1 C.2.1 dX5_numberOf_14 rfl (lv_at hl 0 rfl) ?_
    refine o_get (v := .ref (a 23)) C S O rfl inX5_numberOf_X5 23 (Nat.le_of_ble_eq_true rfl) lkX5_numberOf_66 rfl dX5_numberOf_15 ?_
    refine lv_aload_n C.1 C.2.1 dX5_numberOf_18 rfl (lv_at hl 0 rfl) ?_
    refine o_get (v := .ref (a 20)) C S O rfl inX5_numberOf_X5 20 (Nat.le_of_ble_eq_true rfl) lkX5_numberOf_56 rfl dX5_numberOf_19 ?_
    refine lv_iload_n C.1 C.2.1 dX5_numberOf_22 rfl (lv_at hl 1 rfl) ?_
    refine o_nald (x := (N 20) x) C S O 20 (Nat.le_of_ble_eq_true rfl) rfl x rfl (show x < 64 from by first | omega | exact hL _ | exact hP _ | exact hF _) (Nat.le_of_ble_eq_true rfl) rfl dX5_numberOf_23 ?_
    refine o_lald (x := (J 23) ((N 20) x)) C S O 23 (Nat.le_of_ble_eq_true rfl) rfl ((N 20) x) rfl (show (N 20) x < 64 from by first | omega | exact hL _ | exact hP _ | exact hF _) (Nat.le_of_ble_eq_true rfl) rfl dX5_numberOf_24 ?_
    refine lv_goto (tgt := 39) C.1 C.2.1 dX5_numberOf_25 (by decide) ?_
    exact q_retSl C hr hlk (by rw [nuM, if_pos c11]) dX5_numberOf_39
theorem inX5_holds_X5 : ∀ w ∈ u_ws RX5 TX5 34, w ∈ wsX5_holds := (fun _ h => (List.mem_cons_of_mem _ (List.mem_append_right _ h)))
theorem lkX5_holds_35 : Cond.fieldLink RX5 35 (TX5 11).1 (TX5 11).2.1 (TX5 11).2.2.1 ∈ wsX5_holds := List.mem_of_getElem? (i := 1) rfl
theorem lkX5_holds_32 : Cond.fieldLink RX5 32 (TX5 10).1 (TX5 10).2.1 (TX5 10).2.2.1 ∈ wsX5_holds := List.mem_of_getElem? (i := 4) rfl
theorem lkX5_holds_38 : Cond.fieldLink RX5 38 (TX5 12).1 (TX5 12).2.1 (TX5 12).2.2.1 ∈ wsX5_holds := List.mem_of_getElem? (i := 2) rfl
theorem lkX5_holds_44 : Cond.fieldLink RX5 44 (TX5 14).1 (TX5 14).2.1 (TX5 14).2.2.1 ∈ wsX5_holds := List.mem_of_getElem? (i := 5) rfl
theorem lkX5_holds_41 : Cond.fieldLink RX5 41 (TX5 13).1 (TX5 13).2.1 (TX5 13).2.2.1 ∈ wsX5_holds := List.mem_of_getElem? (i := 3) rfl
set_option maxHeartbeats 4000000 in
set_option maxRecDepth 100000 in
theorem m_holds {l : Launch} {G : fw_G} {A : Nat → Prop} {f0 : fw_F} {h : Nat} {a : Nat → Nat} {I : Nat → Nat} {N : Nat → Nat → Nat} {B : Nat → Nat → Bool} {J : Nat → Nat → Int64} (O : isO G dM f0 2000 h a I N B J) (i : Nat) (hi : i < 60) (hM : mOK I N)  : Met l yX5_holds wsX5_holds ({ frames := 1, cells := 0, slots := 0, locals := 21 }) (va_Pc [.ref h, .int (nI i)] (fw_P G A f0)) (vp_Si (fun (r : Int32) => r = bI (hoM N B J i))) 0 0 (fun _ => False) := by
  refine q_head rfl (by decide) (Nat.le_of_ble_eq_true rfl) ?_
  intro p e s m below meth c ls C hr hlk hnm P hl
  have S := P.start
  have hl : lv_has ls 6 [(0, .ref h), (1, .int (nI i))] := hl
  have hM0 := hM
  obtain ⟨⟨hm0, hm6, hm9, hm15, hm19⟩, ⟨hs1, hs2, hs3⟩, ⟨hP7, hk10, hk11, hk12⟩, hL, hF⟩ := hM
  have hmi := hk11 i
  have hki := hk10 i
  refine lv_lconst (v := 0) C.1 C.2.1 dX5_holds_0 (by decide) ?_
  refine lv_lstore_n (lv' := [(2, .long 0), (0, .ref h), (1, .int (nI i))]) C.1 C.2.1 dX5_holds_1 rfl hl (by decide) rfl (fun ls hl => ?_)
  refine lv_iconst (v := nI 0) C.1 C.2.1 dX5_holds_2 (by decide) ?_
  refine lv_istore (lv' := [(4, .int (nI 0)), (2, .long 0), (0, .ref h), (1, .int (nI i))]) C.1 C.2.1 dX5_holds_3 hl (by decide) rfl (fun ls hl => ?_)
  have lp5 : ∀ (n : Nat) (z : Nat) (q : Int64), N 11 i - z < n → (z ≤ N 11 i) → (q = sumL (fun k => J 13 (32 * i + k) * nuM N B J (N 12 (32 * i + k))) z) → (∀ k, k < z → knM N B (N 12 (32 * i + k)) = true) → ∀ (ls : Array Slot), lv_has ls 6 [(4, .int (nI z)), (2, .long q), (0, .ref h), (1, .int (nI i))] → W p l e ({ frames := 1, cells := 0, slots := 0, locals := 21 }) s m [.ref h, .int (nI i)].toArray below meth c s.heap [] 0 0 (MQ below (vp_Si (fun (r : Int32) => r = bI (hoM N B J i))) [.ref h, .int (nI i)].toArray s 0 0 (fun _ => False)) (F0 m 5 ls []) := by
    intro n5
    induction n5 with
    | zero => intro z q hme5; exact absurd hme5 (Nat.not_lt_zero _)
    | succ n5 ih5 =>
      intro z q hme5 hz hq hz2 ls hl
      refine lv_iload C.1 C.2.1 dX5_holds_5 (lv_at hl 0 rfl) ?_
      refine lv_aload_n C.1 C.2.1 dX5_holds_7 rfl (lv_at hl 2 rfl) ?_
      refine o_get (v := .ref (a 11)) C S O rfl inX5_holds_X5 11 (Nat.le_of_ble_eq_true rfl) lkX5_holds_35 rfl dX5_holds_8 ?_
      refine lv_iload_n C.1 C.2.1 dX5_holds_11 rfl (lv_at hl 3 rfl) ?_
      refine o_nald (x := (N 11) i) C S O 11 (Nat.le_of_ble_eq_true rfl) rfl i rfl (show i < 60 from by first | omega | exact hL _ | exact hP _ | exact hF _) (Nat.le_of_ble_eq_true rfl) rfl dX5_holds_12 ?_
      refine q_ge (tgt := 69) C (by omega) (by omega) dX5_holds_13 (by decide) (fun c13 => ?_) (fun c13 => ?_)
      · refine lv_aload_n C.1 C.2.1 dX5_holds_69 rfl (lv_at hl 2 rfl) ?_
        refine o_get (v := .ref (a 10)) C S O rfl inX5_holds_X5 10 (Nat.le_of_ble_eq_true rfl) lkX5_holds_32 rfl dX5_holds_70 ?_
        refine lv_iload_n C.1 C.2.1 dX5_holds_73 rfl (lv_at hl 3 rfl) ?_
        refine o_nald (x := (N 10) i) C S O 10 (Nat.le_of_ble_eq_true rfl) rfl i rfl (show i < 60 from by first | omega | exact hL _ | exact hP _ | exact hF _) (Nat.le_of_ble_eq_true rfl) rfl dX5_holds_74 ?_
        refine q_ifneN (tgt := 95) C (by omega) dX5_holds_75 (by decide) (fun c75 => ?_) (fun c75 => ?_)
        · refine lv_aload_n C.1 C.2.1 dX5_holds_95 rfl (lv_at hl 2 rfl) ?_
          refine o_get (v := .ref (a 10)) C S O rfl inX5_holds_X5 10 (Nat.le_of_ble_eq_true rfl) lkX5_holds_32 rfl dX5_holds_96 ?_
          refine lv_iload_n C.1 C.2.1 dX5_holds_99 rfl (lv_at hl 3 rfl) ?_
          refine o_nald (x := (N 10) i) C S O 10 (Nat.le_of_ble_eq_true rfl) rfl i rfl (show i < 60 from by first | omega | exact hL _ | exact hP _ | exact hF _) (Nat.le_of_ble_eq_true rfl) rfl dX5_holds_100 ?_
          refine lv_iconst (v := nI 1) C.1 C.2.1 dX5_holds_101 (by decide) ?_
          refine q_nee (tgt := 122) C (by omega) (by decide) dX5_holds_102 (by decide) (fun c102 => ?_) (fun c102 => ?_)
          · refine lv_iconst (v := nI 0) C.1 C.2.1 dX5_holds_122 (by decide) ?_
            refine lv_istore (lv' := [(4, .int (nI 0)), (2, .long q), (0, .ref h), (1, .int (nI i))]) C.1 C.2.1 dX5_holds_123 hl (by decide) rfl (fun ls hl => ?_)
            have lp125 : ∀ (n : Nat) (y : Nat), N 11 i - y < n → (y ≤ N 11 i) → (∀ i2 j, i2 < y → j < i2 → nuM N B J (N 12 (32 * i + j)) ≠ nuM N B J (N 12 (32 * i + i2))) → ∀ (ls : Array Slot), lv_has ls 6 [(4, .int (nI y)), (0, .ref h), (1, .int (nI i))] → W p l e ({ frames := 1, cells := 0, slots := 0, locals := 21 }) s m [.ref h, .int (nI i)].toArray below meth c s.heap [] 0 0 (MQ below (vp_Si (fun (r : Int32) => r = bI (hoM N B J i))) [.ref h, .int (nI i)].toArray s 0 0 (fun _ => False)) (F0 m 125 ls []) := by
              intro n125
              induction n125 with
              | zero => intro y hme125; exact absurd hme125 (Nat.not_lt_zero _)
              | succ n125 ih125 =>
                intro y hme125 hy hy2 ls hl
                refine lv_iload C.1 C.2.1 dX5_holds_125 (lv_at hl 0 rfl) ?_
                refine lv_aload_n C.1 C.2.1 dX5_holds_127 rfl (lv_at hl 1 rfl) ?_
                refine o_get (v := .ref (a 11)) C S O rfl inX5_holds_X5 11 (Nat.le_of_ble_eq_true rfl) lkX5_holds_35 rfl dX5_holds_128 ?_
                refine lv_iload_n C.1 C.2.1 dX5_holds_131 rfl (lv_at hl 2 rfl) ?_
                refine o_nald (x := (N 11) i) C S O 11 (Nat.le_of_ble_eq_true rfl) rfl i rfl (show i < 60 from by first | omega | exact hL _ | exact hP _ | exact hF _) (Nat.le_of_ble_eq_true rfl) rfl dX5_holds_132 ?_
                refine q_ge (tgt := 196) C (by omega) (by omega) dX5_holds_133 (by decide) (fun c133 => ?_) (fun c133 => ?_)
                · refine lv_iconst (v := nI 1) C.1 C.2.1 dX5_holds_196 (by decide) ?_
                  exact q_retSz (b := true) C hr hlk rfl (by rw [hoM, hoF, if_pos (show allb (fun k => knM N B (N 12 (32 * i + k))) (N 11 i) = true from allb_t (fun k hk => hz2 k (by omega)))]; show bI true = bI (soF _ _ _ _ _); rw [soF, if_neg c75, if_neg c102, unl_iff.mpr (fun i2 j hi hj => hy2 i2 j (by omega) hj)]) dX5_holds_197
                · refine lv_iconst (v := nI 0) C.1 C.2.1 dX5_holds_136 (by decide) ?_
                  refine lv_istore (lv' := [(5, .int (nI 0)), (4, .int (nI y)), (0, .ref h), (1, .int (nI i))]) C.1 C.2.1 dX5_holds_137 hl (by decide) rfl (fun ls hl => ?_)
                  have lp139 : ∀ (n : Nat) (u : Nat), y - u < n → (u ≤ y) → (∀ j, j < u → nuM N B J (N 12 (32 * i + j)) ≠ nuM N B J (N 12 (32 * i + y))) → ∀ (ls : Array Slot), lv_has ls 6 [(5, .int (nI u)), (4, .int (nI y)), (0, .ref h), (1, .int (nI i))] → W p l e ({ frames := 1, cells := 0, slots := 0, locals := 21 }) s m [.ref h, .int (nI i)].toArray below meth c s.heap [] 0 0 (MQ below (vp_Si (fun (r : Int32) => r = bI (hoM N B J i))) [.ref h, .int (nI i)].toArray s 0 0 (fun _ => False)) (F0 m 139 ls []) := by
                    intro n139
                    induction n139 with
                    | zero => intro u hme139; exact absurd hme139 (Nat.not_lt_zero _)
                    | succ n139 ih139 =>
                      intro u hme139 hu hu2 ls hl
                      refine lv_iload C.1 C.2.1 dX5_holds_139 (lv_at hl 0 rfl) ?_
                      refine lv_iload C.1 C.2.1 dX5_holds_141 (lv_at hl 1 rfl) ?_
                      refine q_ge (tgt := 190) C (by omega) (by omega) dX5_holds_143 (by decide) (fun c143 => ?_) (fun c143 => ?_)
                      · refine q_iinc (d := 1) (lv' := [(4, .int (nI (y + 1))), (5, .int (nI u)), (0, .ref h), (1, .int (nI i))]) C dX5_holds_190 hl (k := 1) rfl (by decide) (by decide) rfl (fun ls hl => ?_)
                        refine lv_goto (tgt := 125) C.1 C.2.1 dX5_holds_193 (by decide) ?_
                        exact ih125 (y + 1) (by omega) (by omega) (fun i2 j hi hj => by rcases Nat.lt_or_ge i2 y with a | a; exact hy2 i2 j a hj; rw [show i2 = y by omega] at hj ⊢; exact hu2 j (by omega)) _ (lv_sub hl [0, 2, 3] rfl)
                      · refine lv_aload_n C.1 C.2.1 dX5_holds_146 rfl (lv_at hl 2 rfl) ?_
                        refine lv_aload_n C.1 C.2.1 dX5_holds_147 rfl (lv_at hl 2 rfl) ?_
                        refine o_get (v := .ref (a 12)) C S O rfl inX5_holds_X5 12 (Nat.le_of_ble_eq_true rfl) lkX5_holds_38 rfl dX5_holds_148 ?_
                        refine lv_bipush (v := nI 32) C.1 C.2.1 dX5_holds_151 (by decide) ?_
                        refine lv_iload_n C.1 C.2.1 dX5_holds_153 rfl (lv_at hl 3 rfl) ?_
                        refine q_imul C dX5_holds_154 ?_
                        refine lv_iload C.1 C.2.1 dX5_holds_155 (lv_at hl 1 rfl) ?_
                        refine q_iadd C dX5_holds_157 ?_
                        refine o_nald (x := (N 12) ((32 * i) + y)) C S O 12 (Nat.le_of_ble_eq_true rfl) rfl ((32 * i) + y) rfl (show (32 * i) + y < 1920 from by first | omega | exact hL _ | exact hP _ | exact hF _) (Nat.le_of_ble_eq_true rfl) rfl dX5_holds_158 ?_
                        refine q_callSl (As := [.int (nI ((N 12) ((32 * i) + y)))]) (rest := []) C S hl O.1 rfl (m_numberOf O ((N 12) ((32 * i) + y)) (by first | omega | exact hk12 _ | exact hL _ | exact hP7 _ | exact hF _) hM0) (cwV 1 C.2.2.2.2 gX5_holds_X5_numberOf rfl rfl rfl (by decide +kernel) ⟨Nat.le_of_ble_eq_true rfl, Nat.le_of_ble_eq_true rfl⟩) rfl rfl (Nat.le_of_ble_eq_true rfl) ⟨Nat.le_of_ble_eq_true rfl, Nat.le_of_ble_eq_true rfl⟩ dX5_holds_159 (fun v hv => ?_)
                        subst hv
                        refine lv_aload_n C.1 C.2.1 dX5_holds_162 rfl (lv_at hl 2 rfl) ?_
                        refine lv_aload_n C.1 C.2.1 dX5_holds_163 rfl (lv_at hl 2 rfl) ?_
                        refine o_get (v := .ref (a 12)) C S O rfl inX5_holds_X5 12 (Nat.le_of_ble_eq_true rfl) lkX5_holds_38 rfl dX5_holds_164 ?_
                        refine lv_bipush (v := nI 32) C.1 C.2.1 dX5_holds_167 (by decide) ?_
                        refine lv_iload_n C.1 C.2.1 dX5_holds_169 rfl (lv_at hl 3 rfl) ?_
                        refine q_imul C dX5_holds_170 ?_
                        refine lv_iload C.1 C.2.1 dX5_holds_171 (lv_at hl 0 rfl) ?_
                        refine q_iadd C dX5_holds_173 ?_
                        refine o_nald (x := (N 12) ((32 * i) + u)) C S O 12 (Nat.le_of_ble_eq_true rfl) rfl ((32 * i) + u) rfl (show (32 * i) + u < 1920 from by first | omega | exact hL _ | exact hP _ | exact hF _) (Nat.le_of_ble_eq_true rfl) rfl dX5_holds_174 ?_
                        refine q_callSl (As := [.int (nI ((N 12) ((32 * i) + u)))]) (rest := [.long (nuM N B J ((N 12) ((32 * i) + y)))]) C S hl O.1 rfl (m_numberOf O ((N 12) ((32 * i) + u)) (by first | omega | exact hk12 _ | exact hL _ | exact hP7 _ | exact hF _) hM0) (cwV 1 C.2.2.2.2 gX5_holds_X5_numberOf rfl rfl rfl (by decide +kernel) ⟨Nat.le_of_ble_eq_true rfl, Nat.le_of_ble_eq_true rfl⟩) rfl rfl (Nat.le_of_ble_eq_true rfl) ⟨Nat.le_of_ble_eq_true rfl, Nat.le_of_ble_eq_true rfl⟩ dX5_holds_175 (fun v hv => ?_)
                        subst hv
                        refine q_lcmp_ne (tgt := 184) C dX5_holds_178 dX5_holds_179 (by decide) (fun c178 => ?_) (fun c178 => ?_)
                        · refine q_iinc (d := 1) (lv' := [(5, .int (nI (u + 1))), (4, .int (nI y)), (0, .ref h), (1, .int (nI i))]) C dX5_holds_184 hl (k := 0) rfl (by decide) (by decide) rfl (fun ls hl => ?_)
                          refine lv_goto (tgt := 139) C.1 C.2.1 dX5_holds_187 (by decide) ?_
                          exact ih139 (u + 1) (by omega) (by omega) (fun j hj => by rcases Nat.lt_or_ge j u with a | a; exact hu2 j a; rw [show j = u by omega]; exact fun q => c178 q.symm) _ (lv_sub hl [0, 1, 2, 3] rfl)
                        · refine lv_iconst (v := nI 0) C.1 C.2.1 dX5_holds_182 (by decide) ?_
                          exact q_retSz (b := false) C hr hlk rfl (by rw [hoM, hoF, if_pos (show allb (fun k => knM N B (N 12 (32 * i + k))) (N 11 i) = true from allb_t (fun k hk => hz2 k (by omega)))]; show bI false = bI (soF _ _ _ _ _); rw [soF, if_neg c75, if_neg c102, unl_f (i := y) (j := u) (by omega) (by omega) c178.symm]) dX5_holds_183
                  exact lp139 (y + 1) 0 (by omega) (by omega) (fun i hi => absurd hi (Nat.not_lt_zero i)) _ (lv_sub hl [0, 1, 2, 3] rfl)
            exact lp125 (N 11 i + 1) 0 (by omega) (by omega) (fun i j hi => absurd hi (Nat.not_lt_zero i)) _ (lv_sub hl [0, 2, 3] rfl)
          · refine lv_lload_n C.1 C.2.1 dX5_holds_105 rfl (lv_at hl 1 rfl) ?_
            refine lv_aload_n C.1 C.2.1 dX5_holds_106 rfl (lv_at hl 2 rfl) ?_
            refine o_get (v := .ref (a 14)) C S O rfl inX5_holds_X5 14 (Nat.le_of_ble_eq_true rfl) lkX5_holds_44 rfl dX5_holds_107 ?_
            refine lv_iload_n C.1 C.2.1 dX5_holds_110 rfl (lv_at hl 3 rfl) ?_
            refine o_lald (x := (J 14) i) C S O 14 (Nat.le_of_ble_eq_true rfl) rfl i rfl (show i < 60 from by first | omega | exact hL _ | exact hP _ | exact hF _) (Nat.le_of_ble_eq_true rfl) rfl dX5_holds_111 ?_
            refine q_lcmp_ne (tgt := 120) C dX5_holds_112 dX5_holds_113 (by decide) (fun c112 => ?_) (fun c112 => ?_)
            · refine lv_iconst (v := nI 0) C.1 C.2.1 dX5_holds_120 (by decide) ?_
              exact q_retSz (b := false) C hr hlk rfl (by rw [hoM, hoF, if_pos (show allb (fun k => knM N B (N 12 (32 * i + k))) (N 11 i) = true from allb_t (fun k hk => hz2 k (by omega)))]; show bI false = bI (soF _ _ _ _ _); rw [soF, if_neg c75, if_pos c102]; rw [hq, show z = N 11 i by omega] at c112; exact congrArg bI (decide_eq_false c112).symm) dX5_holds_121
            · refine lv_iconst (v := nI 1) C.1 C.2.1 dX5_holds_116 (by decide) ?_
              refine lv_goto (tgt := 121) C.1 C.2.1 dX5_holds_117 (by decide) ?_
              exact q_retSz (b := true) C hr hlk rfl (by rw [hoM, hoF, if_pos (show allb (fun k => knM N B (N 12 (32 * i + k))) (N 11 i) = true from allb_t (fun k hk => hz2 k (by omega)))]; show bI true = bI (soF _ _ _ _ _); rw [soF, if_neg c75, if_pos c102]; rw [hq, show z = N 11 i by omega] at c112; exact congrArg bI (decide_eq_true c112).symm) dX5_holds_121
        · refine lv_lload_n C.1 C.2.1 dX5_holds_78 rfl (lv_at hl 1 rfl) ?_
          refine lv_aload_n C.1 C.2.1 dX5_holds_79 rfl (lv_at hl 2 rfl) ?_
          refine o_get (v := .ref (a 14)) C S O rfl inX5_holds_X5 14 (Nat.le_of_ble_eq_true rfl) lkX5_holds_44 rfl dX5_holds_80 ?_
          refine lv_iload_n C.1 C.2.1 dX5_holds_83 rfl (lv_at hl 3 rfl) ?_
          refine o_lald (x := (J 14) i) C S O 14 (Nat.le_of_ble_eq_true rfl) rfl i rfl (show i < 60 from by first | omega | exact hL _ | exact hP _ | exact hF _) (Nat.le_of_ble_eq_true rfl) rfl dX5_holds_84 ?_
          refine q_lcmp_gt (tgt := 93) C dX5_holds_85 dX5_holds_86 (by decide) (fun c85 => ?_) (fun c85 => ?_)
          · refine lv_iconst (v := nI 0) C.1 C.2.1 dX5_holds_93 (by decide) ?_
            exact q_retSz (b := false) C hr hlk rfl (by rw [hoM, hoF, if_pos (show allb (fun k => knM N B (N 12 (32 * i + k))) (N 11 i) = true from allb_t (fun k hk => hz2 k (by omega)))]; show bI false = bI (soF _ _ _ _ _); rw [soF, if_pos c75]; rw [hq, show z = N 11 i by omega] at c85; exact congrArg bI (decide_eq_false c85).symm) dX5_holds_94
          · refine lv_iconst (v := nI 1) C.1 C.2.1 dX5_holds_89 (by decide) ?_
            refine lv_goto (tgt := 94) C.1 C.2.1 dX5_holds_90 (by decide) ?_
            exact q_retSz (b := true) C hr hlk rfl (by rw [hoM, hoF, if_pos (show allb (fun k => knM N B (N 12 (32 * i + k))) (N 11 i) = true from allb_t (fun k hk => hz2 k (by omega)))]; show bI true = bI (soF _ _ _ _ _); rw [soF, if_pos c75]; rw [hq, show z = N 11 i by omega] at c85; exact congrArg bI (decide_eq_true c85).symm) dX5_holds_94
      · refine lv_aload_n C.1 C.2.1 dX5_holds_16 rfl (lv_at hl 2 rfl) ?_
        refine o_get (v := .ref (a 12)) C S O rfl inX5_holds_X5 12 (Nat.le_of_ble_eq_true rfl) lkX5_holds_38 rfl dX5_holds_17 ?_
        refine lv_bipush (v := nI 32) C.1 C.2.1 dX5_holds_20 (by decide) ?_
        refine lv_iload_n C.1 C.2.1 dX5_holds_22 rfl (lv_at hl 3 rfl) ?_
        refine q_imul C dX5_holds_23 ?_
        refine lv_iload C.1 C.2.1 dX5_holds_24 (lv_at hl 0 rfl) ?_
        refine q_iadd C dX5_holds_26 ?_
        refine o_nald (x := (N 12) ((32 * i) + z)) C S O 12 (Nat.le_of_ble_eq_true rfl) rfl ((32 * i) + z) rfl (show (32 * i) + z < 1920 from by first | omega | exact hL _ | exact hP _ | exact hF _) (Nat.le_of_ble_eq_true rfl) rfl dX5_holds_27 ?_
        refine lv_istore (lv' := [(5, .int (nI ((N 12) ((32 * i) + z)))), (4, .int (nI z)), (2, .long q), (0, .ref h), (1, .int (nI i))]) C.1 C.2.1 dX5_holds_28 hl (by decide) rfl (fun ls hl => ?_)
        refine lv_aload_n C.1 C.2.1 dX5_holds_30 rfl (lv_at hl 3 rfl) ?_
        refine lv_iload C.1 C.2.1 dX5_holds_31 (lv_at hl 0 rfl) ?_
        refine q_callSi (As := [.int (nI ((N 12) ((32 * i) + z)))]) (rest := []) C S hl O.1 rfl (m_isKnown O ((N 12) ((32 * i) + z)) (by first | omega | exact hk12 _ | exact hL _ | exact hP7 _ | exact hF _) hM0) (cwV 1 C.2.2.2.2 gX5_holds_X5_isKnown rfl rfl rfl (by decide +kernel) ⟨Nat.le_of_ble_eq_true rfl, Nat.le_of_ble_eq_true rfl⟩) rfl rfl (Nat.le_of_ble_eq_true rfl) ⟨Nat.le_of_ble_eq_true rfl, Nat.le_of_ble_eq_true rfl⟩ dX5_holds_33 (fun v hv => ?_)
        subst hv
        refine q_ifneB (tgt := 41) C dX5_holds_36 (by decide) (fun c36 => ?_) (fun c36 => ?_)
        · refine lv_lload_n C.1 C.2.1 dX5_holds_41 rfl (lv_at hl 2 rfl) ?_
          refine lv_aload_n C.1 C.2.1 dX5_holds_42 rfl (lv_at hl 3 rfl) ?_
          refine o_get (v := .ref (a 13)) C S O rfl inX5_holds_X5 13 (Nat.le_of_ble_eq_true rfl) lkX5_holds_41 rfl dX5_holds_43 ?_
          refine lv_bipush (v := nI 32) C.1 C.2.1 dX5_holds_46 (by decide) ?_
          refine lv_iload_n C.1 C.2.1 dX5_holds_48 rfl (lv_at hl 4 rfl) ?_
          refine q_imul C dX5_holds_49 ?_
          refine lv_iload C.1 C.2.1 dX5_holds_50 (lv_at hl 1 rfl) ?_
          refine q_iadd C dX5_holds_52 ?_
          refine o_lald (x := (J 13) ((32 * i) + z)) C S O 13 (Nat.le_of_ble_eq_true rfl) rfl ((32 * i) + z) rfl (show (32 * i) + z < 1920 from by first | omega | exact hL _ | exact hP _ | exact hF _) (Nat.le_of_ble_eq_true rfl) rfl dX5_holds_53 ?_
          refine lv_aload_n C.1 C.2.1 dX5_holds_54 rfl (lv_at hl 3 rfl) ?_
          refine lv_iload C.1 C.2.1 dX5_holds_55 (lv_at hl 0 rfl) ?_
          refine q_callSl (As := [.int (nI ((N 12) ((32 * i) + z)))]) (rest := [.long ((J 13) ((32 * i) + z)), .long q]) C S hl O.1 rfl (m_numberOf O ((N 12) ((32 * i) + z)) (by first | omega | exact hk12 _ | exact hL _ | exact hP7 _ | exact hF _) hM0) (cwV 1 C.2.2.2.2 gX5_holds_X5_numberOf rfl rfl rfl (by decide +kernel) ⟨Nat.le_of_ble_eq_true rfl, Nat.le_of_ble_eq_true rfl⟩) rfl rfl (Nat.le_of_ble_eq_true rfl) ⟨Nat.le_of_ble_eq_true rfl, Nat.le_of_ble_eq_true rfl⟩ dX5_holds_57 (fun v hv => ?_)
          subst hv
          refine lv_lmul C.1 C.2.1 dX5_holds_60 ?_
          refine lv_ladd C.1 C.2.1 dX5_holds_61 ?_
          refine lv_lstore_n (lv' := [(2, .long (q + (((J 13) ((32 * i) + z)) * (nuM N B J ((N 12) ((32 * i) + z)))))), (5, .int (nI ((N 12) ((32 * i) + z)))), (4, .int (nI z)), (0, .ref h), (1, .int (nI i))]) C.1 C.2.1 dX5_holds_62 rfl hl (by decide) rfl (fun ls hl => ?_)
          refine q_iinc (d := 1) (lv' := [(4, .int (nI (z + 1))), (2, .long (q + (((J 13) ((32 * i) + z)) * (nuM N B J ((N 12) ((32 * i) + z)))))), (5, .int (nI ((N 12) ((32 * i) + z)))), (0, .ref h), (1, .int (nI i))]) C dX5_holds_63 hl (k := 2) rfl (by decide) (by decide) rfl (fun ls hl => ?_)
          refine lv_goto (tgt := 5) C.1 C.2.1 dX5_holds_66 (by decide) ?_
          exact ih5 (z + 1) (q + (((J 13) ((32 * i) + z)) * (nuM N B J ((N 12) ((32 * i) + z))))) (by omega) (by omega) (by rw [hq]; rfl) (fun k hk => by rcases Nat.lt_or_ge k z with a | a; exact hz2 k a; rw [show k = z by omega]; exact c36) _ (lv_sub hl [0, 1, 3, 4] rfl)
        · refine lv_iconst (v := nI 1) C.1 C.2.1 dX5_holds_39 (by decide) ?_
          exact q_retSz (b := true) C hr hlk rfl (by show bI true = bI _; rw [hoM, hoF, if_neg (by rw [allb_f (i := z) (by omega) c36]; decide)]) dX5_holds_40
  exact lp5 (N 11 i + 1) 0 0 (by omega) (by omega) rfl (fun i hi => absurd hi (Nat.not_lt_zero i)) _ (lv_sub hl [0, 1, 2, 3] rfl)
theorem inX5_forget_X5 : ∀ w ∈ u_ws RX5 TX5 34, w ∈ wsX5_forget := (fun _ h => (List.mem_cons_of_mem _ (List.mem_append_right _ h)))
theorem lkX5_forget_139 : Cond.fieldLink RX5 139 (TX5 32).1 (TX5 32).2.1 (TX5 32).2.2.1 ∈ wsX5_forget := List.mem_of_getElem? (i := 1) rfl
theorem lkX5_forget_143 : Cond.fieldLink RX5 143 (TX5 30).1 (TX5 30).2.1 (TX5 30).2.2.1 ∈ wsX5_forget := List.mem_of_getElem? (i := 2) rfl
theorem lkX5_forget_146 : Cond.fieldLink RX5 146 (TX5 29).1 (TX5 29).2.1 (TX5 29).2.2.1 ∈ wsX5_forget := List.mem_of_getElem? (i := 3) rfl
set_option maxHeartbeats 4000000 in
set_option maxRecDepth 100000 in
theorem m_forget {l : Launch} {G : fw_G} {A : Nat → Prop} {f0 : fw_F} {h : Nat} {a : Nat → Nat} {I : Nat → Nat} {N : Nat → Nat → Nat} {B : Nat → Nat → Bool} {J : Nat → Nat → Int64} (O : isO G dM f0 2000 h a I N B J)   : Met l yX5_forget wsX5_forget ({ frames := 0, cells := 0, slots := 0, locals := 0 }) (va_Pc [.ref h] (fw_P G A f0)) (va_Qv (fun (f1 : fw_F) => isO G dM f1 2000 h a (va_up (va_up I 30 0) 29 0) N (va_up B 32 (fun _ => false)) J ∧ fw_fr f0 f1 2000 2035) (fw_B G A) A) 0 0 A := by
  refine q_head rfl (by decide) (Nat.le_of_ble_eq_true rfl) ?_
  intro p e s m below meth c ls C hr hlk hnm P hl
  have S := P.start
  have hl : lv_has ls 1 [(0, .ref h)] := hl
  have F := fw_fr_rf f0 2000 2035
  refine lv_aload_n C.1 C.2.1 dX5_forget_0 rfl (lv_at hl 0 rfl) ?_
  refine lv_iconst (v := bI false) C.1 C.2.1 dX5_forget_1 (by decide) ?_
  refine o_putz C S O F rfl inX5_forget_X5 tyX5 tyX5_ok nmX5 32 (Nat.le_of_ble_eq_true rfl) rfl lkX5_forget_139 rfl rfl ⟨by decide, by decide⟩ dX5_forget_2 (fun f H locs S O F => ?_)
  refine lv_aload_n C.1 C.2.1 dX5_forget_5 rfl (lv_at hl 0 rfl) ?_
  refine lv_iconst (v := nI 0) C.1 C.2.1 dX5_forget_6 (by decide) ?_
  refine o_puti C S O F rfl inX5_forget_X5 tyX5 tyX5_ok nmX5 30 (Nat.le_of_ble_eq_true rfl) rfl lkX5_forget_143 rfl rfl ⟨by decide, by decide⟩ dX5_forget_7 (fun f H locs S O F => ?_)
  refine lv_aload_n C.1 C.2.1 dX5_forget_10 rfl (lv_at hl 0 rfl) ?_
  refine lv_iconst (v := nI 0) C.1 C.2.1 dX5_forget_11 (by decide) ?_
  refine o_puti C S O F rfl inX5_forget_X5 tyX5 tyX5_ok nmX5 29 (Nat.le_of_ble_eq_true rfl) rfl lkX5_forget_146 rfl rfl ⟨by decide, by decide⟩ dX5_forget_12 (fun f H locs S O F => ?_)
  exact q_retQv C S hr hlk ⟨O, F⟩ dX5_forget_15
end
