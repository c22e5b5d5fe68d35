theorem inX5_isName_X5 : ∀ w ∈ u_ws RX5 TX5 34, w ∈ wsX5_isName := (fun _ h => (List.mem_cons_of_mem _ (List.mem_append_right _ h)))
theorem lkX5_isName_87 : Cond.fieldLink RX5 87 (TX5 0).1 (TX5 0).2.1 (TX5 0).2.2.1 ∈ wsX5_isName := List.mem_of_getElem? (i := 1) rfl
set_option maxHeartbeats 4000000 in
set_option maxRecDepth 100000 in
theorem m_isName {l : Launch} {G : fw_G} {A : Nat → Prop} {f0 : fw_F} {h : Nat} {a : Nat → Nat} {I : Nat → Nat} {N : Nat → Nat → Nat} {B : Nat → Nat → Bool} {J : Nat → Nat → Int64} (O : isO G dM f0 2000 h a I N B J) (x : Int32)  : Met l yX5_isName wsX5_isName ({ frames := 0, cells := 0, slots := 0, locals := 0 }) (va_Pc [.ref h, .int x] (fw_P G A f0)) (vp_Si (fun (r : Int32) => r = bI (ix x (I 0)))) 0 0 (fun _ => False) := by
  refine q_head rfl (by decide) (Nat.le_of_ble_eq_true rfl) ?_
  intro p e s m below meth c ls C hr hlk hnm P hl
  have S := P.start
  have hl : lv_has ls 2 [(0, .ref h), (1, .int x)] := hl
  refine lv_iload_n C.1 C.2.1 dX5_isName_0 rfl (lv_at hl 1 rfl) ?_
  refine lv_if_lt (tgt := 16) C.1 C.2.1 dX5_isName_1 (by decide) (fun c1 => ?_) (fun c1 => ?_)
  · refine lv_iconst (v := nI 0) C.1 C.2.1 dX5_isName_16 (by decide) ?_
    exact q_retSz (b := false) C hr hlk rfl (by show bI false = bI _; rw [ix, decide_eq_false (not_not_intro c1)]; rfl) dX5_isName_17
  · refine lv_iload_n C.1 C.2.1 dX5_isName_4 rfl (lv_at hl 1 rfl) ?_
    refine lv_aload_n C.1 C.2.1 dX5_isName_5 rfl (lv_at hl 0 rfl) ?_
    refine o_get (v := .int (nI (I 0))) C S O rfl inX5_isName_X5 0 (Nat.le_of_ble_eq_true rfl) lkX5_isName_87 rfl dX5_isName_6 ?_
    refine lv_icmp_ge (tgt := 16) C.1 C.2.1 dX5_isName_9 (by decide) (fun c9 => ?_) (fun c9 => ?_)
    · refine lv_iconst (v := nI 0) C.1 C.2.1 dX5_isName_16 (by decide) ?_
      exact q_retSz (b := false) C hr hlk rfl (by show bI false = bI _; rw [ix, decide_eq_false (Int32.not_lt.mpr c9), Bool.and_false]) dX5_isName_17
    · refine lv_iconst (v := nI 1) C.1 C.2.1 dX5_isName_12 (by decide) ?_
      refine lv_goto (tgt := 17) C.1 C.2.1 dX5_isName_13 (by decide) ?_
      exact q_retSz (b := true) C hr hlk rfl (by show bI true = bI _; rw [ix, decide_eq_true c1, decide_eq_true (Int32.not_le.mp c9)]; rfl) dX5_isName_17
theorem inX5_isKnown_X5 : ∀ w ∈ u_ws RX5 TX5 34, w ∈ wsX5_isKnown := (fun _ h => (List.mem_cons_of_mem _ (List.mem_append_right _ h)))
theorem lkX5_isKnown_59 : Cond.fieldLink RX5 59 (TX5 21).1 (TX5 21).2.1 (TX5 21).2.2.1 ∈ wsX5_isKnown := List.mem_of_getElem? (i := 1) rfl
theorem lkX5_isKnown_56 : Cond.fieldLink RX5 56 (TX5 20).1 (TX5 20).2.1 (TX5 20).2.2.1 ∈ wsX5_isKnown := List.mem_of_getElem? (i := 2) rfl
theorem lkX5_isKnown_75 : Cond.fieldLink RX5 75 (TX5 26).1 (TX5 26).2.1 (TX5 26).2.2.1 ∈ wsX5_isKnown := List.mem_of_getElem? (i := 3) rfl
set_option maxHeartbeats 4000000 in
set_option maxRecDepth 100000 in
theorem m_isKnown {l : Launch} {G : fw_G} {A : Nat → Prop} {f0 : fw_F} {h : Nat} {a : Nat → Nat} {I : Nat → Nat} {N : Nat → Nat → Nat} {B : Nat → Nat → Bool} {J : Nat → Nat → Int64} (O : isO G dM f0 2000 h a I N B J) (x : Nat) (hx : x < 64) (hM : mOK I N)  : Met l yX5_isKnown wsX5_isKnown ({ frames := 0, cells := 0, slots := 0, locals := 0 }) (va_Pc [.ref h, .int (nI x)] (fw_P G A f0)) (vp_Si (fun (r : Int32) => r = bI (knM N B x))) 0 0 (fun _ => False) := by
  refine q_head rfl (by decide) (Nat.le_of_ble_eq_true rfl) ?_
  intro p e s m below meth c ls C hr hlk hnm P hl
  have S := P.start
  have hl : lv_has ls 2 [(0, .ref h), (1, .int (nI x))] := hl
  obtain ⟨⟨hm0, hm6, hm9, hm15, hm19⟩, ⟨hs1, hs2, hs3⟩, ⟨hP7, hk10, hk11, hk12⟩, hL, hF⟩ := hM
  refine lv_aload_n C.1 C.2.1 dX5_isKnown_0 rfl (lv_at hl 0 rfl) ?_
  refine o_get (v := .ref (a 21)) C S O rfl inX5_isKnown_X5 21 (Nat.le_of_ble_eq_true rfl) lkX5_isKnown_59 rfl dX5_isKnown_1 ?_
  refine lv_aload_n C.1 C.2.1 dX5_isKnown_4 rfl (lv_at hl 0 rfl) ?_
  refine o_get (v := .ref (a 20)) C S O rfl inX5_isKnown_X5 20 (Nat.le_of_ble_eq_true rfl) lkX5_isKnown_56 rfl dX5_isKnown_5 ?_
  refine lv_iload_n C.1 C.2.1 dX5_isKnown_8 rfl (lv_at hl 1 rfl) ?_
  refine o_nald (x := (N 20) x) C S O 20 (Nat.le_of_ble_eq_true rfl) rfl x rfl (show x < 64 from by first | omega | exact hL _ | exact hP _ | exact hF _) (Nat.le_of_ble_eq_true rfl) rfl dX5_isKnown_9 ?_
  refine o_yald (x := (B 21) ((N 20) x)) C S O 21 (Nat.le_of_ble_eq_true rfl) rfl ((N 20) x) rfl (show (N 20) x < 64 from by first | omega | exact hL _ | exact hP _ | exact hF _) (Nat.le_of_ble_eq_true rfl) rfl dX5_isKnown_10 ?_
  refine q_ifneB (tgt := 28) C dX5_isKnown_11 (by decide) (fun c11 => ?_) (fun c11 => ?_)
  · refine lv_iconst (v := nI 1) C.1 C.2.1 dX5_isKnown_28 (by decide) ?_
    refine lv_goto (tgt := 33) C.1 C.2.1 dX5_isKnown_29 (by decide) ?_
    exact q_retSz (b := true) C hr hlk rfl (by show bI true = bI _; rw [knM, c11]; rfl) dX5_isKnown_33
  · refine lv_aload_n C.1 C.2.1 dX5_isKnown_14 rfl (lv_at hl 0 rfl) ?_
    refine o_get (v := .ref (a 26)) C S O rfl inX5_isKnown_X5 26 (Nat.le_of_ble_eq_true rfl) lkX5_isKnown_75 rfl dX5_isKnown_15 ?_
    refine lv_aload_n C.1 C.2.1 dX5_isKnown_18 rfl (lv_at hl 0 rfl) ?_
    refine o_get (v := .ref (a 20)) C S O rfl inX5_isKnown_X5 20 (Nat.le_of_ble_eq_true rfl) lkX5_isKnown_56 rfl dX5_isKnown_19 ?_
    refine lv_iload_n C.1 C.2.1 dX5_isKnown_22 rfl (lv_at hl 1 rfl) ?_
    refine o_nald (x := (N 20) x) C S O 20 (Nat.le_of_ble_eq_true rfl) rfl x rfl (show x < 64 from by first | omega | exact hL _ | exact hP _ | exact hF _) (Nat.le_of_ble_eq_true rfl) rfl dX5_isKnown_23 ?_
    refine o_yald (x := (B 26) ((N 20) x)) C S O 26 (Nat.le_of_ble_eq_true rfl) rfl ((N 20) x) rfl (show (N 20) x < 64 from by first | omega | exact hL _ | exact hP _ | exact hF _) (Nat.le_of_ble_eq_true rfl) rfl dX5_isKnown_24 ?_
    refine q_ifeqB (tgt := 32) C dX5_isKnown_25 (by decide) (fun c25 => ?_) (fun c25 => ?_)
    · refine lv_iconst (v := nI 0) C.1 C.2.1 dX5_isKnown_32 (by decide) ?_
      exact q_retSz (b := false) C hr hlk rfl (by show bI false = bI _; rw [knM, c11, c25]; rfl) dX5_isKnown_33
    · refine lv_iconst (v := nI 1) C.1 C.2.1 dX5_isKnown_28 (by decide) ?_
      refine lv_goto (tgt := 33) C.1 C.2.1 dX5_isKnown_29 (by decide) ?_
      exact q_retSz (b := true) C hr hlk rfl (by show bI true = bI _; rw [knM, c11, c25]; rfl) dX5_isKnown_33
theorem inX5_numberOf_X5 : ∀ w ∈ u_ws RX5 TX5 34, w ∈ wsX5_numberOf := (fun _ h => (List.mem_cons_of_mem _ (List.mem_append_right _ h)))
theorem lkX5_numberOf_59 : Cond.fieldLink RX5 59 (TX5 21).1 (TX5 21).2.1 (TX5 21).2.2.1 ∈ wsX5_numberOf := List.mem_of_getElem? (i := 1) rfl
theorem lkX5_numberOf_56 : Cond.fieldLink RX5 56 (TX5 20).1 (TX5 20).2.1 (TX5 20).2.2.1 ∈ wsX5_numberOf := List.mem_of_getElem? (i := 2) rfl
theorem lkX5_numberOf_78 : Cond.fieldLink RX5 78 (TX5 27).1 (TX5 27).2.1 (TX5 27).2.2.1 ∈ wsX5_numberOf := List.mem_of_getElem? (i := 4) rfl
theorem lkX5_numberOf_66 : Cond.fieldLink RX5 66 (TX5 23).1 (TX5 23).2.1 (TX5 23).2.2.1 ∈ wsX5_numberOf := List.mem_of_getElem? (i := 3) rfl
set_option maxHeartbeats 4000000 in
set_option maxRecDepth 100000 in
theorem m_numberOf {l : Launch} {G : fw_G} {A : Nat → Prop} {f0 : fw_F} {h : Nat} {a : Nat → Nat} {I : Nat → Nat} {N : Nat → Nat → Nat} {B : Nat → Nat → Bool} {J : Nat → Nat → Int64} (O : isO G dM f0 2000 h a I N B J) (x : Nat) (hx : x < 64) (hM : mOK I N)  : Met l yX5_numberOf wsX5_numberOf ({ frames := 0, cells := 0, slots := 0, locals := 0 }) (va_Pc [.ref h, .int (nI x)] (fw_P G A f0)) (vp_Sl (fun (r : Int64) => r = nuM N B J x)) 0 0 (fun _ => False) := by
  refine q_head rfl (by decide) (Nat.le_of_ble_eq_true rfl) ?_
  intro p e s m below meth c ls C hr hlk hnm P hl
  have S := P.start
  have hl : lv_has ls 2 [(0, .ref h), (1, .int (nI x))] := hl
  obtain ⟨⟨hm0, hm6, hm9, hm15, hm19⟩, ⟨hs1, hs2, hs3⟩, ⟨hP7, hk10, hk11, hk12⟩, hL, hF⟩ := hM
  refine lv_aload_n C.1 C.2.1 dX5_numberOf_0 rfl (lv_at hl 0 rfl) ?_
  refine o_get (v := .ref (a 21)) C S O rfl inX5_numberOf_X5 21 (Nat.le_of_ble_eq_true rfl) lkX5_numberOf_59 rfl dX5_numberOf_1 ?_
  refine lv_aload_n C.1 C.2.1 dX5_numberOf_4 rfl (lv_at hl 0 rfl) ?_
  refine o_get (v := .ref (a 20)) C S O rfl inX5_numberOf_X5 20 (Nat.le_of_ble_eq_true rfl) lkX5_numberOf_56 rfl dX5_numberOf_5 ?_
  refine lv_iload_n C.1 C.2.1 dX5_numberOf_8 rfl (lv_at hl 1 rfl) ?_
  refine o_nald (x := (N 20) x) C S O 20 (Nat.le_of_ble_eq_true rfl) rfl x rfl (show x < 64 from by first | omega | exact hL _ | exact hP _ | exact hF _) (Nat.le_of_ble_eq_true rfl) rfl dX5_numberOf_9 ?_
  refine o_yald (x := (B 21) ((N 20) x)) C S O 21 (Nat.le_of_ble_eq_true rfl) rfl ((N 20) x) rfl (show (N 20) x < 64 from by first | omega | exact hL _ | exact hP _ | exact hF _) (Nat.le_of_ble_eq_true rfl) rfl dX5_numberOf_10 ?_
  refine q_ifeqB (tgt := 28) C dX5_numberOf_11 (by decide) (fun c11 => ?_) (fun c11 => ?_)
  · refine lv_aload_n C.1 C.2.1 dX5_numberOf_28 rfl (lv_at hl 0 rfl) ?_
    refine o_get (v := .ref (a 27)) C S O rfl inX5_numberOf_X5 27 (Nat.le_of_ble_eq_true rfl) lkX5_numberOf_78 rfl dX5_numberOf_29 ?_
    refine lv_aload_n C.1 C.2.1 dX5_numberOf_32 rfl (lv_at hl 0 rfl) ?_
    refine o_get (v := .ref (a 20)) C S O rfl inX5_numberOf_X5 20 (Nat.le_of_ble_eq_true rfl) lkX5_numberOf_56 rfl dX5_numberOf_33 ?_
    refine lv_iload_n C.1 C.2.1 dX5_numberOf_36 rfl (lv_at hl 1 rfl) ?_
    refine o_nald (x := (N 20) x) C S O 20 (Nat.le_of_ble_eq_true rfl) rfl x rfl (show x < 64 from by first | omega | exact hL _ | exact hP _ | exact hF _) (Nat.le_of_ble_eq_true rfl) rfl dX5_numberOf_37 ?_
    refine o_lald (x := (J 27) ((N 20) x)) C S O 27 (Nat.le_of_ble_eq_true rfl) rfl ((N 20) x) rfl (show (N 20) x < 64 from by first | omega | exact hL _ | exact hP _ | exact hF _) (Nat.le_of_ble_eq_true rfl) rfl dX5_numberOf_38 ?_
    exact q_retSl C hr hlk (by rw [nuM, if_neg (by rw [c11]; decide)]) dX5_numberOf_39
  · refine lv_aload_n C.1 C.2.1 dX5_numberOf_14 rfl (lv_at hl 0 rfl) ?_
    refine o_get (v := .ref (a 23)) C S O rfl inX5_numberOf_X5 23 (Nat.le_of_ble_eq_true rfl) lkX5_numberOf_66 rfl dX5_numberOf_15 ?_
    refine lv_aload_n C.1 C.2.1 dX5_numberOf_18 rfl (lv_at hl 0 rfl) ?_
    refine o_get (v := .ref (a 20)) C S O rfl inX5_numberOf_X5 20 (Nat.le_of_ble_eq_true rfl) lkX5_numberOf_56 rfl dX5_numberOf_19 ?_
    refine lv_iload_n C.1 C.2.1 dX5_numberOf_22 rfl (lv_at hl 1 rfl) ?_
    refine o_nald (x := (N 20) x) C S O 20 (Nat.le_of_ble_eq_true rfl) rfl x rfl (show x < 64 from by first | omega | exact hL _ | exact hP _ | exact hF _) (Nat.le_of_ble_eq_true rfl) rfl dX5_numberOf_23 ?_
    refine o_lald (x := (J 23) ((N 20) x)) C S O 23 (Nat.le_of_ble_eq_true rfl) rfl ((N 20) x) rfl (show (N 20) x < 64 from by first | omega | exact hL _ | exact hP _ | exact hF _) (Nat.le_of_ble_eq_true rfl) rfl dX5_numberOf_24 ?_
    refine lv_goto (tgt := 39) C.1 C.2.1 dX5_numberOf_25 (by decide) ?_
    exact q_retSl C hr hlk (by rw [nuM, if_pos c11]) dX5_numberOf_39
theorem inX5_holds_X5 : ∀ w ∈ u_ws RX5 TX5 34, w ∈ wsX5_holds := (fun _ h => (List.mem_cons_of_mem _ (List.mem_append_right _ h)))
theorem lkX5_holds_35 : Cond.fieldLink RX5 35 (TX5 11).1 (TX5 11).2.1 (TX5 11).2.2.1 ∈ wsX5_holds := List.mem_of_getElem? (i := 1) rfl
theorem lkX5_holds_32 : Cond.fieldLink RX5 32 (TX5 10).1 (TX5 10).2.1 (TX5 10).2.2.1 ∈ wsX5_holds := List.mem_of_getElem? (i := 4) rfl
theorem lkX5_holds_38 : Cond.fieldLink RX5 38 (TX5 12).1 (TX5 12).2.1 (TX5 12).2.2.1 ∈ wsX5_holds := List.mem_of_getElem? (i := 2) rfl
theorem lkX5_holds_44 : Cond.fieldLink RX5 44 (TX5 14).1 (TX5 14).2.1 (TX5 14).2.2.1 ∈ wsX5_holds := List.mem_of_getElem? (i := 5) rfl
theorem lkX5_holds_41 : Cond.fieldLink RX5 41 (TX5 13).1 (TX5 13).2.1 (TX5 13).2.2.1 ∈ wsX5_holds := List.mem_of_getElem? (i := 3) rfl
set_option maxHeartbeats 4000000 in
set_option maxRecDepth 100000 in
theorem m_holds {l : Launch} {G : fw_G} {A : Nat → Prop} {f0 : fw_F} {h : Nat} {a : Nat → Nat} {I : Nat → Nat} {N : Nat → Nat → Nat} {B : Nat → Nat → Bool} {J : Nat → Nat → Int64} (O : isO G dM f0 2000 h a I N B J) (i : Nat) (hi : i < 60) (hM : mOK I N)  : Met l yX5_holds wsX5_holds ({ frames := 1, cells := 0, slots := 0, locals := 21 }) (va_Pc [.ref h, .int (nI i)] (fw_P G A f0)) (vp_Si (fun (r : Int32) => r = bI (hoM N B J i))) 0 0 (fun _ => False) := by
  refine q_head rfl (by decide) (Nat.le_of_ble_eq_true rfl) ?_
  intro p e s m below meth c ls C hr hlk hnm P hl
  have S := P.start
  have hl : lv_has ls 6 [(0, .ref h), (1, .int (nI i))] := hl
  have hM0 := hM
  obtain ⟨⟨hm0, hm6, hm9, hm15, hm19⟩, ⟨hs1, hs2, hs3⟩, ⟨hP7, hk10, hk11, hk12⟩, hL, hF⟩ := hM
  have hmi := hk11 i
  have hki := hk10 i
  refine lv_lconst (v := 0) C.1 C.2.1 dX5_holds_0 (by decide) ?_
  refine lv_lstore_n (lv' := [(2, .long 0), (0, .ref h), (1, .int (nI i))]) C.1 C.2.1 dX5_holds_1 rfl hl (by decide) rfl (fun ls hl => ?_)
  refine lv_iconst (v := nI 0) C.1 C.2.1 dX5_holds_2 (by decide) ?_
  refine lv_istore (lv' := [(4, .int (nI 0)), (2, .long 0), (0, .ref h), (1, .int (nI i))]) C.1 C.2.1 dX5_holds_3 hl (by decide) rfl (fun ls hl => ?_)
  have lp5 : ∀ (n5 : Nat) (z : Nat) (q : Int64), N 11 i - z < n5 → (z ≤ N 11 i) → (q = sumL (fun k => J 13 (32 * i + k) * nuM N B J (N 12 (32 * i + k))) z) → (∀ k, k < z → knM N B (N 12 (32 * i + k)) = true) → ∀ (ls : Array Slot), lv_has ls 6 [(4, .int (nI z)), (2, .long q), (0, .ref h), (1, .int (nI i))] → W p l e ({ frames := 1, cells := 0, slots := 0, locals := 21 }) s m [.ref h, .int (nI i)].toArray below meth c s.heap [] 0 0 (MQ below (vp_Si (fun (r : Int32) => r = bI (hoM N B J i))) [.ref h, .int (nI i)].toArray s 0 0 (fun _ => False)) (F0 m 5 ls []) := by
    intro n5
    induction n5 with
    | zero => intro z q hme5; exact absurd hme5 (Nat.not_lt_zero _)
    | succ n5 ih5 =>
      intro z q hme5 hz hq hz2 ls hl
      refine lv_iload C.1 C.2.1 dX5_holds_5 (lv_at hl 0 rfl) ?_
      refine lv_aload_n C.1 C.2.1 dX5_holds_7 rfl (lv_at hl 2 rfl) ?_
      refine o_get (v := .ref (a 11)) C S O rfl inX5_holds_X5 11 (Nat.le_of_ble_eq_true rfl) lkX5_holds_35 rfl dX5_holds_8 ?_
      refine lv_iload_n C.1 C.2.1 dX5_holds_11 rfl (lv_at hl 3 rfl) ?_
      refine o_nald (x := (N 11) i) C S O 11 (Nat.le_of_ble_eq_true rfl) rfl i rfl (show i < 60 from by first | omega | exact hL _ | exact hP _ | exact hF _) (Nat.le_of_ble_eq_true rfl) rfl dX5_holds_12 ?_
      refine q_ge (tgt := 69) C (by omega) (by omega) dX5_holds_13 (by decide) (fun c13 => ?_) (fun c13 => ?_)
      · refine lv_aload_n C.1 C.2.1 dX5_holds_69 rfl (lv_at hl 2 rfl) ?_
        refine o_get (v := .ref (a 10)) C S O rfl inX5_holds_X5 10 (Nat.le_of_ble_eq_true rfl) lkX5_holds_32 rfl dX5_holds_70 ?_
        refine lv_iload_n C.1 C.2.1 dX5_holds_73 rfl (lv_at hl 3 rfl) ?_
        refine o_nald (x := (N 10) i) C S O 10 (Nat.le_of_ble_eq_true rfl) rfl i rfl (show i < 60 from by first | omega | exact hL _ | exact hP _ | exact hF _) (Nat.le_of_ble_eq_true rfl) rfl dX5_holds_74 ?_
        refine q_ifneN (tgt := 95) C (by omega) dX5_holds_75 (by decide) (fun c75 => ?_) (fun c75 => ?_)
        · refine lv_aload_n C.1 C.2.1 dX5_holds_95 rfl (lv_at hl 2 rfl) ?_
          refine o_get (v := .ref (a 10)) C S O rfl inX5_holds_X5 10 (Nat.le_of_ble_eq_true rfl) lkX5_holds_32 rfl dX5_holds_96 ?_
          refine lv_iload_n C.1 C.2.1 dX5_holds_99 rfl (lv_at hl 3 rfl) ?_
          refine o_nald (x := (N 10) i) C S O 10 (Nat.le_of_ble_eq_true rfl) rfl i rfl (show i < 60 from by first | omega | exact hL _ | exact hP _ | exact hF _) (Nat.le_of_ble_eq_true rfl) rfl dX5_holds_100 ?_
          refine lv_iconst (v := nI 1) C.1 C.2.1 dX5_holds_101 (by decide) ?_
          refine q_nee (tgt := 122) C (by omega) (by decide) dX5_holds_102 (by decide) (fun c102 => ?_) (fun c102 => ?_)
          · refine lv_iconst (v := nI 0) C.1 C.2.1 dX5_holds_122 (by decide) ?_
            refine lv_istore (lv' := [(4, .int (nI 0)), (2, .long q), (0, .ref h), (1, .int (nI i))]) C.1 C.2.1 dX5_holds_123 hl (by decide) rfl (fun ls hl => ?_)
            have lp125 : ∀ (n125 : Nat) (y : Nat), N 11 i - y < n125 → (y ≤ N 11 i) → (∀ i2 j, i2 < y → j < i2 → nuM N B J (N 12 (32 * i + j)) ≠ nuM N B J (N 12 (32 * i + i2))) → ∀ (ls : Array Slot), lv_has ls 6 [(4, .int (nI y)), (0, .ref h), (1, .int (nI i))] → W p l e ({ frames := 1, cells := 0, slots := 0, locals := 21 }) s m [.ref h, .int (nI i)].toArray below meth c s.heap [] 0 0 (MQ below (vp_Si (fun (r : Int32) => r = bI (hoM N B J i))) [.ref h, .int (nI i)].toArray s 0 0 (fun _ => False)) (F0 m 125 ls []) := by
              intro n125
              induction n125 with
              | zero => intro y hme125; exact absurd hme125 (Nat.not_lt_zero _)
              | succ n125 ih125 =>
                intro y hme125 hy hy2 ls hl
                refine lv_iload C.1 C.2.1 dX5_holds_125 (lv_at hl 0 rfl) ?_
                refine lv_aload_n C.1 C.2.1 dX5_holds_127 rfl (lv_at hl 1 rfl) ?_
                refine o_get (v := .ref (a 11)) C S O rfl inX5_holds_X5 11 (Nat.le_of_ble_eq_true rfl) lkX5_holds_35 rfl dX5_holds_128 ?_
                refine lv_iload_n C.1 C.2.1 dX5_holds_131 rfl (lv_at hl 2 rfl) ?_
                refine o_nald (x := (N 11) i) C S O 11 (Nat.le_of_ble_eq_true rfl) rfl i rfl (show i < 60 from by first | omega | exact hL _ | exact hP _ | exact hF _) (Nat.le_of_ble_eq_true rfl) rfl dX5_holds_132 ?_
                refine q_ge (tgt := 196) C (by omega) (by omega) dX5_holds_133 (by decide) (fun c133 => ?_) (fun c133 => ?_)
                · refine lv_iconst (v := nI 1) C.1 C.2.1 dX5_holds_196 (by decide) ?_
                  exact q_retSz (b := true) C hr hlk rfl (by rw [hoM, hoF, if_pos (show allb (fun k => knM N B (N 12 (32 * i + k))) (N 11 i) = true from allb_t (fun k hk => hz2 k (by omega)))]; show bI true = bI (soF _ _ _ _ _); rw [soF, if_neg c75, if_neg c102, unl_iff.mpr (fun i2 j hi hj => hy2 i2 j (by omega) hj)]) dX5_holds_197
                · refine lv_iconst (v := nI 0) C.1 C.2.1 dX5_holds_136 (by decide) ?_
                  refine lv_istore (lv' := [(5, .int (nI 0)), (4, .int (nI y)), (0, .ref h), (1, .int (nI i))]) C.1 C.2.1 dX5_holds_137 hl (by decide) rfl (fun ls hl => ?_)
                  have lp139 : ∀ (n139 : Nat) (u : Nat), y - u < n139 → (u ≤ y) → (∀ j, j < u → nuM N B J (N 12 (32 * i + j)) ≠ nuM N B J (N 12 (32 * i + y))) → ∀ (ls : Array Slot), lv_has ls 6 [(5, .int (nI u)), (4, .int (nI y)), (0, .ref h), (1, .int (nI i))] → W p l e ({ frames := 1, cells := 0, slots := 0, locals := 21 }) s m [.ref h, .int (nI i)].toArray below meth c s.heap [] 0 0 (MQ below (vp_Si (fun (r : Int32) => r = bI (hoM N B J i))) [.ref h, .int (nI i)].toArray s 0 0 (fun _ => False)) (F0 m 139 ls []) := by
                    intro n139
                    induction n139 with
                    | zero => intro u hme139; exact absurd hme139 (Nat.not_lt_zero _)
                    | succ n139 ih139 =>
                      intro u hme139 hu hu2 ls hl
                      refine lv_iload C.1 C.2.1 dX5_holds_139 (lv_at hl 0 rfl) ?_
                      refine lv_iload C.1 C.2.1 dX5_holds_141 (lv_at hl 1 rfl) ?_
                      refine q_ge (tgt := 190) C (by omega) (by omega) dX5_holds_143 (by decide) (fun c143 => ?_) (fun c143 => ?_)
                      · refine q_iinc (d := 1) (lv' := [(4, .int (nI (y + 1))), (5, .int (nI u)), (0, .ref h), (1, .int (nI i))]) C dX5_holds_190 hl (k := 1) rfl (by decide) (by decide) rfl (fun ls hl => ?_)
                        refine lv_goto (tgt := 125) C.1 C.2.1 dX5_holds_193 (by decide) ?_
                        exact ih125 (y + 1) (by omega) (by omega) (fun i2 j hi hj => by rcases Nat.lt_or_ge i2 y with a | a; exact hy2 i2 j a hj; rw [show i2 = y by omega] at hj ⊢; exact hu2 j (by omega)) _ (lv_sub hl [0, 2, 3] rfl)
                      · refine lv_aload_n C.1 C.2.1 dX5_holds_146 rfl (lv_at hl 2 rfl) ?_
                        refine lv_aload_n C.1 C.2.1 dX5_holds_147 rfl (lv_at hl 2 rfl) ?_
                        refine o_get (v := .ref (a 12)) C S O rfl inX5_holds_X5 12 (Nat.le_of_ble_eq_true rfl) lkX5_holds_38 rfl dX5_holds_148 ?_
                        refine lv_bipush (v := nI 32) C.1 C.2.1 dX5_holds_151 (by decide) ?_
                        refine lv_iload_n C.1 C.2.1 dX5_holds_153 rfl (lv_at hl 3 rfl) ?_
                        refine q_imul C dX5_holds_154 ?_
                        refine lv_iload C.1 C.2.1 dX5_holds_155 (lv_at hl 1 rfl) ?_
                        refine q_iadd C dX5_holds_157 ?_
                        refine o_nald (x := (N 12) ((32 * i) + y)) C S O 12 (Nat.le_of_ble_eq_true rfl) rfl ((32 * i) + y) rfl (show (32 * i) + y < 1920 from by first | omega | exact hL _ | exact hP _ | exact hF _) (Nat.le_of_ble_eq_true rfl) rfl dX5_holds_158 ?_
                        refine q_callSl (As := [.int (nI ((N 12) ((32 * i) + y)))]) (rest := []) C S hl O.1 rfl (m_numberOf O ((N 12) ((32 * i) + y)) (by first | omega | exact hk12 _ | exact hL _ | exact hP7 _ | exact hF _) hM0) (cwV 1 C.2.2.2.2 gX5_holds_X5_numberOf rfl rfl rfl (by decide +kernel) ⟨Nat.le_of_ble_eq_true rfl, Nat.le_of_ble_eq_true rfl⟩) rfl rfl (Nat.le_of_ble_eq_true rfl) ⟨Nat.le_of_ble_eq_true rfl, Nat.le_of_ble_eq_true rfl⟩ dX5_holds_159 (fun v hv => ?_)
                        subst hv
                        refine lv_aload_n C.1 C.2.1 dX5_holds_162 rfl (lv_at hl 2 rfl) ?_
                        refine lv_aload_n C.1 C.2.1 dX5_holds_163 rfl (lv_at hl 2 rfl) ?_
                        refine o_get (v := .ref (a 12)) C S O rfl inX5_holds_X5 12 (Nat.le_of_ble_eq_true rfl) lkX5_holds_38 rfl dX5_holds_164 ?_
                        refine lv_bipush (v := nI 32) C.1 C.2.1 dX5_holds_167 (by decide) ?_
                        refine lv_iload_n C.1 C.2.1 dX5_holds_169 rfl (lv_at hl 3 rfl) ?_
                        refine q_imul C dX5_holds_170 ?_
                        refine lv_iload C.1 C.2.1 dX5_holds_171 (lv_at hl 0 rfl) ?_
                        refine q_iadd C dX5_holds_173 ?_
                        refine o_nald (x := (N 12) ((32 * i) + u)) C S O 12 (Nat.le_of_ble_eq_true rfl) rfl ((32 * i) + u) rfl (show (32 * i) + u < 1920 from by first | omega | exact hL _ | exact hP _ | exact hF _) (Nat.le_of_ble_eq_true rfl) rfl dX5_holds_174 ?_
                        refine q_callSl (As := [.int (nI ((N 12) ((32 * i) + u)))]) (rest := [.long (nuM N B J ((N 12) ((32 * i) + y)))]) C S hl O.1 rfl (m_numberOf O ((N 12) ((32 * i) + u)) (by first | omega | exact hk12 _ | exact hL _ | exact hP7 _ | exact hF _) hM0) (cwV 1 C.2.2.2.2 gX5_holds_X5_numberOf rfl rfl rfl (by decide +kernel) ⟨Nat.le_of_ble_eq_true rfl, Nat.le_of_ble_eq_true rfl⟩) rfl rfl (Nat.le_of_ble_eq_true rfl) ⟨Nat.le_of_ble_eq_true rfl, Nat.le_of_ble_eq_true rfl⟩ dX5_holds_175 (fun v hv => ?_)
                        subst hv
                        refine q_lcmp_ne (tgt := 184) C dX5_holds_178 dX5_holds_179 (by decide) (fun c178 => ?_) (fun c178 => ?_)
                        · refine q_iinc (d := 1) (lv' := [(5, .int (nI (u + 1))), (4, .int (nI y)), (0, .ref h), (1, .int (nI i))]) C dX5_holds_184 hl (k := 0) rfl (by decide) (by decide) rfl (fun ls hl => ?_)
                          refine lv_goto (tgt := 139) C.1 C.2.1 dX5_holds_187 (by decide) ?_
                          exact ih139 (u + 1) (by omega) (by omega) (fun j hj => by rcases Nat.lt_or_ge j u with a | a; exact hu2 j a; rw [show j = u by omega]; exact fun q => c178 q.symm) _ (lv_sub hl [0, 1, 2, 3] rfl)
                        · refine lv_iconst (v := nI 0) C.1 C.2.1 dX5_holds_182 (by decide) ?_
                          exact q_retSz (b := false) C hr hlk rfl (by rw [hoM, hoF, if_pos (show allb (fun k => knM N B (N 12 (32 * i + k))) (N 11 i) = true from allb_t (fun k hk => hz2 k (by omega)))]; show bI false = bI (soF _ _ _ _ _); rw [soF, if_neg c75, if_neg c102, unl_f (i := y) (j := u) (by omega) (by omega) c178.symm]) dX5_holds_183
                  exact lp139 (y + 1) 0 (by omega) (by omega) (fun i hi => absurd hi (Nat.not_lt_zero i)) _ (lv_sub hl [0, 1, 2, 3] rfl)
            exact lp125 (N 11 i + 1) 0 (by omega) (by omega) (fun i j hi => absurd hi (Nat.not_lt_zero i)) _ (lv_sub hl [0, 2, 3] rfl)
          · refine lv_lload_n C.1 C.2.1 dX5_holds_105 rfl (lv_at hl 1 rfl) ?_
            refine lv_aload_n C.1 C.2.1 dX5_holds_106 rfl (lv_at hl 2 rfl) ?_
            refine o_get (v := .ref (a 14)) C S O rfl inX5_holds_X5 14 (Nat.le_of_ble_eq_true rfl) lkX5_holds_44 rfl dX5_holds_107 ?_
            refine lv_iload_n C.1 C.2.1 dX5_holds_110 rfl (lv_at hl 3 rfl) ?_
            refine o_lald (x := (J 14) i) C S O 14 (Nat.le_of_ble_eq_true rfl) rfl i rfl (show i < 60 from by first | omega | exact hL _ | exact hP _ | exact hF _) (Nat.le_of_ble_eq_true rfl) rfl dX5_holds_111 ?_
            refine q_lcmp_ne (tgt := 120) C dX5_holds_112 dX5_holds_113 (by decide) (fun c112 => ?_) (fun c112 => ?_)
            · refine lv_iconst (v := nI 0) C.1 C.2.1 dX5_holds_120 (by decide) ?_
              exact q_retSz (b := false) C hr hlk rfl (by rw [hoM, hoF, if_pos (show allb (fun k => knM N B (N 12 (32 * i + k))) (N 11 i) = true from allb_t (fun k hk => hz2 k (by omega)))]; show bI false = bI (soF _ _ _ _ _); rw [soF, if_neg c75, if_pos c102]; rw [hq, show z = N 11 i by omega] at c112; exact congrArg bI (decide_eq_false c112).symm) dX5_holds_121
            · refine lv_iconst (v := nI 1) C.1 C.2.1 dX5_holds_116 (by decide) ?_
              refine lv_goto (tgt := 121) C.1 C.2.1 dX5_holds_117 (by decide) ?_
              exact q_retSz (b := true) C hr hlk rfl (by rw [hoM, hoF, if_pos (show allb (fun k => knM N B (N 12 (32 * i + k))) (N 11 i) = true from allb_t (fun k hk => hz2 k (by omega)))]; show bI true = bI (soF _ _ _ _ _); rw [soF, if_neg c75, if_pos c102]; rw [hq, show z = N 11 i by omega] at c112; exact congrArg bI (decide_eq_true c112).symm) dX5_holds_121
        · refine lv_lload_n C.1 C.2.1 dX5_holds_78 rfl (lv_at hl 1 rfl) ?_
          refine lv_aload_n C.1 C.2.1 dX5_holds_79 rfl (lv_at hl 2 rfl) ?_
          refine o_get (v := .ref (a 14)) C S O rfl inX5_holds_X5 14 (Nat.le_of_ble_eq_true rfl) lkX5_holds_44 rfl dX5_holds_80 ?_
          refine lv_iload_n C.1 C.2.1 dX5_holds_83 rfl (lv_at hl 3 rfl) ?_
          refine o_lald (x := (J 14) i) C S O 14 (Nat.le_of_ble_eq_true rfl) rfl i rfl (show i < 60 from by first | omega | exact hL _ | exact hP _ | exact hF _) (Nat.le_of_ble_eq_true rfl) rfl dX5_holds_84 ?_
          refine q_lcmp_gt (tgt := 93) C dX5_holds_85 dX5_holds_86 (by decide) (fun c85 => ?_) (fun c85 => ?_)
          · refine lv_iconst (v := nI 0) C.1 C.2.1 dX5_holds_93 (by decide) ?_
            exact q_retSz (b := false) C hr hlk rfl (by rw [hoM, hoF, if_pos (show allb (fun k => knM N B (N 12 (32 * i + k))) (N 11 i) = true from allb_t (fun k hk => hz2 k (by omega)))]; show bI false = bI (soF _ _ _ _ _); rw [soF, if_pos c75]; rw [hq, show z = N 11 i by omega] at c85; exact congrArg bI (decide_eq_false c85).symm) dX5_holds_94
          · refine lv_iconst (v := nI 1) C.1 C.2.1 dX5_holds_89 (by decide) ?_
            refine lv_goto (tgt := 94) C.1 C.2.1 dX5_holds_90 (by decide) ?_
            exact q_retSz (b := true) C hr hlk rfl (by rw [hoM, hoF, if_pos (show allb (fun k => knM N B (N 12 (32 * i + k))) (N 11 i) = true from allb_t (fun k hk => hz2 k (by omega)))]; show bI true = bI (soF _ _ _ _ _); rw [soF, if_pos c75]; rw [hq, show z = N 11 i by omega] at c85; exact congrArg bI (decide_eq_true c85).symm) dX5_holds_94
      · refine lv_aload_n C.1 C.2.1 dX5_holds_16 rfl (lv_at hl 2 rfl) ?_
        refine o_get (v := .ref (a 12)) C S O rfl inX5_holds_X5 12 (Nat.le_of_ble_eq_true rfl) lkX5_holds_38 rfl dX5_holds_17 ?_
        refine lv_bipush (v := nI 32) C.1 C.2.1 dX5_holds_20 (by decide) ?_
        refine lv_iload_n C.1 C.2.1 dX5_holds_22 rfl (lv_at hl 3 rfl) ?_
        refine q_imul C dX5_holds_23 ?_
        refine lv_iload C.1 C.2.1 dX5_holds_24 (lv_at hl 0 rfl) ?_
        refine q_iadd C dX5_holds_26 ?_
        refine o_nald (x := (N 12) ((32 * i) + z)) C S O 12 (Nat.le_of_ble_eq_true rfl) rfl ((32 * i) + z) rfl (show (32 * i) + z < 1920 from by first | omega | exact hL _ | exact hP _ | exact hF _) (Nat.le_of_ble_eq_true rfl) rfl dX5_holds_27 ?_
        refine lv_istore (lv' := [(5, .int (nI ((N 12) ((32 * i) + z)))), (4, .int (nI z)), (2, .long q), (0, .ref h), (1, .int (nI i))]) C.1 C.2.1 dX5_holds_28 hl (by decide) rfl (fun ls hl => ?_)
        refine lv_aload_n C.1 C.2.1 dX5_holds_30 rfl (lv_at hl 3 rfl) ?_
        refine lv_iload C.1 C.2.1 dX5_holds_31 (lv_at hl 0 rfl) ?_
        refine q_callSi (As := [.int (nI ((N 12) ((32 * i) + z)))]) (rest := []) C S hl O.1 rfl (m_isKnown O ((N 12) ((32 * i) + z)) (by first | omega | exact hk12 _ | exact hL _ | exact hP7 _ | exact hF _) hM0) (cwV 1 C.2.2.2.2 gX5_holds_X5_isKnown rfl rfl rfl (by decide +kernel) ⟨Nat.le_of_ble_eq_true rfl, Nat.le_of_ble_eq_true rfl⟩) rfl rfl (Nat.le_of_ble_eq_true rfl) ⟨Nat.le_of_ble_eq_true rfl, Nat.le_of_ble_eq_true rfl⟩ dX5_holds_33 (fun v hv => ?_)
        subst hv
        refine q_ifneB (tgt := 41) C dX5_holds_36 (by decide) (fun c36 => ?_) (fun c36 => ?_)
        · refine lv_lload_n C.1 C.2.1 dX5_holds_41 rfl (lv_at hl 2 rfl) ?_
          refine lv_aload_n C.1 C.2.1 dX5_holds_42 rfl (lv_at hl 3 rfl) ?_
          refine o_get (v := .ref (a 13)) C S O rfl inX5_holds_X5 13 (Nat.le_of_ble_eq_true rfl) lkX5_holds_41 rfl dX5_holds_43 ?_
          refine lv_bipush (v := nI 32) C.1 C.2.1 dX5_holds_46 (by decide) ?_
          refine lv_iload_n C.1 C.2.1 dX5_holds_48 rfl (lv_at hl 4 rfl) ?_
          refine q_imul C dX5_holds_49 ?_
          refine lv_iload C.1 C.2.1 dX5_holds_50 (lv_at hl 1 rfl) ?_
          refine q_iadd C dX5_holds_52 ?_
          refine o_lald (x := (J 13) ((32 * i) + z)) C S O 13 (Nat.le_of_ble_eq_true rfl) rfl ((32 * i) + z) rfl (show (32 * i) + z < 1920 from by first | omega | exact hL _ | exact hP _ | exact hF _) (Nat.le_of_ble_eq_true rfl) rfl dX5_holds_53 ?_
          refine lv_aload_n C.1 C.2.1 dX5_holds_54 rfl (lv_at hl 3 rfl) ?_
          refine lv_iload C.1 C.2.1 dX5_holds_55 (lv_at hl 0 rfl) ?_
          refine q_callSl (As := [.int (nI ((N 12) ((32 * i) + z)))]) (rest := [.long ((J 13) ((32 * i) + z)), .long q]) C S hl O.1 rfl (m_numberOf O ((N 12) ((32 * i) + z)) (by first | omega | exact hk12 _ | exact hL _ | exact hP7 _ | exact hF _) hM0) (cwV 1 C.2.2.2.2 gX5_holds_X5_numberOf rfl rfl rfl (by decide +kernel) ⟨Nat.le_of_ble_eq_true rfl, Nat.le_of_ble_eq_true rfl⟩) rfl rfl (Nat.le_of_ble_eq_true rfl) ⟨Nat.le_of_ble_eq_true rfl, Nat.le_of_ble_eq_true rfl⟩ dX5_holds_57 (fun v hv => ?_)
          subst hv
          refine lv_lmul C.1 C.2.1 dX5_holds_60 ?_
          refine lv_ladd C.1 C.2.1 dX5_holds_61 ?_
          refine lv_lstore_n (lv' := [(2, .long (q + (((J 13) ((32 * i) + z)) * (nuM N B J ((N 12) ((32 * i) + z)))))), (5, .int (nI ((N 12) ((32 * i) + z)))), (4, .int (nI z)), (0, .ref h), (1, .int (nI i))]) C.1 C.2.1 dX5_holds_62 rfl hl (by decide) rfl (fun ls hl => ?_)
          refine q_iinc (d := 1) (lv' := [(4, .int (nI (z + 1))), (2, .long (q + (((J 13) ((32 * i) + z)) * (nuM N B J ((N 12) ((32 * i) + z)))))), (5, .int (nI ((N 12) ((32 * i) + z)))), (0, .ref h), (1, .int (nI i))]) C dX5_holds_63 hl (k := 2) rfl (by decide) (by decide) rfl (fun ls hl => ?_)
          refine lv_goto (tgt := 5) C.1 C.2.1 dX5_holds_66 (by decide) ?_
          exact ih5 (z + 1) (q + (((J 13) ((32 * i) + z)) * (nuM N B J ((N 12) ((32 * i) + z))))) (by omega) (by omega) (by rw [hq]; rfl) (fun k hk => by rcases Nat.lt_or_ge k z with a | a; exact hz2 k a; rw [show k = z by omega]; exact c36) _ (lv_sub hl [0, 1, 3, 4] rfl)
        · refine lv_iconst (v := nI 1) C.1 C.2.1 dX5_holds_39 (by decide) ?_
          exact q_retSz (b := true) C hr hlk rfl (by show bI true = bI _; rw [hoM, hoF, if_neg (by rw [allb_f (i := z) (by omega) c36]; decide)]) dX5_holds_40
  exact lp5 (N 11 i + 1) 0 0 (by omega) (by omega) rfl (fun i hi => absurd hi (Nat.not_lt_zero i)) _ (lv_sub hl [0, 1, 2, 3] rfl)
theorem inX5_forget_X5 : ∀ w ∈ u_ws RX5 TX5 34, w ∈ wsX5_forget := (fun _ h => (List.mem_cons_of_mem _ (List.mem_append_right _ h)))
theorem lkX5_forget_139 : Cond.fieldLink RX5 139 (TX5 32).1 (TX5 32).2.1 (TX5 32).2.2.1 ∈ wsX5_forget := List.mem_of_getElem? (i := 1) rfl
theorem lkX5_forget_143 : Cond.fieldLink RX5 143 (TX5 30).1 (TX5 30).2.1 (TX5 30).2.2.1 ∈ wsX5_forget := List.mem_of_getElem? (i := 2) rfl
theorem lkX5_forget_146 : Cond.fieldLink RX5 146 (TX5 29).1 (TX5 29).2.1 (TX5 29).2.2.1 ∈ wsX5_forget := List.mem_of_getElem? (i := 3) rfl
set_option maxHeartbeats 4000000 in
set_option maxRecDepth 100000 in
theorem m_forget {l : Launch} {G : fw_G} {A : Nat → Prop} {f0 : fw_F} {h : Nat} {a : Nat → Nat} {I : Nat → Nat} {N : Nat → Nat → Nat} {B : Nat → Nat → Bool} {J : Nat → Nat → Int64} (O : isO G dM f0 2000 h a I N B J)   : Met l yX5_forget wsX5_forget ({ frames := 0, cells := 0, slots := 0, locals := 0 }) (va_Pc [.ref h] (fw_P G A f0)) (va_Qv (fun (f1 : fw_F) => isO G dM f1 2000 h a (va_up (va_up I 30 0) 29 0) N (va_up B 32 (fun _ => false)) J ∧ fw_fr f0 f1 2000 2035) (fw_B G A) A) 0 0 A := by
  refine q_head rfl (by decide) (Nat.le_of_ble_eq_true rfl) ?_
  intro p e s m below meth c ls C hr hlk hnm P hl
  have S := P.start
  have hl : lv_has ls 1 [(0, .ref h)] := hl
  have F := fw_fr_rf f0 2000 2035
  refine lv_aload_n C.1 C.2.1 dX5_forget_0 rfl (lv_at hl 0 rfl) ?_
  refine lv_iconst (v := bI false) C.1 C.2.1 dX5_forget_1 (by decide) ?_
  refine o_putz C S O F rfl inX5_forget_X5 tyX5 tyX5_ok nmX5 32 (Nat.le_of_ble_eq_true rfl) rfl lkX5_forget_139 rfl rfl ⟨by decide, by decide⟩ dX5_forget_2 (fun f H locs S O F => ?_)
  refine lv_aload_n C.1 C.2.1 dX5_forget_5 rfl (lv_at hl 0 rfl) ?_
  refine lv_iconst (v := nI 0) C.1 C.2.1 dX5_forget_6 (by decide) ?_
  refine o_puti C S O F rfl inX5_forget_X5 tyX5 tyX5_ok nmX5 30 (Nat.le_of_ble_eq_true rfl) rfl lkX5_forget_143 rfl rfl ⟨by decide, by decide⟩ dX5_forget_7 (fun f H locs S O F => ?_)
  refine lv_aload_n C.1 C.2.1 dX5_forget_10 rfl (lv_at hl 0 rfl) ?_
  refine lv_iconst (v := nI 0) C.1 C.2.1 dX5_forget_11 (by decide) ?_
  refine o_puti C S O F rfl inX5_forget_X5 tyX5 tyX5_ok nmX5 29 (Nat.le_of_ble_eq_true rfl) rfl lkX5_forget_146 rfl rfl ⟨by decide, by decide⟩ dX5_forget_12 (fun f H locs S O F => ?_)
  exact q_retQv C S hr hlk ⟨O, F⟩ dX5_forget_15
