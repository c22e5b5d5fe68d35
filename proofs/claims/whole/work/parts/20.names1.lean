theorem inX1_has_X1 : ∀ w ∈ u_ws RX1 TX1 7, w ∈ wsX1_has := (fun _ h => (List.mem_cons_of_mem _ (List.mem_append_right _ h)))
theorem lkX1_has_32 : Cond.fieldLink RX1 32 (TX1 0).1 (TX1 0).2.1 (TX1 0).2.2.1 ∈ wsX1_has := List.mem_of_getElem? (i := 1) rfl
set_option maxHeartbeats 4000000 in
set_option maxRecDepth 100000 in
/-- Names.has -/
theorem c_has {l : Launch} {G : fw_G} {A : Nat → Prop} {f0 : fw_F} {b h : Nat} {a : Nat → Nat} {I : Nat → Nat} {N : Nat → Nat → Nat} {B : Nat → Nat → Bool} {J : Nat → Nat → Int64} (O : isO G dN f0 b h a I N B J) (x : Int32)  : Met l yX1_has wsX1_has ({ frames := 0, cells := 0, slots := 0, locals := 0 }) (va_Pc [.ref h, .int x] (fw_P G A f0)) (vp_Si (fun (r : Int32) => r = bI (ix x (I 0)))) 0 0 (fun _ => False) := by
  refine q_head rfl (by decide) (Nat.le_of_ble_eq_true rfl) ?_
  intro p e s m below meth c ls C hr hlk hnm P hl
  have S := P.start
  have hl : lv_has ls 2 [(0, .ref h), (1, .int x)] := hl
  refine lv_iload_n C.1 C.2.1 dX1_has_0 rfl (lv_at hl 1 rfl) ?_
  refine lv_if_lt (tgt := 16) C.1 C.2.1 dX1_has_1 (by decide) (fun c1 => ?_) (fun c1 => ?_)
  · refine lv_iconst (v := nI 0) C.1 C.2.1 dX1_has_16 (by decide) ?_
    exact q_retSz (b := false) C hr hlk rfl (by show bI false = bI _; rw [ix, decide_eq_false (not_not_intro c1)]; rfl) dX1_has_17
  · refine lv_iload_n C.1 C.2.1 dX1_has_4 rfl (lv_at hl 1 rfl) ?_
    refine lv_aload_n C.1 C.2.1 dX1_has_5 rfl (lv_at hl 0 rfl) ?_
    refine o_get (v := .int (nI (I 0))) C S O rfl inX1_has_X1 0 (Nat.le_of_ble_eq_true rfl) lkX1_has_32 rfl dX1_has_6 ?_
    refine lv_icmp_ge (tgt := 16) C.1 C.2.1 dX1_has_9 (by decide) (fun c9 => ?_) (fun c9 => ?_)
    · refine lv_iconst (v := nI 0) C.1 C.2.1 dX1_has_16 (by decide) ?_
      exact q_retSz (b := false) C hr hlk rfl (by show bI false = bI _; rw [ix, decide_eq_false (Int32.not_lt.mpr c9), Bool.and_false]) dX1_has_17
    · refine lv_iconst (v := nI 1) C.1 C.2.1 dX1_has_12 (by decide) ?_
      refine lv_goto (tgt := 17) C.1 C.2.1 dX1_has_13 (by decide) ?_
      exact q_retSz (b := true) C hr hlk rfl (by show bI true = bI _; rw [ix, decide_eq_true c1, decide_eq_true (Int32.not_le.mp c9)]; rfl) dX1_has_17
theorem inX1_leastOf_X1 : ∀ w ∈ u_ws RX1 TX1 7, w ∈ wsX1_leastOf := (fun _ h => (List.mem_cons_of_mem _ (List.mem_append_right _ h)))
theorem lkX1_leastOf_9 : Cond.fieldLink RX1 9 (TX1 1).1 (TX1 1).2.1 (TX1 1).2.2.1 ∈ wsX1_leastOf := List.mem_of_getElem? (i := 1) rfl
set_option maxHeartbeats 4000000 in
set_option maxRecDepth 100000 in
theorem c_leastOf {l : Launch} {G : fw_G} {A : Nat → Prop} {f0 : fw_F} {b h : Nat} {a : Nat → Nat} {I : Nat → Nat} {N : Nat → Nat → Nat} {B : Nat → Nat → Bool} {J : Nat → Nat → Int64} (O : isO G dN f0 b h a I N B J) (x : Nat) (hx : x < 64)  : Met l yX1_leastOf wsX1_leastOf ({ frames := 0, cells := 0, slots := 0, locals := 0 }) (va_Pc [.ref h, .int (nI x)] (fw_P G A f0)) (vp_Si (fun (r : Int32) => r = nI (N 1 x))) 0 0 (fun _ => False) := by
  refine q_head rfl (by decide) (Nat.le_of_ble_eq_true rfl) ?_
  intro p e s m below meth c ls C hr hlk hnm P hl
  have S := P.start
  have hl : lv_has ls 2 [(0, .ref h), (1, .int (nI x))] := hl
  refine lv_aload_n C.1 C.2.1 dX1_leastOf_0 rfl (lv_at hl 0 rfl) ?_
  refine o_get (v := .ref (a 1)) C S O rfl inX1_leastOf_X1 1 (Nat.le_of_ble_eq_true rfl) lkX1_leastOf_9 rfl dX1_leastOf_1 ?_
  refine lv_iload_n C.1 C.2.1 dX1_leastOf_4 rfl (lv_at hl 1 rfl) ?_
  refine o_nald (x := (N 1) x) C S O 1 (Nat.le_of_ble_eq_true rfl) rfl x rfl (show x < 64 from by first | omega | exact hL _ | exact hP _ | exact hF _) (Nat.le_of_ble_eq_true rfl) rfl dX1_leastOf_5 ?_
  exact q_retSi C hr hlk rfl dX1_leastOf_6
theorem inX1_isKnown_X1 : ∀ w ∈ u_ws RX1 TX1 7, w ∈ wsX1_isKnown := (fun _ h => (List.mem_cons_of_mem _ (List.mem_append_right _ h)))
theorem lkX1_isKnown_15 : Cond.fieldLink RX1 15 (TX1 2).1 (TX1 2).2.1 (TX1 2).2.2.1 ∈ wsX1_isKnown := List.mem_of_getElem? (i := 1) rfl
theorem lkX1_isKnown_9 : Cond.fieldLink RX1 9 (TX1 1).1 (TX1 1).2.1 (TX1 1).2.2.1 ∈ wsX1_isKnown := List.mem_of_getElem? (i := 2) rfl
set_option maxHeartbeats 4000000 in
set_option maxRecDepth 100000 in
theorem c_isKnown {l : Launch} {G : fw_G} {A : Nat → Prop} {f0 : fw_F} {b h : Nat} {a : Nat → Nat} {I : Nat → Nat} {N : Nat → Nat → Nat} {B : Nat → Nat → Bool} {J : Nat → Nat → Int64} (O : isO G dN f0 b h a I N B J) (x : Nat) (hx : x < 64) (hL : ∀ i, N 1 i < 64)  : Met l yX1_isKnown wsX1_isKnown ({ frames := 0, cells := 0, slots := 0, locals := 0 }) (va_Pc [.ref h, .int (nI x)] (fw_P G A f0)) (vp_Si (fun (r : Int32) => r = bI (B 2 (N 1 x)))) 0 0 (fun _ => False) := by
  refine q_head rfl (by decide) (Nat.le_of_ble_eq_true rfl) ?_
  intro p e s m below meth c ls C hr hlk hnm P hl
  have S := P.start
  have hl : lv_has ls 2 [(0, .ref h), (1, .int (nI x))] := hl
  refine lv_aload_n C.1 C.2.1 dX1_isKnown_0 rfl (lv_at hl 0 rfl) ?_
  refine o_get (v := .ref (a 2)) C S O rfl inX1_isKnown_X1 2 (Nat.le_of_ble_eq_true rfl) lkX1_isKnown_15 rfl dX1_isKnown_1 ?_
  refine lv_aload_n C.1 C.2.1 dX1_isKnown_4 rfl (lv_at hl 0 rfl) ?_
  refine o_get (v := .ref (a 1)) C S O rfl inX1_isKnown_X1 1 (Nat.le_of_ble_eq_true rfl) lkX1_isKnown_9 rfl dX1_isKnown_5 ?_
  refine lv_iload_n C.1 C.2.1 dX1_isKnown_8 rfl (lv_at hl 1 rfl) ?_
  refine o_nald (x := (N 1) x) C S O 1 (Nat.le_of_ble_eq_true rfl) rfl x rfl (show x < 64 from by first | omega | exact hL _ | exact hP _ | exact hF _) (Nat.le_of_ble_eq_true rfl) rfl dX1_isKnown_9 ?_
  refine o_yald (x := (B 2) ((N 1) x)) C S O 2 (Nat.le_of_ble_eq_true rfl) rfl ((N 1) x) rfl (show (N 1) x < 64 from by first | omega | exact hL _ | exact hP _ | exact hF _) (Nat.le_of_ble_eq_true rfl) rfl dX1_isKnown_10 ?_
  exact q_retSz (b := ((B 2) ((N 1) x))) C hr hlk rfl rfl dX1_isKnown_11
theorem inX1_numberOf_X1 : ∀ w ∈ u_ws RX1 TX1 7, w ∈ wsX1_numberOf := (fun _ h => (List.mem_cons_of_mem _ (List.mem_append_right _ h)))
theorem lkX1_numberOf_19 : Cond.fieldLink RX1 19 (TX1 3).1 (TX1 3).2.1 (TX1 3).2.2.1 ∈ wsX1_numberOf := List.mem_of_getElem? (i := 1) rfl
theorem lkX1_numberOf_9 : Cond.fieldLink RX1 9 (TX1 1).1 (TX1 1).2.1 (TX1 1).2.2.1 ∈ wsX1_numberOf := List.mem_of_getElem? (i := 2) rfl
set_option maxHeartbeats 4000000 in
set_option maxRecDepth 100000 in
theorem c_numberOf {l : Launch} {G : fw_G} {A : Nat → Prop} {f0 : fw_F} {b h : Nat} {a : Nat → Nat} {I : Nat → Nat} {N : Nat → Nat → Nat} {B : Nat → Nat → Bool} {J : Nat → Nat → Int64} (O : isO G dN f0 b h a I N B J) (x : Nat) (hx : x < 64) (hL : ∀ i, N 1 i < 64)  : Met l yX1_numberOf wsX1_numberOf ({ frames := 0, cells := 0, slots := 0, locals := 0 }) (va_Pc [.ref h, .int (nI x)] (fw_P G A f0)) (vp_Sl (fun (r : Int64) => r = J 3 (N 1 x))) 0 0 (fun _ => False) := by
  refine q_head rfl (by decide) (Nat.le_of_ble_eq_true rfl) ?_
  intro p e s m below meth c ls C hr hlk hnm P hl
  have S := P.start
  have hl : lv_has ls 2 [(0, .ref h), (1, .int (nI x))] := hl
  refine lv_aload_n C.1 C.2.1 dX1_numberOf_0 rfl (lv_at hl 0 rfl) ?_
  refine o_get (v := .ref (a 3)) C S O rfl inX1_numberOf_X1 3 (Nat.le_of_ble_eq_true rfl) lkX1_numberOf_19 rfl dX1_numberOf_1 ?_
  refine lv_aload_n C.1 C.2.1 dX1_numberOf_4 rfl (lv_at hl 0 rfl) ?_
  refine o_get (v := .ref (a 1)) C S O rfl inX1_numberOf_X1 1 (Nat.le_of_ble_eq_true rfl) lkX1_numberOf_9 rfl dX1_numberOf_5 ?_
  refine lv_iload_n C.1 C.2.1 dX1_numberOf_8 rfl (lv_at hl 1 rfl) ?_
  refine o_nald (x := (N 1) x) C S O 1 (Nat.le_of_ble_eq_true rfl) rfl x rfl (show x < 64 from by first | omega | exact hL _ | exact hP _ | exact hF _) (Nat.le_of_ble_eq_true rfl) rfl dX1_numberOf_9 ?_
  refine o_lald (x := (J 3) ((N 1) x)) C S O 3 (Nat.le_of_ble_eq_true rfl) rfl ((N 1) x) rfl (show (N 1) x < 64 from by first | omega | exact hL _ | exact hP _ | exact hF _) (Nat.le_of_ble_eq_true rfl) rfl dX1_numberOf_10 ?_
  exact q_retSl C hr hlk rfl dX1_numberOf_11
theorem inX1_lowOf_X1 : ∀ w ∈ u_ws RX1 TX1 7, w ∈ wsX1_lowOf := (fun _ h => (List.mem_cons_of_mem _ (List.mem_append_right _ h)))
theorem lkX1_lowOf_26 : Cond.fieldLink RX1 26 (TX1 5).1 (TX1 5).2.1 (TX1 5).2.2.1 ∈ wsX1_lowOf := List.mem_of_getElem? (i := 1) rfl
theorem lkX1_lowOf_9 : Cond.fieldLink RX1 9 (TX1 1).1 (TX1 1).2.1 (TX1 1).2.2.1 ∈ wsX1_lowOf := List.mem_of_getElem? (i := 2) rfl
set_option maxHeartbeats 4000000 in
set_option maxRecDepth 100000 in
theorem c_lowOf {l : Launch} {G : fw_G} {A : Nat → Prop} {f0 : fw_F} {b h : Nat} {a : Nat → Nat} {I : Nat → Nat} {N : Nat → Nat → Nat} {B : Nat → Nat → Bool} {J : Nat → Nat → Int64} (O : isO G dN f0 b h a I N B J) (x : Nat) (hx : x < 64) (hL : ∀ i, N 1 i < 64)  : Met l yX1_lowOf wsX1_lowOf ({ frames := 0, cells := 0, slots := 0, locals := 0 }) (va_Pc [.ref h, .int (nI x)] (fw_P G A f0)) (vp_Sl (fun (r : Int64) => r = J 5 (N 1 x))) 0 0 (fun _ => False) := by
  refine q_head rfl (by decide) (Nat.le_of_ble_eq_true rfl) ?_
  intro p e s m below meth c ls C hr hlk hnm P hl
  have S := P.start
  have hl : lv_has ls 2 [(0, .ref h), (1, .int (nI x))] := hl
  refine lv_aload_n C.1 C.2.1 dX1_lowOf_0 rfl (lv_at hl 0 rfl) ?_
  refine o_get (v := .ref (a 5)) C S O rfl inX1_lowOf_X1 5 (Nat.le_of_ble_eq_true rfl) lkX1_lowOf_26 rfl dX1_lowOf_1 ?_
  refine lv_aload_n C.1 C.2.1 dX1_lowOf_4 rfl (lv_at hl 0 rfl) ?_
  refine o_get (v := .ref (a 1)) C S O rfl inX1_lowOf_X1 1 (Nat.le_of_ble_eq_true rfl) lkX1_lowOf_9 rfl dX1_lowOf_5 ?_
  refine lv_iload_n C.1 C.2.1 dX1_lowOf_8 rfl (lv_at hl 1 rfl) ?_
  refine o_nald (x := (N 1) x) C S O 1 (Nat.le_of_ble_eq_true rfl) rfl x rfl (show x < 64 from by first | omega | exact hL _ | exact hP _ | exact hF _) (Nat.le_of_ble_eq_true rfl) rfl dX1_lowOf_9 ?_
  refine o_lald (x := (J 5) ((N 1) x)) C S O 5 (Nat.le_of_ble_eq_true rfl) rfl ((N 1) x) rfl (show (N 1) x < 64 from by first | omega | exact hL _ | exact hP _ | exact hF _) (Nat.le_of_ble_eq_true rfl) rfl dX1_lowOf_10 ?_
  exact q_retSl C hr hlk rfl dX1_lowOf_11
theorem inX1_highOf_X1 : ∀ w ∈ u_ws RX1 TX1 7, w ∈ wsX1_highOf := (fun _ h => (List.mem_cons_of_mem _ (List.mem_append_right _ h)))
theorem lkX1_highOf_29 : Cond.fieldLink RX1 29 (TX1 6).1 (TX1 6).2.1 (TX1 6).2.2.1 ∈ wsX1_highOf := List.mem_of_getElem? (i := 1) rfl
theorem lkX1_highOf_9 : Cond.fieldLink RX1 9 (TX1 1).1 (TX1 1).2.1 (TX1 1).2.2.1 ∈ wsX1_highOf := List.mem_of_getElem? (i := 2) rfl
set_option maxHeartbeats 4000000 in
set_option maxRecDepth 100000 in
theorem c_highOf {l : Launch} {G : fw_G} {A : Nat → Prop} {f0 : fw_F} {b h : Nat} {a : Nat → Nat} {I : Nat → Nat} {N : Nat → Nat → Nat} {B : Nat → Nat → Bool} {J : Nat → Nat → Int64} (O : isO G dN f0 b h a I N B J) (x : Nat) (hx : x < 64) (hL : ∀ i, N 1 i < 64)  : Met l yX1_highOf wsX1_highOf ({ frames := 0, cells := 0, slots := 0, locals := 0 }) (va_Pc [.ref h, .int (nI x)] (fw_P G A f0)) (vp_Sl (fun (r : Int64) => r = J 6 (N 1 x))) 0 0 (fun _ => False) := by
  refine q_head rfl (by decide) (Nat.le_of_ble_eq_true rfl) ?_
  intro p e s m below meth c ls C hr hlk hnm P hl
  have S := P.start
  have hl : lv_has ls 2 [(0, .ref h), (1, .int (nI x))] := hl
  refine lv_aload_n C.1 C.2.1 dX1_highOf_0 rfl (lv_at hl 0 rfl) ?_
  refine o_get (v := .ref (a 6)) C S O rfl inX1_highOf_X1 6 (Nat.le_of_ble_eq_true rfl) lkX1_highOf_29 rfl dX1_highOf_1 ?_
  refine lv_aload_n C.1 C.2.1 dX1_highOf_4 rfl (lv_at hl 0 rfl) ?_
  refine o_get (v := .ref (a 1)) C S O rfl inX1_highOf_X1 1 (Nat.le_of_ble_eq_true rfl) lkX1_highOf_9 rfl dX1_highOf_5 ?_
  refine lv_iload_n C.1 C.2.1 dX1_highOf_8 rfl (lv_at hl 1 rfl) ?_
  refine o_nald (x := (N 1) x) C S O 1 (Nat.le_of_ble_eq_true rfl) rfl x rfl (show x < 64 from by first | omega | exact hL _ | exact hP _ | exact hF _) (Nat.le_of_ble_eq_true rfl) rfl dX1_highOf_9 ?_
  refine o_lald (x := (J 6) ((N 1) x)) C S O 6 (Nat.le_of_ble_eq_true rfl) rfl ((N 1) x) rfl (show (N 1) x < 64 from by first | omega | exact hL _ | exact hP _ | exact hF _) (Nat.le_of_ble_eq_true rfl) rfl dX1_highOf_10 ?_
  exact q_retSl C hr hlk rfl dX1_highOf_11
theorem inX1_hasSpan_X1 : ∀ w ∈ u_ws RX1 TX1 7, w ∈ wsX1_hasSpan := (fun _ h => (List.mem_cons_of_mem _ (List.mem_append_right _ h)))
theorem lkX1_hasSpan_23 : Cond.fieldLink RX1 23 (TX1 4).1 (TX1 4).2.1 (TX1 4).2.2.1 ∈ wsX1_hasSpan := List.mem_of_getElem? (i := 1) rfl
theorem lkX1_hasSpan_9 : Cond.fieldLink RX1 9 (TX1 1).1 (TX1 1).2.1 (TX1 1).2.2.1 ∈ wsX1_hasSpan := List.mem_of_getElem? (i := 2) rfl
set_option maxHeartbeats 4000000 in
set_option maxRecDepth 100000 in
theorem c_hasSpan {l : Launch} {G : fw_G} {A : Nat → Prop} {f0 : fw_F} {b h : Nat} {a : Nat → Nat} {I : Nat → Nat} {N : Nat → Nat → Nat} {B : Nat → Nat → Bool} {J : Nat → Nat → Int64} (O : isO G dN f0 b h a I N B J) (x : Nat) (hx : x < 64) (hL : ∀ i, N 1 i < 64)  : Met l yX1_hasSpan wsX1_hasSpan ({ frames := 0, cells := 0, slots := 0, locals := 0 }) (va_Pc [.ref h, .int (nI x)] (fw_P G A f0)) (vp_Si (fun (r : Int32) => r = bI (B 4 (N 1 x)))) 0 0 (fun _ => False) := by
  refine q_head rfl (by decide) (Nat.le_of_ble_eq_true rfl) ?_
  intro p e s m below meth c ls C hr hlk hnm P hl
  have S := P.start
  have hl : lv_has ls 2 [(0, .ref h), (1, .int (nI x))] := hl
  refine lv_aload_n C.1 C.2.1 dX1_hasSpan_0 rfl (lv_at hl 0 rfl) ?_
  refine o_get (v := .ref (a 4)) C S O rfl inX1_hasSpan_X1 4 (Nat.le_of_ble_eq_true rfl) lkX1_hasSpan_23 rfl dX1_hasSpan_1 ?_
  refine lv_aload_n C.1 C.2.1 dX1_hasSpan_4 rfl (lv_at hl 0 rfl) ?_
  refine o_get (v := .ref (a 1)) C S O rfl inX1_hasSpan_X1 1 (Nat.le_of_ble_eq_true rfl) lkX1_hasSpan_9 rfl dX1_hasSpan_5 ?_
  refine lv_iload_n C.1 C.2.1 dX1_hasSpan_8 rfl (lv_at hl 1 rfl) ?_
  refine o_nald (x := (N 1) x) C S O 1 (Nat.le_of_ble_eq_true rfl) rfl x rfl (show x < 64 from by first | omega | exact hL _ | exact hP _ | exact hF _) (Nat.le_of_ble_eq_true rfl) rfl dX1_hasSpan_9 ?_
  refine o_yald (x := (B 4) ((N 1) x)) C S O 4 (Nat.le_of_ble_eq_true rfl) rfl ((N 1) x) rfl (show (N 1) x < 64 from by first | omega | exact hL _ | exact hP _ | exact hF _) (Nat.le_of_ble_eq_true rfl) rfl dX1_hasSpan_10 ?_
  exact q_retSz (b := ((B 4) ((N 1) x))) C hr hlk rfl rfl dX1_hasSpan_11
theorem inX1_setNumber_X1 : ∀ w ∈ u_ws RX1 TX1 7, w ∈ wsX1_setNumber := (fun _ h => (List.mem_cons_of_mem _ (List.mem_append_right _ h)))
theorem lkX1_setNumber_15 : Cond.fieldLink RX1 15 (TX1 2).1 (TX1 2).2.1 (TX1 2).2.2.1 ∈ wsX1_setNumber := List.mem_of_getElem? (i := 1) rfl
theorem lkX1_setNumber_9 : Cond.fieldLink RX1 9 (TX1 1).1 (TX1 1).2.1 (TX1 1).2.2.1 ∈ wsX1_setNumber := List.mem_of_getElem? (i := 2) rfl
theorem lkX1_setNumber_19 : Cond.fieldLink RX1 19 (TX1 3).1 (TX1 3).2.1 (TX1 3).2.2.1 ∈ wsX1_setNumber := List.mem_of_getElem? (i := 3) rfl
set_option maxHeartbeats 4000000 in
set_option maxRecDepth 100000 in
theorem c_setNumber {l : Launch} {G : fw_G} {A : Nat → Prop} {f0 : fw_F} {b h : Nat} {a : Nat → Nat} {I : Nat → Nat} {N : Nat → Nat → Nat} {B : Nat → Nat → Bool} {J : Nat → Nat → Int64} (O : isO G dN f0 b h a I N B J) (x : Nat) (hx : x < 64) (hL : ∀ i, N 1 i < 64) (v : Int64)  : Met l yX1_setNumber wsX1_setNumber ({ frames := 0, cells := 0, slots := 0, locals := 0 }) (va_Pc [.ref h, .int (nI x), .long v] (fw_P G A f0)) (va_Qv (fun (f1 : fw_F) => isO G dN f1 b h a I N (va_up B 2 (va_up (B 2) (N 1 x) true)) (va_up J 3 (va_up (J 3) (N 1 x) v)) ∧ fw_fr f0 f1 b (b + 8)) (fw_B G A) A) 0 0 A := by
  refine q_head rfl (by decide) (Nat.le_of_ble_eq_true rfl) ?_
  intro p e s m below meth c ls C hr hlk hnm P hl
  have S := P.start
  have hl : lv_has ls 4 [(0, .ref h), (1, .int (nI x)), (2, .long v)] := hl
  have F := fw_fr_rf f0 b (b + 8)
  refine lv_aload_n C.1 C.2.1 dX1_setNumber_0 rfl (lv_at hl 0 rfl) ?_
  refine o_get (v := .ref (a 2)) C S O rfl inX1_setNumber_X1 2 (Nat.le_of_ble_eq_true rfl) lkX1_setNumber_15 rfl dX1_setNumber_1 ?_
  refine lv_aload_n C.1 C.2.1 dX1_setNumber_4 rfl (lv_at hl 0 rfl) ?_
  refine o_get (v := .ref (a 1)) C S O rfl inX1_setNumber_X1 1 (Nat.le_of_ble_eq_true rfl) lkX1_setNumber_9 rfl dX1_setNumber_5 ?_
  refine lv_iload_n C.1 C.2.1 dX1_setNumber_8 rfl (lv_at hl 1 rfl) ?_
  refine o_nald (x := (N 1) x) C S O 1 (Nat.le_of_ble_eq_true rfl) rfl x rfl (show x < 64 from by first | omega | exact hL _ | exact hP _ | exact hF _) (Nat.le_of_ble_eq_true rfl) rfl dX1_setNumber_9 ?_
  refine lv_iconst (v := bI true) C.1 C.2.1 dX1_setNumber_10 (by decide) ?_
  refine o_yast C S O F 2 (Nat.le_of_ble_eq_true rfl) rfl ((N 1) x) rfl (show (N 1) x < 64 from by first | omega | exact hL _ | exact hP _ | exact hF _) (Nat.le_of_ble_eq_true rfl) ⟨by omega, by omega⟩ dX1_setNumber_11 (fun f H locs S O F => ?_)
  refine lv_aload_n C.1 C.2.1 dX1_setNumber_12 rfl (lv_at hl 0 rfl) ?_
  refine o_get (v := .ref (a 3)) C S O rfl inX1_setNumber_X1 3 (Nat.le_of_ble_eq_true rfl) lkX1_setNumber_19 rfl dX1_setNumber_13 ?_
  refine lv_aload_n C.1 C.2.1 dX1_setNumber_16 rfl (lv_at hl 0 rfl) ?_
  refine o_get (v := .ref (a 1)) C S O rfl inX1_setNumber_X1 1 (Nat.le_of_ble_eq_true rfl) lkX1_setNumber_9 rfl dX1_setNumber_17 ?_
  refine lv_iload_n C.1 C.2.1 dX1_setNumber_20 rfl (lv_at hl 1 rfl) ?_
  refine o_nald (x := (N 1) x) C S O 1 (Nat.le_of_ble_eq_true rfl) rfl x rfl (show x < 64 from by first | omega | exact hL _ | exact hP _ | exact hF _) (Nat.le_of_ble_eq_true rfl) rfl dX1_setNumber_21 ?_
  refine lv_lload_n C.1 C.2.1 dX1_setNumber_22 rfl (lv_at hl 2 rfl) ?_
  refine o_last C S O F 3 (Nat.le_of_ble_eq_true rfl) rfl ((N 1) x) rfl (show (N 1) x < 64 from by first | omega | exact hL _ | exact hP _ | exact hF _) (Nat.le_of_ble_eq_true rfl) ⟨by omega, by omega⟩ dX1_setNumber_23 (fun f H locs S O F => ?_)
  exact q_retQv C S hr hlk ⟨O, F⟩ dX1_setNumber_24
theorem inX1_unsetNumber_X1 : ∀ w ∈ u_ws RX1 TX1 7, w ∈ wsX1_unsetNumber := (fun _ h => (List.mem_cons_of_mem _ (List.mem_append_right _ h)))
theorem lkX1_unsetNumber_15 : Cond.fieldLink RX1 15 (TX1 2).1 (TX1 2).2.1 (TX1 2).2.2.1 ∈ wsX1_unsetNumber := List.mem_of_getElem? (i := 1) rfl
theorem lkX1_unsetNumber_9 : Cond.fieldLink RX1 9 (TX1 1).1 (TX1 1).2.1 (TX1 1).2.2.1 ∈ wsX1_unsetNumber := List.mem_of_getElem? (i := 2) rfl
set_option maxHeartbeats 4000000 in
set_option maxRecDepth 100000 in
theorem c_unsetNumber {l : Launch} {G : fw_G} {A : Nat → Prop} {f0 : fw_F} {b h : Nat} {a : Nat → Nat} {I : Nat → Nat} {N : Nat → Nat → Nat} {B : Nat → Nat → Bool} {J : Nat → Nat → Int64} (O : isO G dN f0 b h a I N B J) (x : Nat) (hx : x < 64) (hL : ∀ i, N 1 i < 64)  : Met l yX1_unsetNumber wsX1_unsetNumber ({ frames := 0, cells := 0, slots := 0, locals := 0 }) (va_Pc [.ref h, .int (nI x)] (fw_P G A f0)) (va_Qv (fun (f1 : fw_F) => isO G dN f1 b h a I N (va_up B 2 (va_up (B 2) (N 1 x) false)) J ∧ fw_fr f0 f1 b (b + 8)) (fw_B G A) A) 0 0 A := by
  refine q_head rfl (by decide) (Nat.le_of_ble_eq_true rfl) ?_
  intro p e s m below meth c ls C hr hlk hnm P hl
  have S := P.start
  have hl : lv_has ls 2 [(0, .ref h), (1, .int (nI x))] := hl
  have F := fw_fr_rf f0 b (b + 8)
  refine lv_aload_n C.1 C.2.1 dX1_unsetNumber_0 rfl (lv_at hl 0 rfl) ?_
  refine o_get (v := .ref (a 2)) C S O rfl inX1_unsetNumber_X1 2 (Nat.le_of_ble_eq_true rfl) lkX1_unsetNumber_15 rfl dX1_unsetNumber_1 ?_
  refine lv_aload_n C.1 C.2.1 dX1_unsetNumber_4 rfl (lv_at hl 0 rfl) ?_
  refine o_get (v := .ref (a 1)) C S O rfl inX1_unsetNumber_X1 1 (Nat.le_of_ble_eq_true rfl) lkX1_unsetNumber_9 rfl dX1_unsetNumber_5 ?_
  refine lv_iload_n C.1 C.2.1 dX1_unsetNumber_8 rfl (lv_at hl 1 rfl) ?_
  refine o_nald (x := (N 1) x) C S O 1 (Nat.le_of_ble_eq_true rfl) rfl x rfl (show x < 64 from by first | omega | exact hL _ | exact hP _ | exact hF _) (Nat.le_of_ble_eq_true rfl) rfl dX1_unsetNumber_9 ?_
  refine lv_iconst (v := bI false) C.1 C.2.1 dX1_unsetNumber_10 (by decide) ?_
  refine o_yast C S O F 2 (Nat.le_of_ble_eq_true rfl) rfl ((N 1) x) rfl (show (N 1) x < 64 from by first | omega | exact hL _ | exact hP _ | exact hF _) (Nat.le_of_ble_eq_true rfl) ⟨by omega, by omega⟩ dX1_unsetNumber_11 (fun f H locs S O F => ?_)
  exact q_retQv C S hr hlk ⟨O, F⟩ dX1_unsetNumber_12
set_option maxHeartbeats 4000000 in
set_option maxRecDepth 100000 in
theorem c_liesInSpan {l : Launch} {G : fw_G} {A : Nat → Prop} {f0 : fw_F} {b h : Nat} {a : Nat → Nat} {I : Nat → Nat} {N : Nat → Nat → Nat} {B : Nat → Nat → Bool} {J : Nat → Nat → Int64} (O : isO G dN f0 b h a I N B J) (x : Nat) (hx : x < 64) (hL : ∀ i, N 1 i < 64) (v : Int64)  : Met l yX1_liesInSpan wsX1_liesInSpan ({ frames := 1, cells := 0, slots := 0, locals := 21 }) (va_Pc [.ref h, .int (nI x), .long v] (fw_P G A f0)) (vp_Si (fun (r : Int32) => r = bI (decide (J 5 (N 1 x) ≤ v) && decide (v ≤ J 6 (N 1 x))))) 0 0 (fun _ => False) := by
  refine q_head rfl (by decide) (Nat.le_of_ble_eq_true rfl) ?_
  intro p e s m below meth c ls C hr hlk hnm P hl
  have S := P.start
  have hl : lv_has ls 4 [(0, .ref h), (1, .int (nI x)), (2, .long v)] := hl
  refine lv_aload_n C.1 C.2.1 dX1_liesInSpan_0 rfl (lv_at hl 0 rfl) ?_
  refine lv_iload_n C.1 C.2.1 dX1_liesInSpan_1 rfl (lv_at hl 1 rfl) ?_
  refine q_callSl (As := [.int (nI x)]) (rest := []) C S hl O.1 rfl (c_lowOf O x (by first | omega | exact hL _ | exact hP _ | exact hF _) hL) (cwV 1 C.2.2.2.2 gX1_liesInSpan_X1_lowOf rfl rfl rfl (by decide +kernel) ⟨Nat.le_of_ble_eq_true rfl, Nat.le_of_ble_eq_true rfl⟩) rfl rfl (Nat.le_of_ble_eq_true rfl) ⟨Nat.le_of_ble_eq_true rfl, Nat.le_of_ble_eq_true rfl⟩ dX1_liesInSpan_2 (fun v hv => ?_)
  subst hv
  refine lv_lload_n C.1 C.2.1 dX1_liesInSpan_5 rfl (lv_at hl 2 rfl) ?_
  refine q_lcmp_gt (tgt := 24) C dX1_liesInSpan_6 dX1_liesInSpan_7 (by decide) (fun c6 => ?_) (fun c6 => ?_)
  · refine lv_iconst (v := nI 0) C.1 C.2.1 dX1_liesInSpan_24 (by decide) ?_
    exact q_retSz (b := false) C hr hlk rfl (by show bI false = bI _; rw [decide_eq_false c6]; rfl) dX1_liesInSpan_25
  · refine lv_lload_n C.1 C.2.1 dX1_liesInSpan_10 rfl (lv_at hl 2 rfl) ?_
    refine lv_aload_n C.1 C.2.1 dX1_liesInSpan_11 rfl (lv_at hl 0 rfl) ?_
    refine lv_iload_n C.1 C.2.1 dX1_liesInSpan_12 rfl (lv_at hl 1 rfl) ?_
    refine q_callSl (As := [.int (nI x)]) (rest := [.long v]) C S hl O.1 rfl (c_highOf O x (by first | omega | exact hL _ | exact hP _ | exact hF _) hL) (cwV 1 C.2.2.2.2 gX1_liesInSpan_X1_highOf rfl rfl rfl (by decide +kernel) ⟨Nat.le_of_ble_eq_true rfl, Nat.le_of_ble_eq_true rfl⟩) rfl rfl (Nat.le_of_ble_eq_true rfl) ⟨Nat.le_of_ble_eq_true rfl, Nat.le_of_ble_eq_true rfl⟩ dX1_liesInSpan_13 (fun v hv => ?_)
    subst hv
    refine q_lcmp_gt (tgt := 24) C dX1_liesInSpan_16 dX1_liesInSpan_17 (by decide) (fun c16 => ?_) (fun c16 => ?_)
    · refine lv_iconst (v := nI 0) C.1 C.2.1 dX1_liesInSpan_24 (by decide) ?_
      exact q_retSz (b := false) C hr hlk rfl (by show bI false = bI _; rw [decide_eq_false c16, Bool.and_false]) dX1_liesInSpan_25
    · refine lv_iconst (v := nI 1) C.1 C.2.1 dX1_liesInSpan_20 (by decide) ?_
      refine lv_goto (tgt := 25) C.1 C.2.1 dX1_liesInSpan_21 (by decide) ?_
      exact q_retSz (b := true) C hr hlk rfl (by show bI true = bI _; rw [decide_eq_true c6, decide_eq_true c16]; rfl) dX1_liesInSpan_25
set_option maxHeartbeats 4000000 in
set_option maxRecDepth 100000 in
theorem c_freedom {l : Launch} {G : fw_G} {A : Nat → Prop} {f0 : fw_F} {b h : Nat} {a : Nat → Nat} {I : Nat → Nat} {N : Nat → Nat → Nat} {B : Nat → Nat → Bool} {J : Nat → Nat → Int64} (O : isO G dN f0 b h a I N B J) (x : Nat) (hx : x < 64) (hL : ∀ i, N 1 i < 64)  : Met l yX1_freedom wsX1_freedom ({ frames := 1, cells := 0, slots := 0, locals := 21 }) (va_Pc [.ref h, .int (nI x)] (fw_P G A f0)) (vp_Si (fun (r : Int32) => r = nI (if B 2 (N 1 x) = true then 2 else if B 4 (N 1 x) = true then 1 else 0))) 0 0 (fun _ => False) := by
  refine q_head rfl (by decide) (Nat.le_of_ble_eq_true rfl) ?_
  intro p e s m below meth c ls C hr hlk hnm P hl
  have S := P.start
  have hl : lv_has ls 2 [(0, .ref h), (1, .int (nI x))] := hl
  refine lv_aload_n C.1 C.2.1 dX1_freedom_0 rfl (lv_at hl 0 rfl) ?_
  refine lv_iload_n C.1 C.2.1 dX1_freedom_1 rfl (lv_at hl 1 rfl) ?_
  refine q_callSi (As := [.int (nI x)]) (rest := []) C S hl O.1 rfl (c_isKnown O x (by first | omega | exact hL _ | exact hP _ | exact hF _) hL) (cwV 1 C.2.2.2.2 gX1_freedom_X1_isKnown rfl rfl rfl (by decide +kernel) ⟨Nat.le_of_ble_eq_true rfl, Nat.le_of_ble_eq_true rfl⟩) rfl rfl (Nat.le_of_ble_eq_true rfl) ⟨Nat.le_of_ble_eq_true rfl, Nat.le_of_ble_eq_true rfl⟩ dX1_freedom_2 (fun v hv => ?_)
  subst hv
  refine q_ifeqB (tgt := 10) C dX1_freedom_5 (by decide) (fun c5 => ?_) (fun c5 => ?_)
  · refine lv_aload_n C.1 C.2.1 dX1_freedom_10 rfl (lv_at hl 0 rfl) ?_
    refine lv_iload_n C.1 C.2.1 dX1_freedom_11 rfl (lv_at hl 1 rfl) ?_
    refine q_callSi (As := [.int (nI x)]) (rest := []) C S hl O.1 rfl (c_hasSpan O x (by first | omega | exact hL _ | exact hP _ | exact hF _) hL) (cwV 1 C.2.2.2.2 gX1_freedom_X1_hasSpan rfl rfl rfl (by decide +kernel) ⟨Nat.le_of_ble_eq_true rfl, Nat.le_of_ble_eq_true rfl⟩) rfl rfl (Nat.le_of_ble_eq_true rfl) ⟨Nat.le_of_ble_eq_true rfl, Nat.le_of_ble_eq_true rfl⟩ dX1_freedom_12 (fun v hv => ?_)
    subst hv
    refine q_ifeqB (tgt := 22) C dX1_freedom_15 (by decide) (fun c15 => ?_) (fun c15 => ?_)
    · refine lv_iconst (v := nI 0) C.1 C.2.1 dX1_freedom_22 (by decide) ?_
      exact q_retSi C hr hlk (by rw [if_neg (by rw [c5]; decide), if_neg (by rw [c15]; decide)]) dX1_freedom_23
    · refine lv_iconst (v := nI 1) C.1 C.2.1 dX1_freedom_18 (by decide) ?_
      refine lv_goto (tgt := 23) C.1 C.2.1 dX1_freedom_19 (by decide) ?_
      exact q_retSi C hr hlk (by rw [if_neg (by rw [c5]; decide), if_pos c15]) dX1_freedom_23
  · refine lv_iconst (v := nI 2) C.1 C.2.1 dX1_freedom_8 (by decide) ?_
    exact q_retSi C hr hlk (by rw [if_pos c5]) dX1_freedom_9
