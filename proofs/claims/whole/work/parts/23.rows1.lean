set_option maxHeartbeats 4000000 in
set_option maxRecDepth 100000 in
theorem c_shareSpans {l : Launch} {G : fw_G} {A : Nat → Prop} {f0 : fw_F} {b h : Nat} {a : Nat → Nat} {I : Nat → Nat} {N : Nat → Nat → Nat} {B : Nat → Nat → Bool} {J : Nat → Nat → Int64} (O : isO G dN f0 b h a I N B J) (x y : Nat) (hx : x < 64) (hy : y < 64) (hL : ∀ i, N 1 i < 64)  : Met l yX1_shareSpans wsX1_shareSpans ({ frames := 2, cells := 0, slots := 0, locals := 53 }) (va_Pc [.ref h, .int (nI x), .int (nI y)] (fw_P G A f0)) (va_Qi (fun (r : Int32) (f1 : fw_F) => r = bI (shOk B J (N 1 x) (N 1 y)) ∧ isO G dN f1 b h a I N (shB B J (N 1 x) (N 1 y)) (shJ B J (N 1 x) (N 1 y)) ∧ fw_fr f0 f1 b (b + 8)) (fw_B G A) A) 0 0 A := by
  refine q_head rfl (by decide) (Nat.le_of_ble_eq_true rfl) ?_
  intro p e s m below meth c ls C hr hlk hnm P hl
  have S := P.start
  have hl : lv_has ls 3 [(0, .ref h), (1, .int (nI x)), (2, .int (nI y))] := hl
  have F := fw_fr_rf f0 b (b + 8)
  refine lv_aload_n C.1 C.2.1 dX1_shareSpans_0 rfl (lv_at hl 0 rfl) ?_
  refine lv_iload_n C.1 C.2.1 dX1_shareSpans_1 rfl (lv_at hl 2 rfl) ?_
  refine q_callSi (As := [.int (nI y)]) (rest := []) C S hl O.1 rfl (c_hasSpan O y (by first | omega | exact hL _ | exact hP _ | exact hF _) hL) (cwV 1 C.2.2.2.2 gX1_shareSpans_X1_hasSpan rfl rfl rfl (by decide +kernel) ⟨Nat.le_of_ble_eq_true rfl, Nat.le_of_ble_eq_true rfl⟩) rfl rfl (Nat.le_of_ble_eq_true rfl) ⟨Nat.le_of_ble_eq_true rfl, Nat.le_of_ble_eq_true rfl⟩ dX1_shareSpans_2 (fun v hv => ?_)
  subst hv
  refine q_ifeqB (tgt := 28) C dX1_shareSpans_5 (by decide) (fun c5 => ?_) (fun c5 => ?_)
  · refine lv_aload_n C.1 C.2.1 dX1_shareSpans_28 rfl (lv_at hl 0 rfl) ?_
    refine lv_iload_n C.1 C.2.1 dX1_shareSpans_29 rfl (lv_at hl 1 rfl) ?_
    refine q_callSi (As := [.int (nI x)]) (rest := []) C S hl O.1 rfl (c_hasSpan O x (by first | omega | exact hL _ | exact hP _ | exact hF _) hL) (cwV 1 C.2.2.2.2 gX1_shareSpans_X1_hasSpan rfl rfl rfl (by decide +kernel) ⟨Nat.le_of_ble_eq_true rfl, Nat.le_of_ble_eq_true rfl⟩) rfl rfl (Nat.le_of_ble_eq_true rfl) ⟨Nat.le_of_ble_eq_true rfl, Nat.le_of_ble_eq_true rfl⟩ dX1_shareSpans_30 (fun v hv => ?_)
    subst hv
    refine q_ifeqB (tgt := 54) C dX1_shareSpans_33 (by decide) (fun c33 => ?_) (fun c33 => ?_)
    · refine lv_iconst (v := nI 1) C.1 C.2.1 dX1_shareSpans_54 (by decide) ?_
      refine lv_goto (tgt := 59) C.1 C.2.1 dX1_shareSpans_55 (by decide) ?_
      exact q_retQz (b := true) C S hr hlk rfl ⟨by rw [(sh_a c5 c33).1], by rw [(sh_a c5 c33).2.1, (sh_a c5 c33).2.2]; exact O, F⟩ dX1_shareSpans_59
    · refine lv_aload_n C.1 C.2.1 dX1_shareSpans_36 rfl (lv_at hl 0 rfl) ?_
      refine lv_iload_n C.1 C.2.1 dX1_shareSpans_37 rfl (lv_at hl 2 rfl) ?_
      refine lv_aload_n C.1 C.2.1 dX1_shareSpans_38 rfl (lv_at hl 0 rfl) ?_
      refine lv_iload_n C.1 C.2.1 dX1_shareSpans_39 rfl (lv_at hl 1 rfl) ?_
      refine q_callSl (As := [.int (nI x)]) (rest := [.int (nI y), .ref h]) C S hl O.1 rfl (c_lowOf O x (by first | omega | exact hL _ | exact hP _ | exact hF _) hL) (cwV 1 C.2.2.2.2 gX1_shareSpans_X1_lowOf rfl rfl rfl (by decide +kernel) ⟨Nat.le_of_ble_eq_true rfl, Nat.le_of_ble_eq_true rfl⟩) rfl rfl (Nat.le_of_ble_eq_true rfl) ⟨Nat.le_of_ble_eq_true rfl, Nat.le_of_ble_eq_true rfl⟩ dX1_shareSpans_40 (fun v hv => ?_)
      subst hv
      refine lv_aload_n C.1 C.2.1 dX1_shareSpans_43 rfl (lv_at hl 0 rfl) ?_
      refine lv_iload_n C.1 C.2.1 dX1_shareSpans_44 rfl (lv_at hl 1 rfl) ?_
      refine q_callSl (As := [.int (nI x)]) (rest := [.long ((J 5) ((N 1) x)), .int (nI y), .ref h]) C S hl O.1 rfl (c_highOf O x (by first | omega | exact hL _ | exact hP _ | exact hF _) hL) (cwV 1 C.2.2.2.2 gX1_shareSpans_X1_highOf rfl rfl rfl (by decide +kernel) ⟨Nat.le_of_ble_eq_true rfl, Nat.le_of_ble_eq_true rfl⟩) rfl rfl (Nat.le_of_ble_eq_true rfl) ⟨Nat.le_of_ble_eq_true rfl, Nat.le_of_ble_eq_true rfl⟩ dX1_shareSpans_45 (fun v hv => ?_)
      subst hv
      refine q_callQi (As := [.int (nI y), .long ((J 5) ((N 1) x)), .long ((J 6) ((N 1) x))]) (rest := []) C S hl O.1 rfl (c_narrow O y (by first | omega | exact hL _ | exact hP _ | exact hF _) hL ((J 5) ((N 1) x)) ((J 6) ((N 1) x))) (cwV 3 C.2.2.2.2 gX1_shareSpans_X1_narrow rfl rfl rfl (by decide +kernel) ⟨Nat.le_of_ble_eq_true rfl, Nat.le_of_ble_eq_true rfl⟩) rfl rfl (Nat.le_of_ble_eq_true rfl) ⟨Nat.le_of_ble_eq_true rfl, Nat.le_of_ble_eq_true rfl⟩ dX1_shareSpans_48 (fun v f H locs hv S => ?_)
      obtain ⟨rfl, O, F1⟩ := hv
      have F := fw_fr_tr F F1
      refine q_ifeqB (tgt := 58) C dX1_shareSpans_51 (by decide) (fun c51 => ?_) (fun c51 => ?_)
      · refine lv_iconst (v := nI 0) C.1 C.2.1 dX1_shareSpans_58 (by decide) ?_
        exact q_retQz (b := false) C S hr hlk rfl ⟨by rw [(sh_b c5 c33).1, c51], by rw [(sh_b c5 c33).2.1, (sh_b c5 c33).2.2]; exact O, F⟩ dX1_shareSpans_59
      · refine lv_iconst (v := nI 1) C.1 C.2.1 dX1_shareSpans_54 (by decide) ?_
        refine lv_goto (tgt := 59) C.1 C.2.1 dX1_shareSpans_55 (by decide) ?_
        exact q_retQz (b := true) C S hr hlk rfl ⟨by rw [(sh_b c5 c33).1, c51], by rw [(sh_b c5 c33).2.1, (sh_b c5 c33).2.2]; exact O, F⟩ dX1_shareSpans_59
  · refine lv_aload_n C.1 C.2.1 dX1_shareSpans_8 rfl (lv_at hl 0 rfl) ?_
    refine lv_iload_n C.1 C.2.1 dX1_shareSpans_9 rfl (lv_at hl 1 rfl) ?_
    refine lv_aload_n C.1 C.2.1 dX1_shareSpans_10 rfl (lv_at hl 0 rfl) ?_
    refine lv_iload_n C.1 C.2.1 dX1_shareSpans_11 rfl (lv_at hl 2 rfl) ?_
    refine q_callSl (As := [.int (nI y)]) (rest := [.int (nI x), .ref h]) C S hl O.1 rfl (c_lowOf O y (by first | omega | exact hL _ | exact hP _ | exact hF _) hL) (cwV 1 C.2.2.2.2 gX1_shareSpans_X1_lowOf rfl rfl rfl (by decide +kernel) ⟨Nat.le_of_ble_eq_true rfl, Nat.le_of_ble_eq_true rfl⟩) rfl rfl (Nat.le_of_ble_eq_true rfl) ⟨Nat.le_of_ble_eq_true rfl, Nat.le_of_ble_eq_true rfl⟩ dX1_shareSpans_12 (fun v hv => ?_)
    subst hv
    refine lv_aload_n C.1 C.2.1 dX1_shareSpans_15 rfl (lv_at hl 0 rfl) ?_
    refine lv_iload_n C.1 C.2.1 dX1_shareSpans_16 rfl (lv_at hl 2 rfl) ?_
    refine q_callSl (As := [.int (nI y)]) (rest := [.long ((J 5) ((N 1) y)), .int (nI x), .ref h]) C S hl O.1 rfl (c_highOf O y (by first | omega | exact hL _ | exact hP _ | exact hF _) hL) (cwV 1 C.2.2.2.2 gX1_shareSpans_X1_highOf rfl rfl rfl (by decide +kernel) ⟨Nat.le_of_ble_eq_true rfl, Nat.le_of_ble_eq_true rfl⟩) rfl rfl (Nat.le_of_ble_eq_true rfl) ⟨Nat.le_of_ble_eq_true rfl, Nat.le_of_ble_eq_true rfl⟩ dX1_shareSpans_17 (fun v hv => ?_)
    subst hv
    refine q_callQi (As := [.int (nI x), .long ((J 5) ((N 1) y)), .long ((J 6) ((N 1) y))]) (rest := []) C S hl O.1 rfl (c_narrow O x (by first | omega | exact hL _ | exact hP _ | exact hF _) hL ((J 5) ((N 1) y)) ((J 6) ((N 1) y))) (cwV 3 C.2.2.2.2 gX1_shareSpans_X1_narrow rfl rfl rfl (by decide +kernel) ⟨Nat.le_of_ble_eq_true rfl, Nat.le_of_ble_eq_true rfl⟩) rfl rfl (Nat.le_of_ble_eq_true rfl) ⟨Nat.le_of_ble_eq_true rfl, Nat.le_of_ble_eq_true rfl⟩ dX1_shareSpans_20 (fun v f H locs hv S => ?_)
    obtain ⟨rfl, O, F1⟩ := hv
    have F := fw_fr_tr F F1
    refine q_ifneB (tgt := 28) C dX1_shareSpans_23 (by decide) (fun c23 => ?_) (fun c23 => ?_)
    · refine lv_aload_n C.1 C.2.1 dX1_shareSpans_28 rfl (lv_at hl 0 rfl) ?_
      refine lv_iload_n C.1 C.2.1 dX1_shareSpans_29 rfl (lv_at hl 1 rfl) ?_
      refine q_callSi (As := [.int (nI x)]) (rest := []) C S hl O.1 rfl (c_hasSpan O x (by first | omega | exact hL _ | exact hP _ | exact hF _) hL) (cwV 1 C.2.2.2.2 gX1_shareSpans_X1_hasSpan rfl rfl rfl (by decide +kernel) ⟨Nat.le_of_ble_eq_true rfl, Nat.le_of_ble_eq_true rfl⟩) rfl rfl (Nat.le_of_ble_eq_true rfl) ⟨Nat.le_of_ble_eq_true rfl, Nat.le_of_ble_eq_true rfl⟩ dX1_shareSpans_30 (fun v hv => ?_)
      subst hv
      refine q_ifeqB (tgt := 54) C dX1_shareSpans_33 (by decide) (fun c33 => ?_) (fun c33 => ?_)
      · refine lv_iconst (v := nI 1) C.1 C.2.1 dX1_shareSpans_54 (by decide) ?_
        refine lv_goto (tgt := 59) C.1 C.2.1 dX1_shareSpans_55 (by decide) ?_
        exact q_retQz (b := true) C S hr hlk rfl ⟨by rw [(sh_d c5 c23 c33).1], by rw [(sh_d c5 c23 c33).2.1, (sh_d c5 c23 c33).2.2]; exact O, F⟩ dX1_shareSpans_59
      · refine lv_aload_n C.1 C.2.1 dX1_shareSpans_36 rfl (lv_at hl 0 rfl) ?_
        refine lv_iload_n C.1 C.2.1 dX1_shareSpans_37 rfl (lv_at hl 2 rfl) ?_
        refine lv_aload_n C.1 C.2.1 dX1_shareSpans_38 rfl (lv_at hl 0 rfl) ?_
        refine lv_iload_n C.1 C.2.1 dX1_shareSpans_39 rfl (lv_at hl 1 rfl) ?_
        refine q_callSl (As := [.int (nI x)]) (rest := [.int (nI y), .ref h]) C S hl O.1 rfl (c_lowOf O x (by first | omega | exact hL _ | exact hP _ | exact hF _) hL) (cwV 1 C.2.2.2.2 gX1_shareSpans_X1_lowOf rfl rfl rfl (by decide +kernel) ⟨Nat.le_of_ble_eq_true rfl, Nat.le_of_ble_eq_true rfl⟩) rfl rfl (Nat.le_of_ble_eq_true rfl) ⟨Nat.le_of_ble_eq_true rfl, Nat.le_of_ble_eq_true rfl⟩ dX1_shareSpans_40 (fun v hv => ?_)
        subst hv
        refine lv_aload_n C.1 C.2.1 dX1_shareSpans_43 rfl (lv_at hl 0 rfl) ?_
        refine lv_iload_n C.1 C.2.1 dX1_shareSpans_44 rfl (lv_at hl 1 rfl) ?_
        refine q_callSl (As := [.int (nI x)]) (rest := [.long (((nrJ B J ((N 1) x) ((J 5) ((N 1) y)) ((J 6) ((N 1) y))) 5) ((N 1) x)), .int (nI y), .ref h]) C S hl O.1 rfl (c_highOf O x (by first | omega | exact hL _ | exact hP _ | exact hF _) hL) (cwV 1 C.2.2.2.2 gX1_shareSpans_X1_highOf rfl rfl rfl (by decide +kernel) ⟨Nat.le_of_ble_eq_true rfl, Nat.le_of_ble_eq_true rfl⟩) rfl rfl (Nat.le_of_ble_eq_true rfl) ⟨Nat.le_of_ble_eq_true rfl, Nat.le_of_ble_eq_true rfl⟩ dX1_shareSpans_45 (fun v hv => ?_)
        subst hv
        refine q_callQi (As := [.int (nI y), .long (((nrJ B J ((N 1) x) ((J 5) ((N 1) y)) ((J 6) ((N 1) y))) 5) ((N 1) x)), .long (((nrJ B J ((N 1) x) ((J 5) ((N 1) y)) ((J 6) ((N 1) y))) 6) ((N 1) x))]) (rest := []) C S hl O.1 rfl (c_narrow O y (by first | omega | exact hL _ | exact hP _ | exact hF _) hL (((nrJ B J ((N 1) x) ((J 5) ((N 1) y)) ((J 6) ((N 1) y))) 5) ((N 1) x)) (((nrJ B J ((N 1) x) ((J 5) ((N 1) y)) ((J 6) ((N 1) y))) 6) ((N 1) x))) (cwV 3 C.2.2.2.2 gX1_shareSpans_X1_narrow rfl rfl rfl (by decide +kernel) ⟨Nat.le_of_ble_eq_true rfl, Nat.le_of_ble_eq_true rfl⟩) rfl rfl (Nat.le_of_ble_eq_true rfl) ⟨Nat.le_of_ble_eq_true rfl, Nat.le_of_ble_eq_true rfl⟩ dX1_shareSpans_48 (fun v f H locs hv S => ?_)
        obtain ⟨rfl, O, F1⟩ := hv
        have F := fw_fr_tr F F1
        refine q_ifeqB (tgt := 58) C dX1_shareSpans_51 (by decide) (fun c51 => ?_) (fun c51 => ?_)
        · refine lv_iconst (v := nI 0) C.1 C.2.1 dX1_shareSpans_58 (by decide) ?_
          exact q_retQz (b := false) C S hr hlk rfl ⟨by rw [(sh_e c5 c23 c33).1, c51], by rw [(sh_e c5 c23 c33).2.1, (sh_e c5 c23 c33).2.2]; exact O, F⟩ dX1_shareSpans_59
        · refine lv_iconst (v := nI 1) C.1 C.2.1 dX1_shareSpans_54 (by decide) ?_
          refine lv_goto (tgt := 59) C.1 C.2.1 dX1_shareSpans_55 (by decide) ?_
          exact q_retQz (b := true) C S hr hlk rfl ⟨by rw [(sh_e c5 c23 c33).1, c51], by rw [(sh_e c5 c23 c33).2.1, (sh_e c5 c23 c33).2.2]; exact O, F⟩ dX1_shareSpans_59
    · refine lv_iconst (v := nI 0) C.1 C.2.1 dX1_shareSpans_26 (by decide) ?_
      exact q_retQz (b := false) C S hr hlk rfl ⟨by rw [(sh_c c5 c23).1], by rw [(sh_c c5 c23).2.1, (sh_c c5 c23).2.2]; rw [nrB_f c23, nrJ_f c23] at O; exact O, F⟩ dX1_shareSpans_27
theorem inX1_copyFrom_X1 : ∀ w ∈ u_ws RX1 TX1 7, w ∈ wsX1_copyFrom := (fun _ h => (List.mem_cons_of_mem _ (List.mem_append_right _ h)))
theorem lkX1_copyFrom_32 : Cond.fieldLink RX1 32 (TX1 0).1 (TX1 0).2.1 (TX1 0).2.2.1 ∈ wsX1_copyFrom := List.mem_of_getElem? (i := 1) rfl
theorem lkX1_copyFrom_9 : Cond.fieldLink RX1 9 (TX1 1).1 (TX1 1).2.1 (TX1 1).2.2.1 ∈ wsX1_copyFrom := List.mem_of_getElem? (i := 2) rfl
theorem lkX1_copyFrom_15 : Cond.fieldLink RX1 15 (TX1 2).1 (TX1 2).2.1 (TX1 2).2.2.1 ∈ wsX1_copyFrom := List.mem_of_getElem? (i := 3) rfl
theorem lkX1_copyFrom_19 : Cond.fieldLink RX1 19 (TX1 3).1 (TX1 3).2.1 (TX1 3).2.2.1 ∈ wsX1_copyFrom := List.mem_of_getElem? (i := 4) rfl
theorem lkX1_copyFrom_23 : Cond.fieldLink RX1 23 (TX1 4).1 (TX1 4).2.1 (TX1 4).2.2.1 ∈ wsX1_copyFrom := List.mem_of_getElem? (i := 5) rfl
theorem lkX1_copyFrom_26 : Cond.fieldLink RX1 26 (TX1 5).1 (TX1 5).2.1 (TX1 5).2.2.1 ∈ wsX1_copyFrom := List.mem_of_getElem? (i := 6) rfl
theorem lkX1_copyFrom_29 : Cond.fieldLink RX1 29 (TX1 6).1 (TX1 6).2.1 (TX1 6).2.2.1 ∈ wsX1_copyFrom := List.mem_of_getElem? (i := 7) rfl
set_option maxHeartbeats 4000000 in
set_option maxRecDepth 100000 in
theorem c_copyFrom {l : Launch} {G : fw_G} {A : Nat → Prop} {f0 : fw_F} {b h : Nat} {a : Nat → Nat} {I : Nat → Nat} {N : Nat → Nat → Nat} {B : Nat → Nat → Bool} {J : Nat → Nat → Int64} {b2 h2 : Nat} {a2 : Nat → Nat} {I2 : Nat → Nat} {N2 : Nat → Nat → Nat} {B2 : Nat → Nat → Bool} {J2 : Nat → Nat → Int64} (O : isO G dN f0 b h a I N B J) (O2 : isO G dN f0 b2 h2 a2 I2 N2 B2 J2) (hd : b2 + 8 ≤ b ∨ b + 8 ≤ b2) (hn2 : I2 0 ≤ 64) (hL : ∀ i, N 1 i < 64) (hL2 : ∀ i, N2 1 i < 64)  : Met l yX1_copyFrom wsX1_copyFrom ({ frames := 0, cells := 0, slots := 0, locals := 0 }) (va_Pc [.ref h, .ref h2] (fw_P G A f0)) (va_Qv (fun (f1 : fw_F) => ∃ N' B' J', isO G dN f1 b h a (va_up I 0 (I2 0)) N' B' J' ∧ (∀ i, i < I2 0 → N' 1 i = N2 1 i ∧ B' 2 i = B2 2 i ∧ J' 3 i = J2 3 i ∧ B' 4 i = B2 4 i ∧ J' 5 i = J2 5 i ∧ J' 6 i = J2 6 i) ∧ (∀ i, N' 1 i < 64) ∧ fw_fr f0 f1 b (b + 8)) (fw_B G A) A) 0 0 A := by
  refine q_head rfl (by decide) (Nat.le_of_ble_eq_true rfl) ?_
  intro p e s m below meth c ls C hr hlk hnm P hl
  have S := P.start
  have hl : lv_has ls 3 [(0, .ref h), (1, .ref h2)] := hl
  have F := fw_fr_rf f0 b (b + 8)
  refine lv_aload_n C.1 C.2.1 dX1_copyFrom_0 rfl (lv_at hl 0 rfl) ?_
  refine lv_aload_n C.1 C.2.1 dX1_copyFrom_1 rfl (lv_at hl 1 rfl) ?_
  refine o_get (v := .int (nI (I2 0))) C S (o_fr O2 F hd) rfl inX1_copyFrom_X1 0 (Nat.le_of_ble_eq_true rfl) lkX1_copyFrom_32 rfl dX1_copyFrom_2 ?_
  refine o_puti C S O F rfl inX1_copyFrom_X1 tyX1 tyX1_ok nmX1 0 (Nat.le_of_ble_eq_true rfl) rfl lkX1_copyFrom_32 rfl rfl ⟨by omega, by omega⟩ dX1_copyFrom_5 (fun f H locs S O F => ?_)
  refine lv_iconst (v := nI 0) C.1 C.2.1 dX1_copyFrom_8 (by decide) ?_
  refine lv_istore_n (lv' := [(2, .int (nI 0)), (0, .ref h), (1, .ref h2)]) C.1 C.2.1 dX1_copyFrom_9 rfl hl (by decide) rfl (fun ls hl => ?_)
  have lp10 : ∀ (n10 : Nat) (z : Nat) (N3 : Nat → Nat → Nat) (B3 : Nat → Nat → Bool) (J3 : Nat → Nat → Int64), I2 0 - z < n10 → (z ≤ I2 0) → (∀ i, i < z → N3 1 i = N2 1 i ∧ B3 2 i = B2 2 i ∧ J3 3 i = J2 3 i ∧ B3 4 i = B2 4 i ∧ J3 5 i = J2 5 i ∧ J3 6 i = J2 6 i) → (∀ i, N3 1 i < 64) → ∀ (f : fw_F) (H : Heap) (locs : List Loc) (ls : Array Slot), fw_S G A s f H locs → isO G dN f b h a (va_up I 0 (I2 0)) N3 B3 J3 → fw_fr f0 f b (b + 8) → lv_has ls 3 [(2, .int (nI z)), (0, .ref h), (1, .ref h2)] → W p l e ({ frames := 0, cells := 0, slots := 0, locals := 0 }) s m [.ref h, .ref h2].toArray below meth c H locs 0 0 (MQ below (va_Qv (fun (f1 : fw_F) => ∃ N' B' J', isO G dN f1 b h a (va_up I 0 (I2 0)) N' B' J' ∧ (∀ i, i < I2 0 → N' 1 i = N2 1 i ∧ B' 2 i = B2 2 i ∧ J' 3 i = J2 3 i ∧ B' 4 i = B2 4 i ∧ J' 5 i = J2 5 i ∧ J' 6 i = J2 6 i) ∧ (∀ i, N' 1 i < 64) ∧ fw_fr f0 f1 b (b + 8)) (fw_B G A) A) [.ref h, .ref h2].toArray s 0 0 A) (F0 m 10 ls []) := by
    intro n10
    induction n10 with
    | zero => intro z N3 B3 J3 hme10; exact absurd hme10 (Nat.not_lt_zero _)
    | succ n10 ih10 =>
      intro z N3 B3 J3 hme10 hz heq hL3 f H locs ls S O F hl
      refine lv_iload_n C.1 C.2.1 dX1_copyFrom_10 rfl (lv_at hl 0 rfl) ?_
      refine lv_aload_n C.1 C.2.1 dX1_copyFrom_11 rfl (lv_at hl 1 rfl) ?_
      refine o_get (v := .int (nI (I2 0))) C S O rfl inX1_copyFrom_X1 0 (Nat.le_of_ble_eq_true rfl) lkX1_copyFrom_32 rfl dX1_copyFrom_12 ?_
      refine q_ge (tgt := 96) C (by omega) (by omega) dX1_copyFrom_15 (by decide) (fun c15 => ?_) (fun c15 => ?_)
      · exact q_retQv C S hr hlk ⟨N3, B3, J3, O, by rw [show I2 0 = z by omega]; exact heq, hL3, F⟩ dX1_copyFrom_96
      · refine lv_aload_n C.1 C.2.1 dX1_copyFrom_18 rfl (lv_at hl 1 rfl) ?_
        refine o_get (v := .ref (a 1)) C S O rfl inX1_copyFrom_X1 1 (Nat.le_of_ble_eq_true rfl) lkX1_copyFrom_9 rfl dX1_copyFrom_19 ?_
        refine lv_iload_n C.1 C.2.1 dX1_copyFrom_22 rfl (lv_at hl 0 rfl) ?_
        refine lv_aload_n C.1 C.2.1 dX1_copyFrom_23 rfl (lv_at hl 2 rfl) ?_
        refine o_get (v := .ref (a2 1)) C S (o_fr O2 F hd) rfl inX1_copyFrom_X1 1 (Nat.le_of_ble_eq_true rfl) lkX1_copyFrom_9 rfl dX1_copyFrom_24 ?_
        refine lv_iload_n C.1 C.2.1 dX1_copyFrom_27 rfl (lv_at hl 0 rfl) ?_
        refine o_nald (x := (N2 1) z) C S (o_fr O2 F hd) 1 (Nat.le_of_ble_eq_true rfl) rfl z rfl (show z < 64 from by first | omega | exact hL _ | exact hP _ | exact hF _) (Nat.le_of_ble_eq_true rfl) rfl dX1_copyFrom_28 ?_
        refine o_nast C S O F 1 (Nat.le_of_ble_eq_true rfl) rfl z rfl (show z < 64 from by first | omega | exact hL _ | exact hP _ | exact hF _) (Nat.le_of_ble_eq_true rfl) ⟨by omega, by omega⟩ dX1_copyFrom_29 (fun f H locs S O F => ?_)
        refine lv_aload_n C.1 C.2.1 dX1_copyFrom_30 rfl (lv_at hl 1 rfl) ?_
        refine o_get (v := .ref (a 2)) C S O rfl inX1_copyFrom_X1 2 (Nat.le_of_ble_eq_true rfl) lkX1_copyFrom_15 rfl dX1_copyFrom_31 ?_
        refine lv_iload_n C.1 C.2.1 dX1_copyFrom_34 rfl (lv_at hl 0 rfl) ?_
        refine lv_aload_n C.1 C.2.1 dX1_copyFrom_35 rfl (lv_at hl 2 rfl) ?_
        refine o_get (v := .ref (a2 2)) C S (o_fr O2 F hd) rfl inX1_copyFrom_X1 2 (Nat.le_of_ble_eq_true rfl) lkX1_copyFrom_15 rfl dX1_copyFrom_36 ?_
        refine lv_iload_n C.1 C.2.1 dX1_copyFrom_39 rfl (lv_at hl 0 rfl) ?_
        refine o_yald (x := (B2 2) z) C S (o_fr O2 F hd) 2 (Nat.le_of_ble_eq_true rfl) rfl z rfl (show z < 64 from by first | omega | exact hL _ | exact hP _ | exact hF _) (Nat.le_of_ble_eq_true rfl) rfl dX1_copyFrom_40 ?_
        refine o_yast C S O F 2 (Nat.le_of_ble_eq_true rfl) rfl z rfl (show z < 64 from by first | omega | exact hL _ | exact hP _ | exact hF _) (Nat.le_of_ble_eq_true rfl) ⟨by omega, by omega⟩ dX1_copyFrom_41 (fun f H locs S O F => ?_)
        refine lv_aload_n C.1 C.2.1 dX1_copyFrom_42 rfl (lv_at hl 1 rfl) ?_
        refine o_get (v := .ref (a 3)) C S O rfl inX1_copyFrom_X1 3 (Nat.le_of_ble_eq_true rfl) lkX1_copyFrom_19 rfl dX1_copyFrom_43 ?_
        refine lv_iload_n C.1 C.2.1 dX1_copyFrom_46 rfl (lv_at hl 0 rfl) ?_
        refine lv_aload_n C.1 C.2.1 dX1_copyFrom_47 rfl (lv_at hl 2 rfl) ?_
        refine o_get (v := .ref (a2 3)) C S (o_fr O2 F hd) rfl inX1_copyFrom_X1 3 (Nat.le_of_ble_eq_true rfl) lkX1_copyFrom_19 rfl dX1_copyFrom_48 ?_
        refine lv_iload_n C.1 C.2.1 dX1_copyFrom_51 rfl (lv_at hl 0 rfl) ?_
        refine o_lald (x := (J2 3) z) C S (o_fr O2 F hd) 3 (Nat.le_of_ble_eq_true rfl) rfl z rfl (show z < 64 from by first | omega | exact hL _ | exact hP _ | exact hF _) (Nat.le_of_ble_eq_true rfl) rfl dX1_copyFrom_52 ?_
        refine o_last C S O F 3 (Nat.le_of_ble_eq_true rfl) rfl z rfl (show z < 64 from by first | omega | exact hL _ | exact hP _ | exact hF _) (Nat.le_of_ble_eq_true rfl) ⟨by omega, by omega⟩ dX1_copyFrom_53 (fun f H locs S O F => ?_)
        refine lv_aload_n C.1 C.2.1 dX1_copyFrom_54 rfl (lv_at hl 1 rfl) ?_
        refine o_get (v := .ref (a 4)) C S O rfl inX1_copyFrom_X1 4 (Nat.le_of_ble_eq_true rfl) lkX1_copyFrom_23 rfl dX1_copyFrom_55 ?_
        refine lv_iload_n C.1 C.2.1 dX1_copyFrom_58 rfl (lv_at hl 0 rfl) ?_
        refine lv_aload_n C.1 C.2.1 dX1_copyFrom_59 rfl (lv_at hl 2 rfl) ?_
        refine o_get (v := .ref (a2 4)) C S (o_fr O2 F hd) rfl inX1_copyFrom_X1 4 (Nat.le_of_ble_eq_true rfl) lkX1_copyFrom_23 rfl dX1_copyFrom_60 ?_
        refine lv_iload_n C.1 C.2.1 dX1_copyFrom_63 rfl (lv_at hl 0 rfl) ?_
        refine o_yald (x := (B2 4) z) C S (o_fr O2 F hd) 4 (Nat.le_of_ble_eq_true rfl) rfl z rfl (show z < 64 from by first | omega | exact hL _ | exact hP _ | exact hF _) (Nat.le_of_ble_eq_true rfl) rfl dX1_copyFrom_64 ?_
        refine o_yast C S O F 4 (Nat.le_of_ble_eq_true rfl) rfl z rfl (show z < 64 from by first | omega | exact hL _ | exact hP _ | exact hF _) (Nat.le_of_ble_eq_true rfl) ⟨by omega, by omega⟩ dX1_copyFrom_65 (fun f H locs S O F => ?_)
        refine lv_aload_n C.1 C.2.1 dX1_copyFrom_66 rfl (lv_at hl 1 rfl) ?_
        refine o_get (v := .ref (a 5)) C S O rfl inX1_copyFrom_X1 5 (Nat.le_of_ble_eq_true rfl) lkX1_copyFrom_26 rfl dX1_copyFrom_67 ?_
        refine lv_iload_n C.1 C.2.1 dX1_copyFrom_70 rfl (lv_at hl 0 rfl) ?_
        refine lv_aload_n C.1 C.2.1 dX1_copyFrom_71 rfl (lv_at hl 2 rfl) ?_
        refine o_get (v := .ref (a2 5)) C S (o_fr O2 F hd) rfl inX1_copyFrom_X1 5 (Nat.le_of_ble_eq_true rfl) lkX1_copyFrom_26 rfl dX1_copyFrom_72 ?_
        refine lv_iload_n C.1 C.2.1 dX1_copyFrom_75 rfl (lv_at hl 0 rfl) ?_
        refine o_lald (x := (J2 5) z) C S (o_fr O2 F hd) 5 (Nat.le_of_ble_eq_true rfl) rfl z rfl (show z < 64 from by first | omega | exact hL _ | exact hP _ | exact hF _) (Nat.le_of_ble_eq_true rfl) rfl dX1_copyFrom_76 ?_
        refine o_last C S O F 5 (Nat.le_of_ble_eq_true rfl) rfl z rfl (show z < 64 from by first | omega | exact hL _ | exact hP _ | exact hF _) (Nat.le_of_ble_eq_true rfl) ⟨by omega, by omega⟩ dX1_copyFrom_77 (fun f H locs S O F => ?_)
        refine lv_aload_n C.1 C.2.1 dX1_copyFrom_78 rfl (lv_at hl 1 rfl) ?_
        refine o_get (v := .ref (a 6)) C S O rfl inX1_copyFrom_X1 6 (Nat.le_of_ble_eq_true rfl) lkX1_copyFrom_29 rfl dX1_copyFrom_79 ?_
        refine lv_iload_n C.1 C.2.1 dX1_copyFrom_82 rfl (lv_at hl 0 rfl) ?_
        refine lv_aload_n C.1 C.2.1 dX1_copyFrom_83 rfl (lv_at hl 2 rfl) ?_
        refine o_get (v := .ref (a2 6)) C S (o_fr O2 F hd) rfl inX1_copyFrom_X1 6 (Nat.le_of_ble_eq_true rfl) lkX1_copyFrom_29 rfl dX1_copyFrom_84 ?_
        refine lv_iload_n C.1 C.2.1 dX1_copyFrom_87 rfl (lv_at hl 0 rfl) ?_
        refine o_lald (x := (J2 6) z) C S (o_fr O2 F hd) 6 (Nat.le_of_ble_eq_true rfl) rfl z rfl (show z < 64 from by first | omega | exact hL _ | exact hP _ | exact hF _) (Nat.le_of_ble_eq_true rfl) rfl dX1_copyFrom_88 ?_
        refine o_last C S O F 6 (Nat.le_of_ble_eq_true rfl) rfl z rfl (show z < 64 from by first | omega | exact hL _ | exact hP _ | exact hF _) (Nat.le_of_ble_eq_true rfl) ⟨by omega, by omega⟩ dX1_copyFrom_89 (fun f H locs S O F => ?_)
        refine q_iinc (d := 1) (lv' := [(2, .int (nI (z + 1))), (0, .ref h), (1, .ref h2)]) C dX1_copyFrom_90 hl (k := 0) rfl (by decide) (by decide) rfl (fun ls hl => ?_)
        refine lv_goto (tgt := 10) C.1 C.2.1 dX1_copyFrom_93 (by decide) ?_
        exact ih10 (z + 1) (va_up N3 1 (va_up (N3 1) z ((N2 1) z))) (va_up (va_up B3 2 (va_up (B3 2) z ((B2 2) z))) 4 (va_up (B3 4) z ((B2 4) z))) (va_up (va_up (va_up J3 3 (va_up (J3 3) z ((J2 3) z))) 5 (va_up (J3 5) z ((J2 5) z))) 6 (va_up (J3 6) z ((J2 6) z))) (by omega) (by omega) (fun i hi => by rcases Nat.lt_or_ge i z with q | q; exact (by have := heq i q; refine ⟨?_, ?_, ?_, ?_, ?_, ?_⟩ <;> (first | (show va_up _ _ _ _ = _; rw [up_n (by omega)]) | skip) <;> first | exact this.1 | exact this.2.1 | exact this.2.2.1 | exact this.2.2.2.1 | exact this.2.2.2.2.1 | exact this.2.2.2.2.2); rw [show i = z by omega]; refine ⟨?_, ?_, ?_, ?_, ?_, ?_⟩ <;> (show va_up _ _ _ _ = _) <;> rw [up_s]) (fun i => by show va_up _ _ _ _ < 64; by_cases q : i = z; rw [q, up_s]; exact hL2 _; rw [up_n q]; exact hL3 i) _ _ _ _ S O F (lv_sub hl [0, 1, 2] rfl)
  exact lp10 (I2 0 + 1) 0 N B J (by omega) (by omega) (fun i hi => absurd hi (Nat.not_lt_zero i)) hL _ _ _ _ S O F (lv_sub hl [0, 1, 2] rfl)
theorem inX2_append_X2 : ∀ w ∈ u_ws RX2 TX2 3, w ∈ wsX2_append := (fun _ h => (List.mem_cons_of_mem _ (List.mem_append_right _ h)))
theorem lkX2_append_19 : Cond.fieldLink RX2 19 (TX2 0).1 (TX2 0).2.1 (TX2 0).2.2.1 ∈ wsX2_append := List.mem_of_getElem? (i := 1) rfl
theorem lkX2_append_9 : Cond.fieldLink RX2 9 (TX2 1).1 (TX2 1).2.1 (TX2 1).2.2.1 ∈ wsX2_append := List.mem_of_getElem? (i := 2) rfl
theorem lkX2_append_15 : Cond.fieldLink RX2 15 (TX2 2).1 (TX2 2).2.1 (TX2 2).2.2.1 ∈ wsX2_append := List.mem_of_getElem? (i := 3) rfl
set_option maxHeartbeats 4000000 in
set_option maxRecDepth 100000 in
theorem c_append {l : Launch} {G : fw_G} {A : Nat → Prop} {f0 : fw_F} {br hro : Nat} {ar : Nat → Nat} {Ir : Nat → Nat} {Nr : Nat → Nat → Nat} {Br : Nat → Nat → Bool} {Jr : Nat → Nat → Int64} (Or : isO G dR f0 br hro ar Ir Nr Br Jr) (x : Nat) (v : Int64) (hn : Ir 0 < 32)  : Met l yX2_append wsX2_append ({ frames := 0, cells := 0, slots := 0, locals := 0 }) (va_Pc [.ref hro, .int (nI x), .long v] (fw_P G A f0)) (va_Qv (fun (f1 : fw_F) => isO G dR f1 br hro ar (va_up Ir 0 (Ir 0 + 1)) (va_up Nr 1 (va_up (Nr 1) (Ir 0) x)) Br (va_up Jr 2 (va_up (Jr 2) (Ir 0) v)) ∧ fw_fr f0 f1 br (br + 4)) (fw_B G A) A) 0 0 A := by
  refine q_head rfl (by decide) (Nat.le_of_ble_eq_true rfl) ?_
  intro p e s m below meth c ls C hr hlk hnm P hl
  have S := P.start
  have hl : lv_has ls 4 [(0, .ref hro), (1, .int (nI x)), (2, .long v)] := hl
  have F := fw_fr_rf f0 br (br + 4)
  refine lv_aload_n C.1 C.2.1 dX2_append_0 rfl (lv_at hl 0 rfl) ?_
  refine o_get (v := .int (nI (Ir 0))) C S Or rfl inX2_append_X2 0 (Nat.le_of_ble_eq_true rfl) lkX2_append_19 rfl dX2_append_1 ?_
  refine lv_bipush (v := nI 32) C.1 C.2.1 dX2_append_4 (by decide) ?_
  refine q_ge (tgt := 39) C (by omega) (by decide) dX2_append_6 (by decide) (fun c6 => ?_) (fun c6 => ?_)
  · exact absurd c6 (by omega)
  · refine lv_aload_n C.1 C.2.1 dX2_append_9 rfl (lv_at hl 0 rfl) ?_
    refine o_get (v := .ref (ar 1)) C S Or rfl inX2_append_X2 1 (Nat.le_of_ble_eq_true rfl) lkX2_append_9 rfl dX2_append_10 ?_
    refine lv_aload_n C.1 C.2.1 dX2_append_13 rfl (lv_at hl 0 rfl) ?_
    refine o_get (v := .int (nI (Ir 0))) C S Or rfl inX2_append_X2 0 (Nat.le_of_ble_eq_true rfl) lkX2_append_19 rfl dX2_append_14 ?_
    refine lv_iload_n C.1 C.2.1 dX2_append_17 rfl (lv_at hl 1 rfl) ?_
    refine o_nast C S Or F 1 (Nat.le_of_ble_eq_true rfl) rfl (Ir 0) rfl (show (Ir 0) < 32 from by first | omega | exact hL _ | exact hP _ | exact hF _) (Nat.le_of_ble_eq_true rfl) ⟨by omega, by omega⟩ dX2_append_18 (fun f H locs S Or F => ?_)
    refine lv_aload_n C.1 C.2.1 dX2_append_19 rfl (lv_at hl 0 rfl) ?_
    refine o_get (v := .ref (ar 2)) C S Or rfl inX2_append_X2 2 (Nat.le_of_ble_eq_true rfl) lkX2_append_15 rfl dX2_append_20 ?_
    refine lv_aload_n C.1 C.2.1 dX2_append_23 rfl (lv_at hl 0 rfl) ?_
    refine o_get (v := .int (nI (Ir 0))) C S Or rfl inX2_append_X2 0 (Nat.le_of_ble_eq_true rfl) lkX2_append_19 rfl dX2_append_24 ?_
    refine lv_lload_n C.1 C.2.1 dX2_append_27 rfl (lv_at hl 2 rfl) ?_
    refine o_last C S Or F 2 (Nat.le_of_ble_eq_true rfl) rfl (Ir 0) rfl (show (Ir 0) < 32 from by first | omega | exact hL _ | exact hP _ | exact hF _) (Nat.le_of_ble_eq_true rfl) ⟨by omega, by omega⟩ dX2_append_28 (fun f H locs S Or F => ?_)
    refine lv_aload_n C.1 C.2.1 dX2_append_29 rfl (lv_at hl 0 rfl) ?_
    refine lv_dup C.1 C.2.1 dX2_append_30 rfl ?_
    refine o_get (v := .int (nI (Ir 0))) C S Or rfl inX2_append_X2 0 (Nat.le_of_ble_eq_true rfl) lkX2_append_19 rfl dX2_append_31 ?_
    refine lv_iconst (v := nI 1) C.1 C.2.1 dX2_append_34 (by decide) ?_
    refine q_iadd C dX2_append_35 ?_
    refine o_puti C S Or F rfl inX2_append_X2 tyX2 tyX2_ok nmX2 0 (Nat.le_of_ble_eq_true rfl) rfl lkX2_append_19 rfl rfl ⟨by omega, by omega⟩ dX2_append_36 (fun f H locs S Or F => ?_)
    exact q_retQv C S hr hlk ⟨Or, F⟩ dX2_append_39
theorem inX2_cutAtFirstGone_X2 : ∀ w ∈ u_ws RX2 TX2 3, w ∈ wsX2_cutAtFirstGone := (fun _ h => (List.mem_cons_of_mem _ (List.mem_append_left _ (List.mem_append_right _ h))))
theorem lkX2_cutAtFirstGone_19 : Cond.fieldLink RX2 19 (TX2 0).1 (TX2 0).2.1 (TX2 0).2.2.1 ∈ wsX2_cutAtFirstGone := List.mem_of_getElem? (i := 1) rfl
theorem lkX2_cutAtFirstGone_9 : Cond.fieldLink RX2 9 (TX2 1).1 (TX2 1).2.1 (TX2 1).2.2.1 ∈ wsX2_cutAtFirstGone := List.mem_of_getElem? (i := 2) rfl
set_option maxHeartbeats 4000000 in
set_option maxRecDepth 100000 in
theorem c_cut {l : Launch} {G : fw_G} {A : Nat → Prop} {f0 : fw_F} {br hro : Nat} {ar : Nat → Nat} {Ir : Nat → Nat} {Nr : Nat → Nat → Nat} {Br : Nat → Nat → Bool} {Jr : Nat → Nat → Int64} {bn hn : Nat} {an : Nat → Nat} {In : Nat → Nat} {Nn : Nat → Nat → Nat} {Bn : Nat → Nat → Bool} {Jn : Nat → Nat → Int64} (Or : isO G dR f0 br hro ar Ir Nr Br Jr) (On : isO G dN f0 bn hn an In Nn Bn Jn) (hd : bn + 8 ≤ br ∨ br + 4 ≤ bn) (hm : Ir 0 ≤ 32) (hn0 : In 0 ≤ 64) (hP : ∀ i, Nr 1 i < 64)  : Met l yX2_cutAtFirstGone wsX2_cutAtFirstGone ({ frames := 1, cells := 0, slots := 0, locals := 21 }) (va_Pc [.ref hro, .ref hn] (fw_P G A f0)) (va_Qv (fun (f1 : fw_F) => ∃ c, c ≤ Ir 0 ∧ (∀ i, i < c → Nr 1 i < In 0) ∧ (c < Ir 0 → In 0 ≤ Nr 1 c) ∧ isO G dR f1 br hro ar (va_up Ir 0 c) Nr Br Jr ∧ fw_fr f0 f1 br (br + 4)) (fw_B G A) A) 0 0 A := by
  refine q_head rfl (by decide) (Nat.le_of_ble_eq_true rfl) ?_
  intro p e s m below meth c ls C hr hlk hnm P hl
  have S := P.start
  have hl : lv_has ls 3 [(0, .ref hro), (1, .ref hn)] := hl
  have F := fw_fr_rf f0 br (br + 4)
  refine lv_iconst (v := nI 0) C.1 C.2.1 dX2_cutAtFirstGone_0 (by decide) ?_
  refine lv_istore_n (lv' := [(2, .int (nI 0)), (0, .ref hro), (1, .ref hn)]) C.1 C.2.1 dX2_cutAtFirstGone_1 rfl hl (by decide) rfl (fun ls hl => ?_)
  have lp2 : ∀ (n2 : Nat) (z : Nat), Ir 0 - z < n2 → (z ≤ Ir 0) → (∀ i, i < z → Nr 1 i < In 0) → ∀ (f : fw_F) (H : Heap) (locs : List Loc) (ls : Array Slot), fw_S G A s f H locs → isO G dR f br hro ar Ir Nr Br Jr → fw_fr f0 f br (br + 4) → lv_has ls 3 [(2, .int (nI z)), (0, .ref hro), (1, .ref hn)] → W p l e ({ frames := 1, cells := 0, slots := 0, locals := 21 }) s m [.ref hro, .ref hn].toArray below meth c H locs 0 0 (MQ below (va_Qv (fun (f1 : fw_F) => ∃ c, c ≤ Ir 0 ∧ (∀ i, i < c → Nr 1 i < In 0) ∧ (c < Ir 0 → In 0 ≤ Nr 1 c) ∧ isO G dR f1 br hro ar (va_up Ir 0 c) Nr Br Jr ∧ fw_fr f0 f1 br (br + 4)) (fw_B G A) A) [.ref hro, .ref hn].toArray s 0 0 A) (F0 m 2 ls []) := by
    intro n2
    induction n2 with
    | zero => intro z hme2; exact absurd hme2 (Nat.not_lt_zero _)
    | succ n2 ih2 =>
      intro z hme2 hz hz2 f H locs ls S Or F hl
      refine lv_iload_n C.1 C.2.1 dX2_cutAtFirstGone_2 rfl (lv_at hl 0 rfl) ?_
      refine lv_aload_n C.1 C.2.1 dX2_cutAtFirstGone_3 rfl (lv_at hl 1 rfl) ?_
      refine o_get (v := .int (nI (Ir 0))) C S Or rfl inX2_cutAtFirstGone_X2 0 (Nat.le_of_ble_eq_true rfl) lkX2_cutAtFirstGone_19 rfl dX2_cutAtFirstGone_4 ?_
      refine q_ge (tgt := 37) C (by omega) (by omega) dX2_cutAtFirstGone_7 (by decide) (fun c7 => ?_) (fun c7 => ?_)
      · exact q_retQv C S hr hlk ⟨Ir 0, Nat.le_refl _, fun i hi => hz2 i (by omega), fun q => absurd q (Nat.lt_irrefl _), by rw [up_id]; exact Or, F⟩ dX2_cutAtFirstGone_37
      · refine lv_aload_n C.1 C.2.1 dX2_cutAtFirstGone_10 rfl (lv_at hl 2 rfl) ?_
        refine lv_aload_n C.1 C.2.1 dX2_cutAtFirstGone_11 rfl (lv_at hl 1 rfl) ?_
        refine o_get (v := .ref (ar 1)) C S Or rfl inX2_cutAtFirstGone_X2 1 (Nat.le_of_ble_eq_true rfl) lkX2_cutAtFirstGone_9 rfl dX2_cutAtFirstGone_12 ?_
        refine lv_iload_n C.1 C.2.1 dX2_cutAtFirstGone_15 rfl (lv_at hl 0 rfl) ?_
        refine o_nald (x := (Nr 1) z) C S Or 1 (Nat.le_of_ble_eq_true rfl) rfl z rfl (show z < 32 from by first | omega | exact hL _ | exact hP _ | exact hF _) (Nat.le_of_ble_eq_true rfl) rfl dX2_cutAtFirstGone_16 ?_
        refine q_callSi (As := [.int (nI ((Nr 1) z))]) (rest := []) C S hl (o_fr On F hd).1 rfl (c_has (o_fr On F hd) (nI ((Nr 1) z))) (cwV 1 C.2.2.2.2 gX2_cutAtFirstGone_X1_has rfl rfl rfl (by decide +kernel) ⟨Nat.le_of_ble_eq_true rfl, Nat.le_of_ble_eq_true rfl⟩) rfl rfl (Nat.le_of_ble_eq_true rfl) ⟨Nat.le_of_ble_eq_true rfl, Nat.le_of_ble_eq_true rfl⟩ dX2_cutAtFirstGone_17 (fun v hv => ?_)
        subst hv
        refine q_ifneB (tgt := 31) C dX2_cutAtFirstGone_20 (by decide) (fun c20 => ?_) (fun c20 => ?_)
        · refine q_iinc (d := 1) (lv' := [(2, .int (nI (z + 1))), (0, .ref hro), (1, .ref hn)]) C dX2_cutAtFirstGone_31 hl (k := 0) rfl (by decide) (by decide) rfl (fun ls hl => ?_)
          refine lv_goto (tgt := 2) C.1 C.2.1 dX2_cutAtFirstGone_34 (by decide) ?_
          exact ih2 (z + 1) (by omega) (by omega) (fun i hi => by rcases Nat.lt_or_ge i z with q | q; exact hz2 i q; rw [ix_nI (Nat.lt_trans (hP _) (by decide)) (by omega)] at c20; rw [show i = z by omega]; exact of_decide_eq_true c20) _ _ _ _ S Or F (lv_sub hl [0, 1, 2] rfl)
        · refine lv_aload_n C.1 C.2.1 dX2_cutAtFirstGone_23 rfl (lv_at hl 1 rfl) ?_
          refine lv_iload_n C.1 C.2.1 dX2_cutAtFirstGone_24 rfl (lv_at hl 0 rfl) ?_
          refine o_puti C S Or F rfl inX2_cutAtFirstGone_X2 tyX2 tyX2_ok nmX2 0 (Nat.le_of_ble_eq_true rfl) rfl lkX2_cutAtFirstGone_19 rfl rfl ⟨by omega, by omega⟩ dX2_cutAtFirstGone_25 (fun f H locs S Or F => ?_)
          refine lv_goto (tgt := 37) C.1 C.2.1 dX2_cutAtFirstGone_28 (by decide) ?_
          exact q_retQv C S hr hlk ⟨z, by omega, hz2, fun _ => by rw [ix_nI (Nat.lt_trans (hP _) (by decide)) (by omega)] at c20; exact Nat.not_lt.mp (of_decide_eq_false c20), Or, F⟩ dX2_cutAtFirstGone_37
  exact lp2 (Ir 0 + 1) 0 (by omega) (by omega) (fun i hi => absurd hi (Nat.not_lt_zero i)) _ _ _ _ S Or F (lv_sub hl [0, 1, 2] rfl)
theorem inX0_countFree_X0 : ∀ w ∈ u_ws RX0 TX0 4, w ∈ wsX0_countFree := (fun _ h => (List.mem_cons_of_mem _ (List.mem_append_left _ (List.mem_append_right _ h))))
theorem lkX0_countFree_34 : Cond.fieldLink RX0 34 (TX0 1).1 (TX0 1).2.1 (TX0 1).2.2.1 ∈ wsX0_countFree := List.mem_of_getElem? (i := 1) rfl
set_option maxHeartbeats 4000000 in
set_option maxRecDepth 100000 in
theorem c_countFree {l : Launch} {G : fw_G} {A : Nat → Prop} {f0 : fw_F} {bk hk : Nat} {w : Nat} {ak : Nat → Nat} {Ik : Nat → Nat} {Nk : Nat → Nat → Nat} {Bk : Nat → Nat → Bool} {Jk : Nat → Nat → Int64} {bn hn : Nat} {an : Nat → Nat} {In : Nat → Nat} {Nn : Nat → Nat → Nat} {Bn : Nat → Nat → Bool} {Jn : Nat → Nat → Int64} (Ok : isO G (dK w) f0 bk hk ak Ik Nk Bk Jk) (On : isO G dN f0 bn hn an In Nn Bn Jn) (hw : w ≤ 32) (hP : ∀ i, Nk 1 i < 64) (hL : ∀ i, Nn 1 i < 64)  : Met l yX0_countFree wsX0_countFree ({ frames := 1, cells := 0, slots := 0, locals := 21 }) (va_Pc [.ref hk, .ref hn] (fw_P G A f0)) (vp_Si (fun (r : Int32) => r = nI (cnt (fun i => !Bn 2 (Nn 1 (Nk 1 i))) w))) 0 0 (fun _ => False) := by
  refine q_head rfl (by decide) (Nat.le_of_ble_eq_true rfl) ?_
  intro p e s m below meth c ls C hr hlk hnm P hl
  have S := P.start
  have hl : lv_has ls 4 [(0, .ref hk), (1, .ref hn)] := hl
  refine lv_iconst (v := nI 0) C.1 C.2.1 dX0_countFree_0 (by decide) ?_
  refine lv_istore_n (lv' := [(2, .int (nI 0)), (0, .ref hk), (1, .ref hn)]) C.1 C.2.1 dX0_countFree_1 rfl hl (by decide) rfl (fun ls hl => ?_)
  refine lv_iconst (v := nI 0) C.1 C.2.1 dX0_countFree_2 (by decide) ?_
  refine lv_istore_n (lv' := [(3, .int (nI 0)), (2, .int (nI 0)), (0, .ref hk), (1, .ref hn)]) C.1 C.2.1 dX0_countFree_3 rfl hl (by decide) rfl (fun ls hl => ?_)
  have lp4 : ∀ (n4 : Nat) (z : Nat) (q : Nat), w - z < n4 → (z ≤ w) → (q = cnt (fun i => !Bn 2 (Nn 1 (Nk 1 i))) z) → ∀ (ls : Array Slot), lv_has ls 4 [(3, .int (nI z)), (2, .int (nI q)), (0, .ref hk), (1, .ref hn)] → W p l e ({ frames := 1, cells := 0, slots := 0, locals := 21 }) s m [.ref hk, .ref hn].toArray below meth c s.heap [] 0 0 (MQ below (vp_Si (fun (r : Int32) => r = nI (cnt (fun i => !Bn 2 (Nn 1 (Nk 1 i))) w))) [.ref hk, .ref hn].toArray s 0 0 (fun _ => False)) (F0 m 4 ls []) := by
    intro n4
    induction n4 with
    | zero => intro z q hme4; exact absurd hme4 (Nat.not_lt_zero _)
    | succ n4 ih4 =>
      intro z q hme4 hz hq ls hl
      refine lv_iload_n C.1 C.2.1 dX0_countFree_4 rfl (lv_at hl 0 rfl) ?_
      refine lv_aload_n C.1 C.2.1 dX0_countFree_5 rfl (lv_at hl 2 rfl) ?_
      refine o_get (v := .ref (ak 1)) C S Ok rfl inX0_countFree_X0 1 (Nat.le_of_ble_eq_true rfl) lkX0_countFree_34 rfl dX0_countFree_6 ?_
      refine q_alenN (n := w) C S ((Ok.2 1 (Nat.le_of_ble_eq_true rfl)).1 rfl) dX0_countFree_9 ?_
      refine q_ge (tgt := 35) C (by omega) (by omega) dX0_countFree_10 (by decide) (fun c10 => ?_) (fun c10 => ?_)
      · refine lv_iload_n C.1 C.2.1 dX0_countFree_35 rfl (lv_at hl 1 rfl) ?_
        exact q_retSi C hr hlk (by rw [hq, show z = w by omega]) dX0_countFree_36
      · refine lv_aload_n C.1 C.2.1 dX0_countFree_13 rfl (lv_at hl 3 rfl) ?_
        refine lv_aload_n C.1 C.2.1 dX0_countFree_14 rfl (lv_at hl 2 rfl) ?_
        refine o_get (v := .ref (ak 1)) C S Ok rfl inX0_countFree_X0 1 (Nat.le_of_ble_eq_true rfl) lkX0_countFree_34 rfl dX0_countFree_15 ?_
        refine lv_iload_n C.1 C.2.1 dX0_countFree_18 rfl (lv_at hl 0 rfl) ?_
        refine o_nald (x := (Nk 1) z) C S Ok 1 (Nat.le_of_ble_eq_true rfl) rfl z rfl (show z < w from by first | omega | exact hL _ | exact hP _ | exact hF _) (show w < 2 ^ 31 by omega) rfl dX0_countFree_19 ?_
        refine q_callSi (As := [.int (nI ((Nk 1) z))]) (rest := []) C S hl On.1 rfl (c_isKnown On ((Nk 1) z) (by first | omega | exact hL _ | exact hP _ | exact hF _) hL) (cwV 1 C.2.2.2.2 gX0_countFree_X1_isKnown rfl rfl rfl (by decide +kernel) ⟨Nat.le_of_ble_eq_true rfl, Nat.le_of_ble_eq_true rfl⟩) rfl rfl (Nat.le_of_ble_eq_true rfl) ⟨Nat.le_of_ble_eq_true rfl, Nat.le_of_ble_eq_true rfl⟩ dX0_countFree_20 (fun v hv => ?_)
        subst hv
        refine q_ifneB (tgt := 29) C dX0_countFree_23 (by decide) (fun c23 => ?_) (fun c23 => ?_)
        · refine q_iinc (d := 1) (lv' := [(3, .int (nI (z + 1))), (2, .int (nI q)), (0, .ref hk), (1, .ref hn)]) C dX0_countFree_29 hl (k := 0) rfl (by decide) (by decide) rfl (fun ls hl => ?_)
          refine lv_goto (tgt := 4) C.1 C.2.1 dX0_countFree_32 (by decide) ?_
          exact ih4 (z + 1) q (by omega) (by omega) (by rw [hq, cnt_f (by show (!Bn 2 (Nn 1 (Nk 1 z))) = false; rw [c23]; rfl)]) _ (lv_sub hl [0, 1, 2, 3] rfl)
        · refine q_iinc (d := 1) (lv' := [(2, .int (nI (q + 1))), (3, .int (nI z)), (0, .ref hk), (1, .ref hn)]) C dX0_countFree_26 hl (k := 1) rfl (by decide) (by decide) rfl (fun ls hl => ?_)
          refine q_iinc (d := 1) (lv' := [(3, .int (nI (z + 1))), (2, .int (nI (q + 1))), (0, .ref hk), (1, .ref hn)]) C dX0_countFree_29 hl (k := 1) rfl (by decide) (by decide) rfl (fun ls hl => ?_)
          refine lv_goto (tgt := 4) C.1 C.2.1 dX0_countFree_32 (by decide) ?_
          exact ih4 (z + 1) (q + 1) (by omega) (by omega) (by rw [hq, cnt_t (by show (!Bn 2 (Nn 1 (Nk 1 z))) = true; rw [c23]; rfl)]) _ (lv_sub hl [0, 1, 2, 3] rfl)
  exact lp4 (w + 1) 0 0 (by omega) (by omega) rfl _ (lv_sub hl [0, 1, 2, 3] rfl)
theorem inX0_holds_X0 : ∀ w ∈ u_ws RX0 TX0 4, w ∈ wsX0_holds := (fun _ h => (List.mem_cons_of_mem _ (List.mem_append_left _ (List.mem_append_right _ h))))
theorem lkX0_holds_34 : Cond.fieldLink RX0 34 (TX0 1).1 (TX0 1).2.1 (TX0 1).2.2.1 ∈ wsX0_holds := List.mem_of_getElem? (i := 1) rfl
set_option maxHeartbeats 4000000 in
set_option maxRecDepth 100000 in
theorem c_holds {l : Launch} {G : fw_G} {A : Nat → Prop} {f0 : fw_F} {bk hk : Nat} {w : Nat} {ak : Nat → Nat} {Ik : Nat → Nat} {Nk : Nat → Nat → Nat} {Bk : Nat → Nat → Bool} {Jk : Nat → Nat → Int64} {bn hn : Nat} {an : Nat → Nat} {In : Nat → Nat} {Nn : Nat → Nat → Nat} {Bn : Nat → Nat → Bool} {Jn : Nat → Nat → Int64} (Ok : isO G (dK w) f0 bk hk ak Ik Nk Bk Jk) (On : isO G dN f0 bn hn an In Nn Bn Jn) (x : Nat) (hx : x < 64) (hw : w ≤ 32) (hP : ∀ i, Nk 1 i < 64) (hL : ∀ i, Nn 1 i < 64)  : Met l yX0_holds wsX0_holds ({ frames := 1, cells := 0, slots := 0, locals := 21 }) (va_Pc [.ref hk, .int (nI x), .ref hn] (fw_P G A f0)) (vp_Si (fun (r : Int32) => r = bI (anyb (fun i => decide (Nn 1 (Nk 1 i) = Nn 1 x)) w))) 0 0 (fun _ => False) := by
  refine q_head rfl (by decide) (Nat.le_of_ble_eq_true rfl) ?_
  intro p e s m below meth c ls C hr hlk hnm P hl
  have S := P.start
  have hl : lv_has ls 4 [(0, .ref hk), (1, .int (nI x)), (2, .ref hn)] := hl
  refine lv_iconst (v := nI 0) C.1 C.2.1 dX0_holds_0 (by decide) ?_
  refine lv_istore_n (lv' := [(3, .int (nI 0)), (0, .ref hk), (1, .int (nI x)), (2, .ref hn)]) C.1 C.2.1 dX0_holds_1 rfl hl (by decide) rfl (fun ls hl => ?_)
  have lp2 : ∀ (n2 : Nat) (z : Nat), w - z < n2 → (z ≤ w) → (∀ i, i < z → Nn 1 (Nk 1 i) ≠ Nn 1 x) → ∀ (ls : Array Slot), lv_has ls 4 [(3, .int (nI z)), (0, .ref hk), (1, .int (nI x)), (2, .ref hn)] → W p l e ({ frames := 1, cells := 0, slots := 0, locals := 21 }) s m [.ref hk, .int (nI x), .ref hn].toArray below meth c s.heap [] 0 0 (MQ below (vp_Si (fun (r : Int32) => r = bI (anyb (fun i => decide (Nn 1 (Nk 1 i) = Nn 1 x)) w))) [.ref hk, .int (nI x), .ref hn].toArray s 0 0 (fun _ => False)) (F0 m 2 ls []) := by
    intro n2
    induction n2 with
    | zero => intro z hme2; exact absurd hme2 (Nat.not_lt_zero _)
    | succ n2 ih2 =>
      intro z hme2 hz hq ls hl
      refine lv_iload_n C.1 C.2.1 dX0_holds_2 rfl (lv_at hl 0 rfl) ?_
      refine lv_aload_n C.1 C.2.1 dX0_holds_3 rfl (lv_at hl 1 rfl) ?_
      refine o_get (v := .ref (ak 1)) C S Ok rfl inX0_holds_X0 1 (Nat.le_of_ble_eq_true rfl) lkX0_holds_34 rfl dX0_holds_4 ?_
      refine q_alenN (n := w) C S ((Ok.2 1 (Nat.le_of_ble_eq_true rfl)).1 rfl) dX0_holds_7 ?_
      refine q_ge (tgt := 37) C (by omega) (by omega) dX0_holds_8 (by decide) (fun c8 => ?_) (fun c8 => ?_)
      · refine lv_iconst (v := nI 0) C.1 C.2.1 dX0_holds_37 (by decide) ?_
        exact q_retSz (b := false) C hr hlk rfl (by show bI false = bI _; rw [anyb_f (fun i hi => by exact decide_eq_false (hq i (by omega)))]) dX0_holds_38
      · refine lv_aload_n C.1 C.2.1 dX0_holds_11 rfl (lv_at hl 3 rfl) ?_
        refine lv_aload_n C.1 C.2.1 dX0_holds_12 rfl (lv_at hl 1 rfl) ?_
        refine o_get (v := .ref (ak 1)) C S Ok rfl inX0_holds_X0 1 (Nat.le_of_ble_eq_true rfl) lkX0_holds_34 rfl dX0_holds_13 ?_
        refine lv_iload_n C.1 C.2.1 dX0_holds_16 rfl (lv_at hl 0 rfl) ?_
        refine o_nald (x := (Nk 1) z) C S Ok 1 (Nat.le_of_ble_eq_true rfl) rfl z rfl (show z < w from by first | omega | exact hL _ | exact hP _ | exact hF _) (show w < 2 ^ 31 by omega) rfl dX0_holds_17 ?_
        refine q_callSi (As := [.int (nI ((Nk 1) z))]) (rest := []) C S hl On.1 rfl (c_leastOf On ((Nk 1) z) (by first | omega | exact hL _ | exact hP _ | exact hF _) ) (cwV 1 C.2.2.2.2 gX0_holds_X1_leastOf rfl rfl rfl (by decide +kernel) ⟨Nat.le_of_ble_eq_true rfl, Nat.le_of_ble_eq_true rfl⟩) rfl rfl (Nat.le_of_ble_eq_true rfl) ⟨Nat.le_of_ble_eq_true rfl, Nat.le_of_ble_eq_true rfl⟩ dX0_holds_18 (fun v hv => ?_)
        subst hv
        refine lv_aload_n C.1 C.2.1 dX0_holds_21 rfl (lv_at hl 3 rfl) ?_
        refine lv_iload_n C.1 C.2.1 dX0_holds_22 rfl (lv_at hl 2 rfl) ?_
        refine q_callSi (As := [.int (nI x)]) (rest := [.int (nI ((Nn 1) ((Nk 1) z)))]) C S hl On.1 rfl (c_leastOf On x (by first | omega | exact hL _ | exact hP _ | exact hF _) ) (cwV 1 C.2.2.2.2 gX0_holds_X1_leastOf rfl rfl rfl (by decide +kernel) ⟨Nat.le_of_ble_eq_true rfl, Nat.le_of_ble_eq_true rfl⟩) rfl rfl (Nat.le_of_ble_eq_true rfl) ⟨Nat.le_of_ble_eq_true rfl, Nat.le_of_ble_eq_true rfl⟩ dX0_holds_23 (fun v hv => ?_)
        subst hv
        refine q_nee (tgt := 31) C (Nat.lt_trans (hL _) (by decide)) (Nat.lt_trans (hL _) (by decide)) dX0_holds_26 (by decide) (fun c26 => ?_) (fun c26 => ?_)
        · refine q_iinc (d := 1) (lv' := [(3, .int (nI (z + 1))), (0, .ref hk), (1, .int (nI x)), (2, .ref hn)]) C dX0_holds_31 hl (k := 0) rfl (by decide) (by decide) rfl (fun ls hl => ?_)
          refine lv_goto (tgt := 2) C.1 C.2.1 dX0_holds_34 (by decide) ?_
          exact ih2 (z + 1) (by omega) (by omega) (fun i hi => by rcases Nat.lt_or_ge i z with q | q; exact hq i q; rw [show i = z by omega]; exact c26) _ (lv_sub hl [0, 1, 2, 3] rfl)
        · refine lv_iconst (v := nI 1) C.1 C.2.1 dX0_holds_29 (by decide) ?_
          exact q_retSz (b := true) C hr hlk rfl (by show bI true = bI _; rw [anyb_t (i := z) (by omega) (by exact decide_eq_true c26)]) dX0_holds_30
  exact lp2 (w + 1) 0 (by omega) (by omega) (fun i hi => absurd hi (Nat.not_lt_zero i)) _ (lv_sub hl [0, 1, 2, 3] rfl)
theorem inX0_sum_X0 : ∀ w ∈ u_ws RX0 TX0 4, w ∈ wsX0_sum := (fun _ h => (List.mem_cons_of_mem _ (List.mem_append_left _ (List.mem_append_right _ h))))
theorem lkX0_sum_34 : Cond.fieldLink RX0 34 (TX0 1).1 (TX0 1).2.1 (TX0 1).2.2.1 ∈ wsX0_sum := List.mem_of_getElem? (i := 1) rfl
theorem lkX0_sum_42 : Cond.fieldLink RX0 42 (TX0 3).1 (TX0 3).2.1 (TX0 3).2.2.1 ∈ wsX0_sum := List.mem_of_getElem? (i := 2) rfl
set_option maxHeartbeats 4000000 in
set_option maxRecDepth 100000 in
theorem c_sum {l : Launch} {G : fw_G} {A : Nat → Prop} {f0 : fw_F} {bk hk : Nat} {w : Nat} {ak : Nat → Nat} {Ik : Nat → Nat} {Nk : Nat → Nat → Nat} {Bk : Nat → Nat → Bool} {Jk : Nat → Nat → Int64} {bn hn : Nat} {an : Nat → Nat} {In : Nat → Nat} {Nn : Nat → Nat → Nat} {Bn : Nat → Nat → Bool} {Jn : Nat → Nat → Int64} (Ok : isO G (dK w) f0 bk hk ak Ik Nk Bk Jk) (On : isO G dN f0 bn hn an In Nn Bn Jn) (hw : w ≤ 32) (hP : ∀ i, Nk 1 i < 64) (hL : ∀ i, Nn 1 i < 64)  : Met l yX0_sum wsX0_sum ({ frames := 1, cells := 0, slots := 0, locals := 21 }) (va_Pc [.ref hk, .ref hn] (fw_P G A f0)) (vp_Sl (fun (r : Int64) => r = sumL (fun i => Jk 3 i * Jn 3 (Nn 1 (Nk 1 i))) w)) 0 0 (fun _ => False) := by
  refine q_head rfl (by decide) (Nat.le_of_ble_eq_true rfl) ?_
  intro p e s m below meth c ls C hr hlk hnm P hl
  have S := P.start
  have hl : lv_has ls 5 [(0, .ref hk), (1, .ref hn)] := hl
  refine lv_lconst (v := 0) C.1 C.2.1 dX0_sum_0 (by decide) ?_
  refine lv_lstore_n (lv' := [(2, .long 0), (0, .ref hk), (1, .ref hn)]) C.1 C.2.1 dX0_sum_1 rfl hl (by decide) rfl (fun ls hl => ?_)
  refine lv_iconst (v := nI 0) C.1 C.2.1 dX0_sum_2 (by decide) ?_
  refine lv_istore (lv' := [(4, .int (nI 0)), (2, .long 0), (0, .ref hk), (1, .ref hn)]) C.1 C.2.1 dX0_sum_3 hl (by decide) rfl (fun ls hl => ?_)
  have lp5 : ∀ (n5 : Nat) (z : Nat) (q : Int64), w - z < n5 → (z ≤ w) → (q = sumL (fun i => Jk 3 i * Jn 3 (Nn 1 (Nk 1 i))) z) → ∀ (ls : Array Slot), lv_has ls 5 [(4, .int (nI z)), (2, .long q), (0, .ref hk), (1, .ref hn)] → W p l e ({ frames := 1, cells := 0, slots := 0, locals := 21 }) s m [.ref hk, .ref hn].toArray below meth c s.heap [] 0 0 (MQ below (vp_Sl (fun (r : Int64) => r = sumL (fun i => Jk 3 i * Jn 3 (Nn 1 (Nk 1 i))) w)) [.ref hk, .ref hn].toArray s 0 0 (fun _ => False)) (F0 m 5 ls []) := by
    intro n5
    induction n5 with
    | zero => intro z q hme5; exact absurd hme5 (Nat.not_lt_zero _)
    | succ n5 ih5 =>
      intro z q hme5 hz hq ls hl
      refine lv_iload C.1 C.2.1 dX0_sum_5 (lv_at hl 0 rfl) ?_
      refine lv_aload_n C.1 C.2.1 dX0_sum_7 rfl (lv_at hl 2 rfl) ?_
      refine o_get (v := .ref (ak 1)) C S Ok rfl inX0_sum_X0 1 (Nat.le_of_ble_eq_true rfl) lkX0_sum_34 rfl dX0_sum_8 ?_
      refine q_alenN (n := w) C S ((Ok.2 1 (Nat.le_of_ble_eq_true rfl)).1 rfl) dX0_sum_11 ?_
      refine q_ge (tgt := 43) C (by omega) (by omega) dX0_sum_12 (by decide) (fun c12 => ?_) (fun c12 => ?_)
      · refine lv_lload_n C.1 C.2.1 dX0_sum_43 rfl (lv_at hl 1 rfl) ?_
        exact q_retSl C hr hlk (by rw [hq, show z = w by omega]) dX0_sum_44
      · refine lv_lload_n C.1 C.2.1 dX0_sum_15 rfl (lv_at hl 1 rfl) ?_
        refine lv_aload_n C.1 C.2.1 dX0_sum_16 rfl (lv_at hl 2 rfl) ?_
        refine o_get (v := .ref (ak 3)) C S Ok rfl inX0_sum_X0 3 (Nat.le_of_ble_eq_true rfl) lkX0_sum_42 rfl dX0_sum_17 ?_
        refine lv_iload C.1 C.2.1 dX0_sum_20 (lv_at hl 0 rfl) ?_
        refine o_lald (x := (Jk 3) z) C S Ok 3 (Nat.le_of_ble_eq_true rfl) rfl z rfl (show z < w from by first | omega | exact hL _ | exact hP _ | exact hF _) (show w < 2 ^ 31 by omega) rfl dX0_sum_22 ?_
        refine lv_aload_n C.1 C.2.1 dX0_sum_23 rfl (lv_at hl 3 rfl) ?_
        refine lv_aload_n C.1 C.2.1 dX0_sum_24 rfl (lv_at hl 2 rfl) ?_
        refine o_get (v := .ref (ak 1)) C S Ok rfl inX0_sum_X0 1 (Nat.le_of_ble_eq_true rfl) lkX0_sum_34 rfl dX0_sum_25 ?_
        refine lv_iload C.1 C.2.1 dX0_sum_28 (lv_at hl 0 rfl) ?_
        refine o_nald (x := (Nk 1) z) C S Ok 1 (Nat.le_of_ble_eq_true rfl) rfl z rfl (show z < w from by first | omega | exact hL _ | exact hP _ | exact hF _) (show w < 2 ^ 31 by omega) rfl dX0_sum_30 ?_
        refine q_callSl (As := [.int (nI ((Nk 1) z))]) (rest := [.long ((Jk 3) z), .long q]) C S hl On.1 rfl (c_numberOf On ((Nk 1) z) (by first | omega | exact hL _ | exact hP _ | exact hF _) hL) (cwV 1 C.2.2.2.2 gX0_sum_X1_numberOf rfl rfl rfl (by decide +kernel) ⟨Nat.le_of_ble_eq_true rfl, Nat.le_of_ble_eq_true rfl⟩) rfl rfl (Nat.le_of_ble_eq_true rfl) ⟨Nat.le_of_ble_eq_true rfl, Nat.le_of_ble_eq_true rfl⟩ dX0_sum_31 (fun v hv => ?_)
        subst hv
        refine lv_lmul C.1 C.2.1 dX0_sum_34 ?_
        refine lv_ladd C.1 C.2.1 dX0_sum_35 ?_
        refine lv_lstore_n (lv' := [(2, .long (q + (((Jk 3) z) * ((Jn 3) ((Nn 1) ((Nk 1) z)))))), (4, .int (nI z)), (0, .ref hk), (1, .ref hn)]) C.1 C.2.1 dX0_sum_36 rfl hl (by decide) rfl (fun ls hl => ?_)
        refine q_iinc (d := 1) (lv' := [(4, .int (nI (z + 1))), (2, .long (q + (((Jk 3) z) * ((Jn 3) ((Nn 1) ((Nk 1) z)))))), (0, .ref hk), (1, .ref hn)]) C dX0_sum_37 hl (k := 1) rfl (by decide) (by decide) rfl (fun ls hl => ?_)
        refine lv_goto (tgt := 5) C.1 C.2.1 dX0_sum_40 (by decide) ?_
        exact ih5 (z + 1) (q + (((Jk 3) z) * ((Jn 3) ((Nn 1) ((Nk 1) z))))) (by omega) (by omega) (by rw [hq]; rfl) _ (lv_sub hl [0, 1, 2, 3] rfl)
  exact lp5 (w + 1) 0 0 (by omega) (by omega) rfl _ (lv_sub hl [0, 1, 2, 3] rfl)
theorem inX0_allUnlike_X0 : ∀ w ∈ u_ws RX0 TX0 4, w ∈ wsX0_allUnlike := (fun _ h => (List.mem_cons_of_mem _ (List.mem_append_left _ (List.mem_append_right _ h))))
theorem lkX0_allUnlike_34 : Cond.fieldLink RX0 34 (TX0 1).1 (TX0 1).2.1 (TX0 1).2.2.1 ∈ wsX0_allUnlike := List.mem_of_getElem? (i := 1) rfl
set_option maxHeartbeats 4000000 in
set_option maxRecDepth 100000 in
theorem c_allUnlike {l : Launch} {G : fw_G} {A : Nat → Prop} {f0 : fw_F} {bk hk : Nat} {w : Nat} {ak : Nat → Nat} {Ik : Nat → Nat} {Nk : Nat → Nat → Nat} {Bk : Nat → Nat → Bool} {Jk : Nat → Nat → Int64} {bn hn : Nat} {an : Nat → Nat} {In : Nat → Nat} {Nn : Nat → Nat → Nat} {Bn : Nat → Nat → Bool} {Jn : Nat → Nat → Int64} (Ok : isO G (dK w) f0 bk hk ak Ik Nk Bk Jk) (On : isO G dN f0 bn hn an In Nn Bn Jn) (hw : w ≤ 32) (hP : ∀ i, Nk 1 i < 64) (hL : ∀ i, Nn 1 i < 64)  : Met l yX0_allUnlike wsX0_allUnlike ({ frames := 1, cells := 0, slots := 0, locals := 21 }) (va_Pc [.ref hk, .ref hn] (fw_P G A f0)) (vp_Si (fun (r : Int32) => r = bI (unl (fun i => Jn 3 (Nn 1 (Nk 1 i))) w))) 0 0 (fun _ => False) := by
  refine q_head rfl (by decide) (Nat.le_of_ble_eq_true rfl) ?_
  intro p e s m below meth c ls C hr hlk hnm P hl
  have S := P.start
  have hl : lv_has ls 6 [(0, .ref hk), (1, .ref hn)] := hl
  refine lv_iconst (v := nI 1) C.1 C.2.1 dX0_allUnlike_0 (by decide) ?_
  refine lv_istore_n (lv' := [(2, .int (nI 1)), (0, .ref hk), (1, .ref hn)]) C.1 C.2.1 dX0_allUnlike_1 rfl hl (by decide) rfl (fun ls hl => ?_)
  have lp2 : ∀ (n2 : Nat) (z : Nat), w + 1 - z < n2 → (1 ≤ z ∧ z ≤ w + 1) → (∀ i j, i < z → j < i → Jn 3 (Nn 1 (Nk 1 j)) ≠ Jn 3 (Nn 1 (Nk 1 i))) → ∀ (ls : Array Slot), lv_has ls 6 [(2, .int (nI z)), (0, .ref hk), (1, .ref hn)] → W p l e ({ frames := 1, cells := 0, slots := 0, locals := 21 }) s m [.ref hk, .ref hn].toArray below meth c s.heap [] 0 0 (MQ below (vp_Si (fun (r : Int32) => r = bI (unl (fun i => Jn 3 (Nn 1 (Nk 1 i))) w))) [.ref hk, .ref hn].toArray s 0 0 (fun _ => False)) (F0 m 2 ls []) := by
    intro n2
    induction n2 with
    | zero => intro z hme2; exact absurd hme2 (Nat.not_lt_zero _)
    | succ n2 ih2 =>
      intro z hme2 hz hz2 ls hl
      refine lv_iload_n C.1 C.2.1 dX0_allUnlike_2 rfl (lv_at hl 0 rfl) ?_
      refine lv_aload_n C.1 C.2.1 dX0_allUnlike_3 rfl (lv_at hl 1 rfl) ?_
      refine o_get (v := .ref (ak 1)) C S Ok rfl inX0_allUnlike_X0 1 (Nat.le_of_ble_eq_true rfl) lkX0_allUnlike_34 rfl dX0_allUnlike_4 ?_
      refine q_alenN (n := w) C S ((Ok.2 1 (Nat.le_of_ble_eq_true rfl)).1 rfl) dX0_allUnlike_7 ?_
      refine q_ge (tgt := 61) C (by omega) (by omega) dX0_allUnlike_8 (by decide) (fun c8 => ?_) (fun c8 => ?_)
      · refine lv_iconst (v := nI 1) C.1 C.2.1 dX0_allUnlike_61 (by decide) ?_
        exact q_retSz (b := true) C hr hlk rfl (by show bI true = bI _; rw [unl_iff.mpr (fun i j hi hj => hz2 i j (by omega) hj)]) dX0_allUnlike_62
      · refine lv_aload_n C.1 C.2.1 dX0_allUnlike_11 rfl (lv_at hl 2 rfl) ?_
        refine lv_aload_n C.1 C.2.1 dX0_allUnlike_12 rfl (lv_at hl 1 rfl) ?_
        refine o_get (v := .ref (ak 1)) C S Ok rfl inX0_allUnlike_X0 1 (Nat.le_of_ble_eq_true rfl) lkX0_allUnlike_34 rfl dX0_allUnlike_13 ?_
        refine lv_iload_n C.1 C.2.1 dX0_allUnlike_16 rfl (lv_at hl 0 rfl) ?_
        refine o_nald (x := (Nk 1) z) C S Ok 1 (Nat.le_of_ble_eq_true rfl) rfl z rfl (show z < w from by first | omega | exact hL _ | exact hP _ | exact hF _) (show w < 2 ^ 31 by omega) rfl dX0_allUnlike_17 ?_
        refine q_callSl (As := [.int (nI ((Nk 1) z))]) (rest := []) C S hl On.1 rfl (c_numberOf On ((Nk 1) z) (by first | omega | exact hL _ | exact hP _ | exact hF _) hL) (cwV 1 C.2.2.2.2 gX0_allUnlike_X1_numberOf rfl rfl rfl (by decide +kernel) ⟨Nat.le_of_ble_eq_true rfl, Nat.le_of_ble_eq_true rfl⟩) rfl rfl (Nat.le_of_ble_eq_true rfl) ⟨Nat.le_of_ble_eq_true rfl, Nat.le_of_ble_eq_true rfl⟩ dX0_allUnlike_18 (fun v hv => ?_)
        subst hv
        refine lv_lstore_n (lv' := [(3, .long ((Jn 3) ((Nn 1) ((Nk 1) z)))), (2, .int (nI z)), (0, .ref hk), (1, .ref hn)]) C.1 C.2.1 dX0_allUnlike_21 rfl hl (by decide) rfl (fun ls hl => ?_)
        refine lv_iconst (v := nI 0) C.1 C.2.1 dX0_allUnlike_22 (by decide) ?_
        refine lv_istore (lv' := [(5, .int (nI 0)), (3, .long ((Jn 3) ((Nn 1) ((Nk 1) z)))), (2, .int (nI z)), (0, .ref hk), (1, .ref hn)]) C.1 C.2.1 dX0_allUnlike_23 hl (by decide) rfl (fun ls hl => ?_)
        have lp25 : ∀ (n25 : Nat) (q : Nat), z - q < n25 → (q ≤ z) → (∀ j, j < q → Jn 3 (Nn 1 (Nk 1 j)) ≠ Jn 3 (Nn 1 (Nk 1 z))) → ∀ (ls : Array Slot), lv_has ls 6 [(5, .int (nI q)), (3, .long ((Jn 3) ((Nn 1) ((Nk 1) z)))), (2, .int (nI z)), (0, .ref hk), (1, .ref hn)] → W p l e ({ frames := 1, cells := 0, slots := 0, locals := 21 }) s m [.ref hk, .ref hn].toArray below meth c s.heap [] 0 0 (MQ below (vp_Si (fun (r : Int32) => r = bI (unl (fun i => Jn 3 (Nn 1 (Nk 1 i))) w))) [.ref hk, .ref hn].toArray s 0 0 (fun _ => False)) (F0 m 25 ls []) := by
          intro n25
          induction n25 with
          | zero => intro q hme25; exact absurd hme25 (Nat.not_lt_zero _)
          | succ n25 ih25 =>
            intro q hme25 hq hq2 ls hl
            refine lv_iload C.1 C.2.1 dX0_allUnlike_25 (lv_at hl 0 rfl) ?_
            refine lv_iload_n C.1 C.2.1 dX0_allUnlike_27 rfl (lv_at hl 2 rfl) ?_
            refine q_ge (tgt := 55) C (by omega) (by omega) dX0_allUnlike_28 (by decide) (fun c28 => ?_) (fun c28 => ?_)
            · refine q_iinc (d := 1) (lv' := [(2, .int (nI (z + 1))), (5, .int (nI q)), (3, .long ((Jn 3) ((Nn 1) ((Nk 1) z)))), (0, .ref hk), (1, .ref hn)]) C dX0_allUnlike_55 hl (k := 2) rfl (by decide) (by decide) rfl (fun ls hl => ?_)
              refine lv_goto (tgt := 2) C.1 C.2.1 dX0_allUnlike_58 (by decide) ?_
              exact ih2 (z + 1) (by omega) (by omega) (fun i j hi hj => by rcases Nat.lt_or_ge i z with a | a; exact hz2 i j a hj; rw [show i = z by omega] at hj ⊢; exact hq2 j (by omega)) _ (lv_sub hl [0, 3, 4] rfl)
            · refine lv_aload_n C.1 C.2.1 dX0_allUnlike_31 rfl (lv_at hl 4 rfl) ?_
              refine lv_aload_n C.1 C.2.1 dX0_allUnlike_32 rfl (lv_at hl 3 rfl) ?_
              refine o_get (v := .ref (ak 1)) C S Ok rfl inX0_allUnlike_X0 1 (Nat.le_of_ble_eq_true rfl) lkX0_allUnlike_34 rfl dX0_allUnlike_33 ?_
              refine lv_iload C.1 C.2.1 dX0_allUnlike_36 (lv_at hl 0 rfl) ?_
              refine o_nald (x := (Nk 1) q) C S Ok 1 (Nat.le_of_ble_eq_true rfl) rfl q rfl (show q < w from by first | omega | exact hL _ | exact hP _ | exact hF _) (show w < 2 ^ 31 by omega) rfl dX0_allUnlike_38 ?_
              refine q_callSl (As := [.int (nI ((Nk 1) q))]) (rest := []) C S hl On.1 rfl (c_numberOf On ((Nk 1) q) (by first | omega | exact hL _ | exact hP _ | exact hF _) hL) (cwV 1 C.2.2.2.2 gX0_allUnlike_X1_numberOf rfl rfl rfl (by decide +kernel) ⟨Nat.le_of_ble_eq_true rfl, Nat.le_of_ble_eq_true rfl⟩) rfl rfl (Nat.le_of_ble_eq_true rfl) ⟨Nat.le_of_ble_eq_true rfl, Nat.le_of_ble_eq_true rfl⟩ dX0_allUnlike_39 (fun v hv => ?_)
              subst hv
              refine lv_lload_n C.1 C.2.1 dX0_allUnlike_42 rfl (lv_at hl 1 rfl) ?_
              refine q_lcmp_ne (tgt := 49) C dX0_allUnlike_43 dX0_allUnlike_44 (by decide) (fun c43 => ?_) (fun c43 => ?_)
              · refine q_iinc (d := 1) (lv' := [(5, .int (nI (q + 1))), (3, .long ((Jn 3) ((Nn 1) ((Nk 1) z)))), (2, .int (nI z)), (0, .ref hk), (1, .ref hn)]) C dX0_allUnlike_49 hl (k := 0) rfl (by decide) (by decide) rfl (fun ls hl => ?_)
                refine lv_goto (tgt := 25) C.1 C.2.1 dX0_allUnlike_52 (by decide) ?_
                exact ih25 (q + 1) (by omega) (by omega) (fun j hj => by rcases Nat.lt_or_ge j q with a | a; exact hq2 j a; rw [show j = q by omega]; exact c43) _ (lv_sub hl [0, 1, 2, 3, 4] rfl)
              · refine lv_iconst (v := nI 0) C.1 C.2.1 dX0_allUnlike_47 (by decide) ?_
                exact q_retSz (b := false) C hr hlk rfl (by show bI false = bI _; rw [unl_f (i := z) (j := q) (by omega) (by omega) c43]) dX0_allUnlike_48
        exact lp25 (z + 1) 0 (by omega) (by omega) (fun i hi => absurd hi (Nat.not_lt_zero i)) _ (lv_sub hl [0, 1, 2, 3, 4] rfl)
  exact lp2 (w + 2) 1 (by omega) (by omega) (fun i j hi hj => by omega) _ (lv_sub hl [0, 1, 2] rfl)
