theorem inX5_tells_X5 : ∀ w ∈ u_ws RX5 TX5 34, w ∈ wsX5_tells := (fun _ h => (List.mem_cons_of_mem _ (List.mem_append_right _ h)))
theorem lkX5_tells_9 : Cond.fieldLink RX5 9 (TX5 1).1 (TX5 1).2.1 (TX5 1).2.2.1 ∈ wsX5_tells := List.mem_of_getElem? (i := 1) rfl
theorem lkX5_tells_91 : Cond.fieldLink RX5 91 (TX5 6).1 (TX5 6).2.1 (TX5 6).2.2.1 ∈ wsX5_tells := List.mem_of_getElem? (i := 2) rfl
theorem lkX5_tells_13 : Cond.fieldLink RX5 13 (TX5 2).1 (TX5 2).2.1 (TX5 2).2.2.1 ∈ wsX5_tells := List.mem_of_getElem? (i := 3) rfl
theorem lkX5_tells_16 : Cond.fieldLink RX5 16 (TX5 3).1 (TX5 3).2.1 (TX5 3).2.2.1 ∈ wsX5_tells := List.mem_of_getElem? (i := 4) rfl
theorem lkX5_tells_19 : Cond.fieldLink RX5 19 (TX5 4).1 (TX5 4).2.1 (TX5 4).2.2.1 ∈ wsX5_tells := List.mem_of_getElem? (i := 5) rfl
theorem lkX5_tells_23 : Cond.fieldLink RX5 23 (TX5 5).1 (TX5 5).2.1 (TX5 5).2.2.1 ∈ wsX5_tells := List.mem_of_getElem? (i := 6) rfl
set_option maxHeartbeats 4000000 in
set_option maxRecDepth 100000 in
theorem m_tells {l : Launch} {G : fw_G} {A : Nat → Prop} {f0 : fw_F} {h : Nat} {a : Nat → Nat} {I : Nat → Nat} {N : Nat → Nat → Nat} {B : Nat → Nat → Bool} {J : Nat → Nat → Int64} (O : isO G dM f0 2000 h a I N B J) (kd x y : Nat) (u v : Int64) (hkd : kd ≤ 2) (hx : x < 64) (hy : y < 64) (hM : mOK I N) (h6 : I 6 < 6400)  : Met l yX5_tells wsX5_tells ({ frames := 3, cells := 0, slots := 0, locals := 70 }) (va_Pc [.ref h, .int (nI kd), .int (nI x), .int (nI y), .long u, .long v] (fw_P G A f0)) (va_Qi (fun (r : Int32) (f1 : fw_F) => tlP G f0 h a I N B J kd x y u v r f1) (fw_B G A) A) 0 0 A := by
  refine q_head rfl (by decide) (Nat.le_of_ble_eq_true rfl) ?_
  intro p e s m below meth c ls C hr hlk hnm P hl
  have S := P.start
  have hl : lv_has ls 9 [(0, .ref h), (1, .int (nI kd)), (2, .int (nI x)), (3, .int (nI y)), (4, .long u), (6, .long v)] := hl
  have F := fw_fr_rf f0 2000 2035
  have hM0 := hM
  obtain ⟨⟨hm0, hm6, hm9, hm15, hm19⟩, ⟨hs1, hs2, hs3⟩, ⟨hP7, hk10, hk11, hk12⟩, hL, hF⟩ := hM
  have hMt : mOK (tlI I) (tlN N (I 6) kd x y) := ⟨⟨hm0, (by show I 6 + 1 ≤ 6400; omega), hm9, hm15, hm19⟩, ⟨up_all (P := fun z => z ≤ 2) hs1 hkd, up_all (P := fun z => z < 64) hs2 hx, up_all (P := fun z => z < 64) hs3 hy⟩, ⟨hP7, hk10, hk11, hk12⟩, hL, hF⟩
  refine lv_aload_n C.1 C.2.1 dX5_tells_0 rfl (lv_at hl 0 rfl) ?_
  refine o_get (v := .ref (a 1)) C S O rfl inX5_tells_X5 1 (Nat.le_of_ble_eq_true rfl) lkX5_tells_9 rfl dX5_tells_1 ?_
  refine lv_aload_n C.1 C.2.1 dX5_tells_4 rfl (lv_at hl 0 rfl) ?_
  refine o_get (v := .int (nI (I 6))) C S O rfl inX5_tells_X5 6 (Nat.le_of_ble_eq_true rfl) lkX5_tells_91 rfl dX5_tells_5 ?_
  refine lv_iload_n C.1 C.2.1 dX5_tells_8 rfl (lv_at hl 1 rfl) ?_
  refine o_nast C S O F 1 (Nat.le_of_ble_eq_true rfl) rfl (I 6) rfl (show (I 6) < 6400 from by first | omega | exact hL _ | exact hP _ | exact hF _) (Nat.le_of_ble_eq_true rfl) ⟨by decide, by decide⟩ dX5_tells_9 (fun f H locs S O F => ?_)
  refine lv_aload_n C.1 C.2.1 dX5_tells_10 rfl (lv_at hl 0 rfl) ?_
  refine o_get (v := .ref (a 2)) C S O rfl inX5_tells_X5 2 (Nat.le_of_ble_eq_true rfl) lkX5_tells_13 rfl dX5_tells_11 ?_
  refine lv_aload_n C.1 C.2.1 dX5_tells_14 rfl (lv_at hl 0 rfl) ?_
  refine o_get (v := .int (nI (I 6))) C S O rfl inX5_tells_X5 6 (Nat.le_of_ble_eq_true rfl) lkX5_tells_91 rfl dX5_tells_15 ?_
  refine lv_iload_n C.1 C.2.1 dX5_tells_18 rfl (lv_at hl 2 rfl) ?_
  refine o_nast C S O F 2 (Nat.le_of_ble_eq_true rfl) rfl (I 6) rfl (show (I 6) < 6400 from by first | omega | exact hL _ | exact hP _ | exact hF _) (Nat.le_of_ble_eq_true rfl) ⟨by decide, by decide⟩ dX5_tells_19 (fun f H locs S O F => ?_)
  refine lv_aload_n C.1 C.2.1 dX5_tells_20 rfl (lv_at hl 0 rfl) ?_
  refine o_get (v := .ref (a 3)) C S O rfl inX5_tells_X5 3 (Nat.le_of_ble_eq_true rfl) lkX5_tells_16 rfl dX5_tells_21 ?_
  refine lv_aload_n C.1 C.2.1 dX5_tells_24 rfl (lv_at hl 0 rfl) ?_
  refine o_get (v := .int (nI (I 6))) C S O rfl inX5_tells_X5 6 (Nat.le_of_ble_eq_true rfl) lkX5_tells_91 rfl dX5_tells_25 ?_
  refine lv_iload_n C.1 C.2.1 dX5_tells_28 rfl (lv_at hl 3 rfl) ?_
  refine o_nast C S O F 3 (Nat.le_of_ble_eq_true rfl) rfl (I 6) rfl (show (I 6) < 6400 from by first | omega | exact hL _ | exact hP _ | exact hF _) (Nat.le_of_ble_eq_true rfl) ⟨by decide, by decide⟩ dX5_tells_29 (fun f H locs S O F => ?_)
  refine lv_aload_n C.1 C.2.1 dX5_tells_30 rfl (lv_at hl 0 rfl) ?_
  refine o_get (v := .ref (a 4)) C S O rfl inX5_tells_X5 4 (Nat.le_of_ble_eq_true rfl) lkX5_tells_19 rfl dX5_tells_31 ?_
  refine lv_aload_n C.1 C.2.1 dX5_tells_34 rfl (lv_at hl 0 rfl) ?_
  refine o_get (v := .int (nI (I 6))) C S O rfl inX5_tells_X5 6 (Nat.le_of_ble_eq_true rfl) lkX5_tells_91 rfl dX5_tells_35 ?_
  refine lv_lload C.1 C.2.1 dX5_tells_38 (lv_at hl 4 rfl) ?_
  refine o_last C S O F 4 (Nat.le_of_ble_eq_true rfl) rfl (I 6) rfl (show (I 6) < 6400 from by first | omega | exact hL _ | exact hP _ | exact hF _) (Nat.le_of_ble_eq_true rfl) ⟨by decide, by decide⟩ dX5_tells_40 (fun f H locs S O F => ?_)
  refine lv_aload_n C.1 C.2.1 dX5_tells_41 rfl (lv_at hl 0 rfl) ?_
  refine o_get (v := .ref (a 5)) C S O rfl inX5_tells_X5 5 (Nat.le_of_ble_eq_true rfl) lkX5_tells_23 rfl dX5_tells_42 ?_
  refine lv_aload_n C.1 C.2.1 dX5_tells_45 rfl (lv_at hl 0 rfl) ?_
  refine o_get (v := .int (nI (I 6))) C S O rfl inX5_tells_X5 6 (Nat.le_of_ble_eq_true rfl) lkX5_tells_91 rfl dX5_tells_46 ?_
  refine lv_lload C.1 C.2.1 dX5_tells_49 (lv_at hl 5 rfl) ?_
  refine o_last C S O F 5 (Nat.le_of_ble_eq_true rfl) rfl (I 6) rfl (show (I 6) < 6400 from by first | omega | exact hL _ | exact hP _ | exact hF _) (Nat.le_of_ble_eq_true rfl) ⟨by decide, by decide⟩ dX5_tells_51 (fun f H locs S O F => ?_)
  refine lv_aload_n C.1 C.2.1 dX5_tells_52 rfl (lv_at hl 0 rfl) ?_
  refine lv_dup C.1 C.2.1 dX5_tells_53 rfl ?_
  refine o_get (v := .int (nI (I 6))) C S O rfl inX5_tells_X5 6 (Nat.le_of_ble_eq_true rfl) lkX5_tells_91 rfl dX5_tells_54 ?_
  refine lv_iconst (v := nI 1) C.1 C.2.1 dX5_tells_57 (by decide) ?_
  refine q_iadd C dX5_tells_58 ?_
  refine o_puti C S O F rfl inX5_tells_X5 tyX5 tyX5_ok nmX5 6 (Nat.le_of_ble_eq_true rfl) rfl lkX5_tells_91 rfl rfl ⟨by decide, by decide⟩ dX5_tells_59 (fun f H locs S O F => ?_)
  refine lv_aload_n C.1 C.2.1 dX5_tells_62 rfl (lv_at hl 0 rfl) ?_
  refine q_callQi (As := []) (rest := []) C S hl O.1 rfl (m_works O hMt) (cwV 0 C.2.2.2.2 gX5_tells_X5_works rfl rfl rfl (by decide +kernel) ⟨Nat.le_of_ble_eq_true rfl, Nat.le_of_ble_eq_true rfl⟩) rfl rfl (Nat.le_of_ble_eq_true rfl) ⟨Nat.le_of_ble_eq_true rfl, Nat.le_of_ble_eq_true rfl⟩ dX5_tells_63 (fun v f H locs hv S => ?_)
  obtain ⟨N63, B63, J63, O, F1, rfl, hT63⟩ := hv
  have F := fw_fr_tr F F1
  refine q_ifeqB (tgt := 75) C dX5_tells_66 (by decide) (fun c66 => ?_) (fun c66 => ?_)
  · refine lv_aload_n C.1 C.2.1 dX5_tells_75 rfl (lv_at hl 0 rfl) ?_
    refine lv_dup C.1 C.2.1 dX5_tells_76 rfl ?_
    refine o_get (v := .int (nI ((I 6) + 1))) C S O rfl inX5_tells_X5 6 (Nat.le_of_ble_eq_true rfl) lkX5_tells_91 rfl dX5_tells_77 ?_
    refine lv_iconst (v := nI 1) C.1 C.2.1 dX5_tells_80 (by decide) ?_
    refine q_isub C (by omega) dX5_tells_81 ?_
    refine o_puti C S O F rfl inX5_tells_X5 tyX5 tyX5_ok nmX5 6 (Nat.le_of_ble_eq_true rfl) rfl lkX5_tells_91 rfl rfl ⟨by decide, by decide⟩ dX5_tells_82 (fun f H locs S O F => ?_)
    refine lv_aload_n C.1 C.2.1 dX5_tells_85 rfl (lv_at hl 0 rfl) ?_
    refine q_callQi (As := []) (rest := []) C S hl O.1 rfl (m_works O (mOK_I (mOK_20 hMt hT63.1.2.1 hT63.1.2.2) (by show I 0 ≤ 64; omega) (by show I 6 + 1 - 1 ≤ 6400; omega) (by show I 9 ≤ 32; omega) (by show I 15 ≤ 60; omega) (by show I 19 ≤ 40; omega))) (cwV 0 C.2.2.2.2 gX5_tells_X5_works rfl rfl rfl (by decide +kernel) ⟨Nat.le_of_ble_eq_true rfl, Nat.le_of_ble_eq_true rfl⟩) rfl rfl (Nat.le_of_ble_eq_true rfl) ⟨Nat.le_of_ble_eq_true rfl, Nat.le_of_ble_eq_true rfl⟩ dX5_tells_86 (fun v f H locs hv S => ?_)
    obtain ⟨N86, B86, J86, O, F1, rfl, hT86⟩ := hv
    have F := fw_fr_tr F F1
    refine lv_istore (lv' := [(8, .int (bI (wkC N86 B86 J86 (va_up (va_up I 6 ((I 6) + 1)) 6 (((I 6) + 1) - 1)) N63 B63 J63))), (0, .ref h), (1, .int (nI kd)), (2, .int (nI x)), (3, .int (nI y)), (4, .long u), (6, .long v)]) C.1 C.2.1 dX5_tells_89 hl (by decide) rfl (fun ls hl => ?_)
    refine lv_iconst (v := nI 0) C.1 C.2.1 dX5_tells_91 (by decide) ?_
    exact q_retQz (b := false) C S hr hlk rfl ⟨F, N63, B63, J63, hT63, congrArg bI c66.symm, fun q => absurd (c66.symm.trans q) (by decide), fun _ => ⟨N86, B86, J86, O, hT86⟩⟩ dX5_tells_92
  · refine lv_aload_n C.1 C.2.1 dX5_tells_69 rfl (lv_at hl 0 rfl) ?_
    refine q_callQv (As := []) (rest := []) C S hl O.1 rfl (m_forget O) (cwV 0 C.2.2.2.2 gX5_tells_X5_forget rfl rfl rfl (by decide +kernel) ⟨Nat.le_of_ble_eq_true rfl, Nat.le_of_ble_eq_true rfl⟩) rfl rfl (Nat.le_of_ble_eq_true rfl) ⟨Nat.le_of_ble_eq_true rfl, Nat.le_of_ble_eq_true rfl⟩ dX5_tells_70 (fun f H locs hv S => ?_)
    obtain ⟨O, F1⟩ := hv
    have F := fw_fr_tr F F1
    refine lv_iconst (v := nI 1) C.1 C.2.1 dX5_tells_73 (by decide) ?_
    exact q_retQz (b := true) C S hr hlk rfl ⟨F, N63, B63, J63, hT63, congrArg bI c66.symm, fun _ => O, fun q => absurd (c66.symm.trans q) (by decide)⟩ dX5_tells_74
set_option maxHeartbeats 4000000 in
set_option maxRecDepth 100000 in
theorem m_span {l : Launch} {G : fw_G} {A : Nat → Prop} {f0 : fw_F} {h : Nat} {a : Nat → Nat} {I : Nat → Nat} {N : Nat → Nat → Nat} {B : Nat → Nat → Bool} {J : Nat → Nat → Int64} (O : isO G dM f0 2000 h a I N B J) (x : Int32) (u v : Int64) (hM : mOK I N) (h6 : I 6 < 6400)  : Met l yX5_span wsX5_span ({ frames := 4, cells := 0, slots := 0, locals := 98 }) (va_Pc [.ref h, .int x, .long u, .long v] (fw_P G A f0)) (va_Qi (fun (r : Int32) (f1 : fw_F) => (ix x (I 0) = false) ∧ r = bI false ∧ isO G dM f1 2000 h a I N B J ∧ fw_fr f0 f1 2000 2035 ∨ ∃ k, k < I 0 ∧ x = nI k ∧ tlP G f0 h a I N B J 0 k k u v r f1) (fw_B G A) A) 0 0 A := by
  refine q_head rfl (by decide) (Nat.le_of_ble_eq_true rfl) ?_
  intro p e s m below meth c ls C hr hlk hnm P hl
  have S := P.start
  have hl : lv_has ls 6 [(0, .ref h), (1, .int x), (2, .long u), (4, .long v)] := hl
  have F := fw_fr_rf f0 2000 2035
  have hM0 := hM
  obtain ⟨⟨hm0, hm6, hm9, hm15, hm19⟩, ⟨hs1, hs2, hs3⟩, ⟨hP7, hk10, hk11, hk12⟩, hL, hF⟩ := hM
  refine lv_aload_n C.1 C.2.1 dX5_span_0 rfl (lv_at hl 0 rfl) ?_
  refine lv_iload_n C.1 C.2.1 dX5_span_1 rfl (lv_at hl 1 rfl) ?_
  refine q_callSi (As := [.int x]) (rest := []) C S hl O.1 rfl (m_isName O x) (cwV 1 C.2.2.2.2 gX5_span_X5_isName rfl rfl rfl (by decide +kernel) ⟨Nat.le_of_ble_eq_true rfl, Nat.le_of_ble_eq_true rfl⟩) rfl rfl (Nat.le_of_ble_eq_true rfl) ⟨Nat.le_of_ble_eq_true rfl, Nat.le_of_ble_eq_true rfl⟩ dX5_span_2 (fun v hv => ?_)
  subst hv
  refine q_ifeqB (tgt := 25) C dX5_span_5 (by decide) (fun c5 => ?_) (fun c5 => ?_)
  · refine lv_iconst (v := nI 0) C.1 C.2.1 dX5_span_25 (by decide) ?_
    exact q_retQz (b := false) C S hr hlk rfl (Or.inl ⟨c5, rfl, O, F⟩) dX5_span_26
  · obtain ⟨k, hk, rfl⟩ := ix_t (by omega) c5
    refine lv_aload_n C.1 C.2.1 dX5_span_8 rfl (lv_at hl 0 rfl) ?_
    refine lv_iconst (v := nI 0) C.1 C.2.1 dX5_span_9 (by decide) ?_
    refine lv_iload_n C.1 C.2.1 dX5_span_10 rfl (lv_at hl 1 rfl) ?_
    refine lv_iload_n C.1 C.2.1 dX5_span_11 rfl (lv_at hl 1 rfl) ?_
    refine lv_lload_n C.1 C.2.1 dX5_span_12 rfl (lv_at hl 2 rfl) ?_
    refine lv_lload C.1 C.2.1 dX5_span_13 (lv_at hl 3 rfl) ?_
    refine q_callQi (As := [.int (nI 0), .int (nI k), .int (nI k), .long u, .long v]) (rest := []) C S hl O.1 rfl (m_tells O 0 k k u v (by decide) (by omega) (by omega) hM0 h6) (cwV 5 C.2.2.2.2 gX5_span_X5_tells rfl rfl rfl (by decide +kernel) ⟨Nat.le_of_ble_eq_true rfl, Nat.le_of_ble_eq_true rfl⟩) rfl rfl (Nat.le_of_ble_eq_true rfl) ⟨Nat.le_of_ble_eq_true rfl, Nat.le_of_ble_eq_true rfl⟩ dX5_span_15 (fun v f H locs hv S => ?_)
    obtain ⟨F1, N2, B2, J2, hT, rfl, hyes, hno⟩ := hv
    have F := fw_fr_tr F F1
    refine q_ifeqB (tgt := 25) C dX5_span_18 (by decide) (fun c18 => ?_) (fun c18 => ?_)
    · refine lv_iconst (v := nI 0) C.1 C.2.1 dX5_span_25 (by decide) ?_
      exact q_retQz (b := false) C S hr hlk rfl (Or.inr ⟨k, hk, rfl, F, N2, B2, J2, hT, by rw [c18], hyes, hno⟩) dX5_span_26
    · refine lv_iconst (v := nI 1) C.1 C.2.1 dX5_span_21 (by decide) ?_
      refine lv_goto (tgt := 26) C.1 C.2.1 dX5_span_22 (by decide) ?_
      exact q_retQz (b := true) C S hr hlk rfl (Or.inr ⟨k, hk, rfl, F, N2, B2, J2, hT, by rw [c18], hyes, hno⟩) dX5_span_26
set_option maxHeartbeats 4000000 in
set_option maxRecDepth 100000 in
theorem m_give {l : Launch} {G : fw_G} {A : Nat → Prop} {f0 : fw_F} {h : Nat} {a : Nat → Nat} {I : Nat → Nat} {N : Nat → Nat → Nat} {B : Nat → Nat → Bool} {J : Nat → Nat → Int64} (O : isO G dM f0 2000 h a I N B J) (x : Int32) (u : Int64) (hM : mOK I N) (h6 : I 6 < 6400)  : Met l yX5_give wsX5_give ({ frames := 4, cells := 0, slots := 0, locals := 98 }) (va_Pc [.ref h, .int x, .long u] (fw_P G A f0)) (va_Qi (fun (r : Int32) (f1 : fw_F) => (ix x (I 0) = false) ∧ r = bI false ∧ isO G dM f1 2000 h a I N B J ∧ fw_fr f0 f1 2000 2035 ∨ ∃ k, k < I 0 ∧ x = nI k ∧ tlP G f0 h a I N B J 1 k k u u r f1) (fw_B G A) A) 0 0 A := by
  refine q_head rfl (by decide) (Nat.le_of_ble_eq_true rfl) ?_
  intro p e s m below meth c ls C hr hlk hnm P hl
  have S := P.start
  have hl : lv_has ls 4 [(0, .ref h), (1, .int x), (2, .long u)] := hl
  have F := fw_fr_rf f0 2000 2035
  have hM0 := hM
  obtain ⟨⟨hm0, hm6, hm9, hm15, hm19⟩, ⟨hs1, hs2, hs3⟩, ⟨hP7, hk10, hk11, hk12⟩, hL, hF⟩ := hM
  refine lv_aload_n C.1 C.2.1 dX5_give_0 rfl (lv_at hl 0 rfl) ?_
  refine lv_iload_n C.1 C.2.1 dX5_give_1 rfl (lv_at hl 1 rfl) ?_
  refine q_callSi (As := [.int x]) (rest := []) C S hl O.1 rfl (m_isName O x) (cwV 1 C.2.2.2.2 gX5_give_X5_isName rfl rfl rfl (by decide +kernel) ⟨Nat.le_of_ble_eq_true rfl, Nat.le_of_ble_eq_true rfl⟩) rfl rfl (Nat.le_of_ble_eq_true rfl) ⟨Nat.le_of_ble_eq_true rfl, Nat.le_of_ble_eq_true rfl⟩ dX5_give_2 (fun v hv => ?_)
  subst hv
  refine q_ifeqB (tgt := 24) C dX5_give_5 (by decide) (fun c5 => ?_) (fun c5 => ?_)
  · refine lv_iconst (v := nI 0) C.1 C.2.1 dX5_give_24 (by decide) ?_
    exact q_retQz (b := false) C S hr hlk rfl (Or.inl ⟨c5, rfl, O, F⟩) dX5_give_25
  · obtain ⟨k, hk, rfl⟩ := ix_t (by omega) c5
    refine lv_aload_n C.1 C.2.1 dX5_give_8 rfl (lv_at hl 0 rfl) ?_
    refine lv_iconst (v := nI 1) C.1 C.2.1 dX5_give_9 (by decide) ?_
    refine lv_iload_n C.1 C.2.1 dX5_give_10 rfl (lv_at hl 1 rfl) ?_
    refine lv_iload_n C.1 C.2.1 dX5_give_11 rfl (lv_at hl 1 rfl) ?_
    refine lv_lload_n C.1 C.2.1 dX5_give_12 rfl (lv_at hl 2 rfl) ?_
    refine lv_lload_n C.1 C.2.1 dX5_give_13 rfl (lv_at hl 2 rfl) ?_
    refine q_callQi (As := [.int (nI 1), .int (nI k), .int (nI k), .long u, .long u]) (rest := []) C S hl O.1 rfl (m_tells O 1 k k u u (by decide) (by omega) (by omega) hM0 h6) (cwV 5 C.2.2.2.2 gX5_give_X5_tells rfl rfl rfl (by decide +kernel) ⟨Nat.le_of_ble_eq_true rfl, Nat.le_of_ble_eq_true rfl⟩) rfl rfl (Nat.le_of_ble_eq_true rfl) ⟨Nat.le_of_ble_eq_true rfl, Nat.le_of_ble_eq_true rfl⟩ dX5_give_14 (fun v f H locs hv S => ?_)
    obtain ⟨F1, N2, B2, J2, hT, rfl, hyes, hno⟩ := hv
    have F := fw_fr_tr F F1
    refine q_ifeqB (tgt := 24) C dX5_give_17 (by decide) (fun c17 => ?_) (fun c17 => ?_)
    · refine lv_iconst (v := nI 0) C.1 C.2.1 dX5_give_24 (by decide) ?_
      exact q_retQz (b := false) C S hr hlk rfl (Or.inr ⟨k, hk, rfl, F, N2, B2, J2, hT, by rw [c17], hyes, hno⟩) dX5_give_25
    · refine lv_iconst (v := nI 1) C.1 C.2.1 dX5_give_20 (by decide) ?_
      refine lv_goto (tgt := 25) C.1 C.2.1 dX5_give_21 (by decide) ?_
      exact q_retQz (b := true) C S hr hlk rfl (Or.inr ⟨k, hk, rfl, F, N2, B2, J2, hT, by rw [c17], hyes, hno⟩) dX5_give_25
set_option maxHeartbeats 4000000 in
set_option maxRecDepth 100000 in
theorem m_equal {l : Launch} {G : fw_G} {A : Nat → Prop} {f0 : fw_F} {h : Nat} {a : Nat → Nat} {I : Nat → Nat} {N : Nat → Nat → Nat} {B : Nat → Nat → Bool} {J : Nat → Nat → Int64} (O : isO G dM f0 2000 h a I N B J) (x y : Int32) (hM : mOK I N) (h6 : I 6 < 6400)  : Met l yX5_equal wsX5_equal ({ frames := 4, cells := 0, slots := 0, locals := 98 }) (va_Pc [.ref h, .int x, .int y] (fw_P G A f0)) (va_Qi (fun (r : Int32) (f1 : fw_F) => (ix x (I 0) = false ∨ ix y (I 0) = false) ∧ r = bI false ∧ isO G dM f1 2000 h a I N B J ∧ fw_fr f0 f1 2000 2035 ∨ ∃ k k2, k < I 0 ∧ k2 < I 0 ∧ x = nI k ∧ y = nI k2 ∧ tlP G f0 h a I N B J 2 k k2 0 0 r f1) (fw_B G A) A) 0 0 A := by
  refine q_head rfl (by decide) (Nat.le_of_ble_eq_true rfl) ?_
  intro p e s m below meth c ls C hr hlk hnm P hl
  have S := P.start
  have hl : lv_has ls 3 [(0, .ref h), (1, .int x), (2, .int y)] := hl
  have F := fw_fr_rf f0 2000 2035
  have hM0 := hM
  obtain ⟨⟨hm0, hm6, hm9, hm15, hm19⟩, ⟨hs1, hs2, hs3⟩, ⟨hP7, hk10, hk11, hk12⟩, hL, hF⟩ := hM
  refine lv_aload_n C.1 C.2.1 dX5_equal_0 rfl (lv_at hl 0 rfl) ?_
  refine lv_iload_n C.1 C.2.1 dX5_equal_1 rfl (lv_at hl 1 rfl) ?_
  refine q_callSi (As := [.int x]) (rest := []) C S hl O.1 rfl (m_isName O x) (cwV 1 C.2.2.2.2 gX5_equal_X5_isName rfl rfl rfl (by decide +kernel) ⟨Nat.le_of_ble_eq_true rfl, Nat.le_of_ble_eq_true rfl⟩) rfl rfl (Nat.le_of_ble_eq_true rfl) ⟨Nat.le_of_ble_eq_true rfl, Nat.le_of_ble_eq_true rfl⟩ dX5_equal_2 (fun v hv => ?_)
  subst hv
  refine q_ifeqB (tgt := 32) C dX5_equal_5 (by decide) (fun c5 => ?_) (fun c5 => ?_)
  · refine lv_iconst (v := nI 0) C.1 C.2.1 dX5_equal_32 (by decide) ?_
    exact q_retQz (b := false) C S hr hlk rfl (Or.inl ⟨Or.inl c5, rfl, O, F⟩) dX5_equal_33
  · refine lv_aload_n C.1 C.2.1 dX5_equal_8 rfl (lv_at hl 0 rfl) ?_
    refine lv_iload_n C.1 C.2.1 dX5_equal_9 rfl (lv_at hl 2 rfl) ?_
    refine q_callSi (As := [.int y]) (rest := []) C S hl O.1 rfl (m_isName O y) (cwV 1 C.2.2.2.2 gX5_equal_X5_isName rfl rfl rfl (by decide +kernel) ⟨Nat.le_of_ble_eq_true rfl, Nat.le_of_ble_eq_true rfl⟩) rfl rfl (Nat.le_of_ble_eq_true rfl) ⟨Nat.le_of_ble_eq_true rfl, Nat.le_of_ble_eq_true rfl⟩ dX5_equal_10 (fun v hv => ?_)
    subst hv
    refine q_ifeqB (tgt := 32) C dX5_equal_13 (by decide) (fun c13 => ?_) (fun c13 => ?_)
    · refine lv_iconst (v := nI 0) C.1 C.2.1 dX5_equal_32 (by decide) ?_
      exact q_retQz (b := false) C S hr hlk rfl (Or.inl ⟨Or.inr c13, rfl, O, F⟩) dX5_equal_33
    · obtain ⟨k, hk, rfl⟩ := ix_t (by omega) c5
      obtain ⟨k2, hk2, rfl⟩ := ix_t (by omega) c13
      refine lv_aload_n C.1 C.2.1 dX5_equal_16 rfl (lv_at hl 0 rfl) ?_
      refine lv_iconst (v := nI 2) C.1 C.2.1 dX5_equal_17 (by decide) ?_
      refine lv_iload_n C.1 C.2.1 dX5_equal_18 rfl (lv_at hl 1 rfl) ?_
      refine lv_iload_n C.1 C.2.1 dX5_equal_19 rfl (lv_at hl 2 rfl) ?_
      refine lv_lconst (v := 0) C.1 C.2.1 dX5_equal_20 (by decide) ?_
      refine lv_lconst (v := 0) C.1 C.2.1 dX5_equal_21 (by decide) ?_
      refine q_callQi (As := [.int (nI 2), .int (nI k), .int (nI k2), .long 0, .long 0]) (rest := []) C S hl O.1 rfl (m_tells O 2 k k2 0 0 (by decide) (by omega) (by omega) hM0 h6) (cwV 5 C.2.2.2.2 gX5_equal_X5_tells rfl rfl rfl (by decide +kernel) ⟨Nat.le_of_ble_eq_true rfl, Nat.le_of_ble_eq_true rfl⟩) rfl rfl (Nat.le_of_ble_eq_true rfl) ⟨Nat.le_of_ble_eq_true rfl, Nat.le_of_ble_eq_true rfl⟩ dX5_equal_22 (fun v f H locs hv S => ?_)
      obtain ⟨F1, N2, B2, J2, hT, rfl, hyes, hno⟩ := hv
      have F := fw_fr_tr F F1
      refine q_ifeqB (tgt := 32) C dX5_equal_25 (by decide) (fun c25 => ?_) (fun c25 => ?_)
      · refine lv_iconst (v := nI 0) C.1 C.2.1 dX5_equal_32 (by decide) ?_
        exact q_retQz (b := false) C S hr hlk rfl (Or.inr ⟨k, k2, hk, hk2, rfl, rfl, F, N2, B2, J2, hT, by rw [c25], hyes, hno⟩) dX5_equal_33
      · refine lv_iconst (v := nI 1) C.1 C.2.1 dX5_equal_28 (by decide) ?_
        refine lv_goto (tgt := 33) C.1 C.2.1 dX5_equal_29 (by decide) ?_
        exact q_retQz (b := true) C S hr hlk rfl (Or.inr ⟨k, k2, hk, hk2, rfl, rfl, F, N2, B2, J2, hT, by rw [c25], hyes, hno⟩) dX5_equal_33
theorem inX5_name_X5 : ∀ w ∈ u_ws RX5 TX5 34, w ∈ wsX5_name := (fun _ h => (List.mem_cons_of_mem _ (List.mem_append_right _ h)))
theorem lkX5_name_87 : Cond.fieldLink RX5 87 (TX5 0).1 (TX5 0).2.1 (TX5 0).2.2.1 ∈ wsX5_name := List.mem_of_getElem? (i := 1) rfl
set_option maxHeartbeats 4000000 in
set_option maxRecDepth 100000 in
theorem m_name {l : Launch} {G : fw_G} {A : Nat → Prop} {f0 : fw_F} {h : Nat} {a : Nat → Nat} {I : Nat → Nat} {N : Nat → Nat → Nat} {B : Nat → Nat → Bool} {J : Nat → Nat → Int64} (O : isO G dM f0 2000 h a I N B J) (hM : mOK I N)  : Met l yX5_name wsX5_name ({ frames := 3, cells := 0, slots := 0, locals := 70 }) (va_Pc [.ref h] (fw_P G A f0)) (va_Qi (fun (r : Int32) (f1 : fw_F) => (I 0 = 64 ∧ r = -1 ∧ isO G dM f1 2000 h a I N B J ∨ I 0 < 64 ∧ r = nI (I 0) ∧ ∃ N2 B2 J2, isO G dM f1 2000 h a (fgI (va_up I 0 (I 0 + 1))) N2 (fgB B2) J2 ∧ wkT N2 B2 J2 (va_up I 0 (I 0 + 1)) N B J) ∧ fw_fr f0 f1 2000 2035) (fw_B G A) A) 0 0 A := by
  refine q_head rfl (by decide) (Nat.le_of_ble_eq_true rfl) ?_
  intro p e s m below meth c ls C hr hlk hnm P hl
  have S := P.start
  have hl : lv_has ls 2 [(0, .ref h)] := hl
  have F := fw_fr_rf f0 2000 2035
  have hM0 := hM
  obtain ⟨⟨hm0, hm6, hm9, hm15, hm19⟩, ⟨hs1, hs2, hs3⟩, ⟨hP7, hk10, hk11, hk12⟩, hL, hF⟩ := hM
  refine lv_aload_n C.1 C.2.1 dX5_name_0 rfl (lv_at hl 0 rfl) ?_
  refine o_get (v := .int (nI (I 0))) C S O rfl inX5_name_X5 0 (Nat.le_of_ble_eq_true rfl) lkX5_name_87 rfl dX5_name_1 ?_
  refine lv_bipush (v := nI 64) C.1 C.2.1 dX5_name_4 (by decide) ?_
  refine q_nee (tgt := 11) C (by omega) (by decide) dX5_name_6 (by decide) (fun c6 => ?_) (fun c6 => ?_)
  · refine lv_aload_n C.1 C.2.1 dX5_name_11 rfl (lv_at hl 0 rfl) ?_
    refine lv_dup C.1 C.2.1 dX5_name_12 rfl ?_
    refine o_get (v := .int (nI (I 0))) C S O rfl inX5_name_X5 0 (Nat.le_of_ble_eq_true rfl) lkX5_name_87 rfl dX5_name_13 ?_
    refine lv_iconst (v := nI 1) C.1 C.2.1 dX5_name_16 (by decide) ?_
    refine q_iadd C dX5_name_17 ?_
    refine o_puti C S O F rfl inX5_name_X5 tyX5 tyX5_ok nmX5 0 (Nat.le_of_ble_eq_true rfl) rfl lkX5_name_87 rfl rfl ⟨by decide, by decide⟩ dX5_name_18 (fun f H locs S O F => ?_)
    refine lv_aload_n C.1 C.2.1 dX5_name_21 rfl (lv_at hl 0 rfl) ?_
    refine q_callQi (As := []) (rest := []) C S hl O.1 rfl (m_works O ⟨⟨(by show I 0 + 1 ≤ 64; omega), hm6, hm9, hm15, hm19⟩, hM0.2⟩) (cwV 0 C.2.2.2.2 gX5_name_X5_works rfl rfl rfl (by decide +kernel) ⟨Nat.le_of_ble_eq_true rfl, Nat.le_of_ble_eq_true rfl⟩) rfl rfl (Nat.le_of_ble_eq_true rfl) ⟨Nat.le_of_ble_eq_true rfl, Nat.le_of_ble_eq_true rfl⟩ dX5_name_22 (fun v f H locs hv S => ?_)
    obtain ⟨N22, B22, J22, O, F1, rfl, hT22⟩ := hv
    have F := fw_fr_tr F F1
    refine lv_istore_n (lv' := [(1, .int (bI (wkC N22 B22 J22 (va_up I 0 ((I 0) + 1)) N B J))), (0, .ref h)]) C.1 C.2.1 dX5_name_25 rfl hl (by decide) rfl (fun ls hl => ?_)
    refine lv_aload_n C.1 C.2.1 dX5_name_26 rfl (lv_at hl 1 rfl) ?_
    refine q_callQv (As := []) (rest := []) C S hl O.1 rfl (m_forget O) (cwV 0 C.2.2.2.2 gX5_name_X5_forget rfl rfl rfl (by decide +kernel) ⟨Nat.le_of_ble_eq_true rfl, Nat.le_of_ble_eq_true rfl⟩) rfl rfl (Nat.le_of_ble_eq_true rfl) ⟨Nat.le_of_ble_eq_true rfl, Nat.le_of_ble_eq_true rfl⟩ dX5_name_27 (fun f H locs hv S => ?_)
    obtain ⟨O, F1⟩ := hv
    have F := fw_fr_tr F F1
    refine lv_aload_n C.1 C.2.1 dX5_name_30 rfl (lv_at hl 1 rfl) ?_
    refine o_get (v := .int (nI ((I 0) + 1))) C S O rfl inX5_name_X5 0 (Nat.le_of_ble_eq_true rfl) lkX5_name_87 rfl dX5_name_31 ?_
    refine lv_iconst (v := nI 1) C.1 C.2.1 dX5_name_34 (by decide) ?_
    refine q_isub C (by omega) dX5_name_35 ?_
    exact q_retQi C S hr hlk ⟨Or.inr ⟨by omega, rfl, N22, B22, J22, O, hT22⟩, F⟩ dX5_name_36
  · refine lv_iconst (v := (-1)) C.1 C.2.1 dX5_name_9 (by decide) ?_
    exact q_retQi C S hr hlk ⟨Or.inl ⟨c6, rfl, O⟩, F⟩ dX5_name_10
theorem inX5_put_X5 : ∀ w ∈ u_ws RX5 TX5 34, w ∈ wsX5_put := (fun _ h => (List.mem_cons_of_mem _ (List.mem_append_right _ h)))
theorem lkX5_put_136 : Cond.fieldLink RX5 136 (TX5 9).1 (TX5 9).2.1 (TX5 9).2.2.1 ∈ wsX5_put := List.mem_of_getElem? (i := 1) rfl
theorem lkX5_put_26 : Cond.fieldLink RX5 26 (TX5 7).1 (TX5 7).2.1 (TX5 7).2.2.1 ∈ wsX5_put := List.mem_of_getElem? (i := 2) rfl
theorem lkX5_put_29 : Cond.fieldLink RX5 29 (TX5 8).1 (TX5 8).2.1 (TX5 8).2.2.1 ∈ wsX5_put := List.mem_of_getElem? (i := 3) rfl
set_option maxHeartbeats 4000000 in
set_option maxRecDepth 100000 in
theorem m_put {l : Launch} {G : fw_G} {A : Nat → Prop} {f0 : fw_F} {h : Nat} {a : Nat → Nat} {I : Nat → Nat} {N : Nat → Nat → Nat} {B : Nat → Nat → Bool} {J : Nat → Nat → Int64} (O : isO G dM f0 2000 h a I N B J) (x : Int32) (v : Int64) (hM : mOK I N)  : Met l yX5_put wsX5_put ({ frames := 1, cells := 0, slots := 0, locals := 21 }) (va_Pc [.ref h, .int x, .long v] (fw_P G A f0)) (va_Qi (fun (r : Int32) (f1 : fw_F) => ((ix x (I 0) = false ∨ I 9 = 32) ∧ r = -1 ∧ isO G dM f1 2000 h a I N B J ∨ ∃ k, k < I 0 ∧ x = nI k ∧ I 9 < 32 ∧ r = nI (I 9 + 1) ∧ isO G dM f1 2000 h a (va_up I 9 (I 9 + 1)) (va_up N 7 (va_up (N 7) (I 9) k)) B (va_up J 8 (va_up (J 8) (I 9) v))) ∧ fw_fr f0 f1 2000 2035) (fw_B G A) A) 0 0 A := by
  refine q_head rfl (by decide) (Nat.le_of_ble_eq_true rfl) ?_
  intro p e s m below meth c ls C hr hlk hnm P hl
  have S := P.start
  have hl : lv_has ls 4 [(0, .ref h), (1, .int x), (2, .long v)] := hl
  have F := fw_fr_rf f0 2000 2035
  have hM0 := hM
  obtain ⟨⟨hm0, hm6, hm9, hm15, hm19⟩, ⟨hs1, hs2, hs3⟩, ⟨hP7, hk10, hk11, hk12⟩, hL, hF⟩ := hM
  refine lv_aload_n C.1 C.2.1 dX5_put_0 rfl (lv_at hl 0 rfl) ?_
  refine lv_iload_n C.1 C.2.1 dX5_put_1 rfl (lv_at hl 1 rfl) ?_
  refine q_callSi (As := [.int x]) (rest := []) C S hl O.1 rfl (m_isName O x) (cwV 1 C.2.2.2.2 gX5_put_X5_isName rfl rfl rfl (by decide +kernel) ⟨Nat.le_of_ble_eq_true rfl, Nat.le_of_ble_eq_true rfl⟩) rfl rfl (Nat.le_of_ble_eq_true rfl) ⟨Nat.le_of_ble_eq_true rfl, Nat.le_of_ble_eq_true rfl⟩ dX5_put_2 (fun v hv => ?_)
  subst hv
  refine q_ifeqB (tgt := 17) C dX5_put_5 (by decide) (fun c5 => ?_) (fun c5 => ?_)
  · refine lv_iconst (v := (-1)) C.1 C.2.1 dX5_put_17 (by decide) ?_
    exact q_retQi C S hr hlk ⟨Or.inl ⟨Or.inl c5, rfl, O⟩, F⟩ dX5_put_18
  · refine lv_aload_n C.1 C.2.1 dX5_put_8 rfl (lv_at hl 0 rfl) ?_
    refine o_get (v := .int (nI (I 9))) C S O rfl inX5_put_X5 9 (Nat.le_of_ble_eq_true rfl) lkX5_put_136 rfl dX5_put_9 ?_
    refine lv_bipush (v := nI 32) C.1 C.2.1 dX5_put_12 (by decide) ?_
    refine q_nee (tgt := 19) C (by omega) (by decide) dX5_put_14 (by decide) (fun c14 => ?_) (fun c14 => ?_)
    · obtain ⟨k, hk, rfl⟩ := ix_t (by omega) c5
      refine lv_aload_n C.1 C.2.1 dX5_put_19 rfl (lv_at hl 0 rfl) ?_
      refine o_get (v := .ref (a 7)) C S O rfl inX5_put_X5 7 (Nat.le_of_ble_eq_true rfl) lkX5_put_26 rfl dX5_put_20 ?_
      refine lv_aload_n C.1 C.2.1 dX5_put_23 rfl (lv_at hl 0 rfl) ?_
      refine o_get (v := .int (nI (I 9))) C S O rfl inX5_put_X5 9 (Nat.le_of_ble_eq_true rfl) lkX5_put_136 rfl dX5_put_24 ?_
      refine lv_iload_n C.1 C.2.1 dX5_put_27 rfl (lv_at hl 1 rfl) ?_
      refine o_nast C S O F 7 (Nat.le_of_ble_eq_true rfl) rfl (I 9) rfl (show (I 9) < 32 from by first | omega | exact hL _ | exact hP _ | exact hF _) (Nat.le_of_ble_eq_true rfl) ⟨by decide, by decide⟩ dX5_put_28 (fun f H locs S O F => ?_)
      refine lv_aload_n C.1 C.2.1 dX5_put_29 rfl (lv_at hl 0 rfl) ?_
      refine o_get (v := .ref (a 8)) C S O rfl inX5_put_X5 8 (Nat.le_of_ble_eq_true rfl) lkX5_put_29 rfl dX5_put_30 ?_
      refine lv_aload_n C.1 C.2.1 dX5_put_33 rfl (lv_at hl 0 rfl) ?_
      refine o_get (v := .int (nI (I 9))) C S O rfl inX5_put_X5 9 (Nat.le_of_ble_eq_true rfl) lkX5_put_136 rfl dX5_put_34 ?_
      refine lv_lload_n C.1 C.2.1 dX5_put_37 rfl (lv_at hl 2 rfl) ?_
      refine o_last C S O F 8 (Nat.le_of_ble_eq_true rfl) rfl (I 9) rfl (show (I 9) < 32 from by first | omega | exact hL _ | exact hP _ | exact hF _) (Nat.le_of_ble_eq_true rfl) ⟨by decide, by decide⟩ dX5_put_38 (fun f H locs S O F => ?_)
      refine lv_aload_n C.1 C.2.1 dX5_put_39 rfl (lv_at hl 0 rfl) ?_
      refine lv_dup C.1 C.2.1 dX5_put_40 rfl ?_
      refine o_get (v := .int (nI (I 9))) C S O rfl inX5_put_X5 9 (Nat.le_of_ble_eq_true rfl) lkX5_put_136 rfl dX5_put_41 ?_
      refine lv_iconst (v := nI 1) C.1 C.2.1 dX5_put_44 (by decide) ?_
      refine q_iadd C dX5_put_45 ?_
      refine o_puti C S O F rfl inX5_put_X5 tyX5 tyX5_ok nmX5 9 (Nat.le_of_ble_eq_true rfl) rfl lkX5_put_136 rfl rfl ⟨by decide, by decide⟩ dX5_put_46 (fun f H locs S O F => ?_)
      refine lv_aload_n C.1 C.2.1 dX5_put_49 rfl (lv_at hl 0 rfl) ?_
      refine o_get (v := .int (nI ((I 9) + 1))) C S O rfl inX5_put_X5 9 (Nat.le_of_ble_eq_true rfl) lkX5_put_136 rfl dX5_put_50 ?_
      exact q_retQi C S hr hlk ⟨Or.inr ⟨k, hk, rfl, by omega, rfl, O⟩, F⟩ dX5_put_53
    · refine lv_iconst (v := (-1)) C.1 C.2.1 dX5_put_17 (by decide) ?_
      exact q_retQi C S hr hlk ⟨Or.inl ⟨Or.inr c14, rfl, O⟩, F⟩ dX5_put_18
theorem inX5_isWay_X5 : ∀ w ∈ u_ws RX5 TX5 34, w ∈ wsX5_isWay := (fun _ h => (List.mem_cons_of_mem _ (List.mem_append_right _ h)))
theorem lkX5_isWay_139 : Cond.fieldLink RX5 139 (TX5 32).1 (TX5 32).2.1 (TX5 32).2.2.1 ∈ wsX5_isWay := List.mem_of_getElem? (i := 1) rfl
theorem lkX5_isWay_143 : Cond.fieldLink RX5 143 (TX5 30).1 (TX5 30).2.1 (TX5 30).2.2.1 ∈ wsX5_isWay := List.mem_of_getElem? (i := 2) rfl
set_option maxHeartbeats 4000000 in
set_option maxRecDepth 100000 in
theorem m_isWay {l : Launch} {G : fw_G} {A : Nat → Prop} {f0 : fw_F} {h : Nat} {a : Nat → Nat} {I : Nat → Nat} {N : Nat → Nat → Nat} {B : Nat → Nat → Bool} {J : Nat → Nat → Int64} (O : isO G dM f0 2000 h a I N B J) (x : Int32)  : Met l yX5_isWay wsX5_isWay ({ frames := 0, cells := 0, slots := 0, locals := 0 }) (va_Pc [.ref h, .int x] (fw_P G A f0)) (vp_Si (fun (r : Int32) => r = bI (B 32 0 && ix x (I 30)))) 0 0 (fun _ => False) := by
  refine q_head rfl (by decide) (Nat.le_of_ble_eq_true rfl) ?_
  intro p e s m below meth c ls C hr hlk hnm P hl
  have S := P.start
  have hl : lv_has ls 2 [(0, .ref h), (1, .int x)] := hl
  refine lv_aload_n C.1 C.2.1 dX5_isWay_0 rfl (lv_at hl 0 rfl) ?_
  refine o_get (v := .int (bI ((B 32) 0))) C S O rfl inX5_isWay_X5 32 (Nat.le_of_ble_eq_true rfl) lkX5_isWay_139 rfl dX5_isWay_1 ?_
  refine q_ifeqB (tgt := 23) C dX5_isWay_4 (by decide) (fun c4 => ?_) (fun c4 => ?_)
  · refine lv_iconst (v := nI 0) C.1 C.2.1 dX5_isWay_23 (by decide) ?_
    exact q_retSz (b := false) C hr hlk rfl (by show bI false = bI _; rw [c4]; rfl) dX5_isWay_24
  · refine lv_iload_n C.1 C.2.1 dX5_isWay_7 rfl (lv_at hl 1 rfl) ?_
    refine lv_if_lt (tgt := 23) C.1 C.2.1 dX5_isWay_8 (by decide) (fun c8 => ?_) (fun c8 => ?_)
    · refine lv_iconst (v := nI 0) C.1 C.2.1 dX5_isWay_23 (by decide) ?_
      exact q_retSz (b := false) C hr hlk rfl (by show bI false = bI _; rw [ix, decide_eq_false (not_not_intro c8), Bool.false_and, Bool.and_false]) dX5_isWay_24
    · refine lv_iload_n C.1 C.2.1 dX5_isWay_11 rfl (lv_at hl 1 rfl) ?_
      refine lv_aload_n C.1 C.2.1 dX5_isWay_12 rfl (lv_at hl 0 rfl) ?_
      refine o_get (v := .int (nI (I 30))) C S O rfl inX5_isWay_X5 30 (Nat.le_of_ble_eq_true rfl) lkX5_isWay_143 rfl dX5_isWay_13 ?_
      refine lv_icmp_ge (tgt := 23) C.1 C.2.1 dX5_isWay_16 (by decide) (fun c16 => ?_) (fun c16 => ?_)
      · refine lv_iconst (v := nI 0) C.1 C.2.1 dX5_isWay_23 (by decide) ?_
        exact q_retSz (b := false) C hr hlk rfl (by show bI false = bI _; rw [ix, decide_eq_false (Int32.not_lt.mpr c16), Bool.and_false, Bool.and_false]) dX5_isWay_24
      · refine lv_iconst (v := nI 1) C.1 C.2.1 dX5_isWay_19 (by decide) ?_
        refine lv_goto (tgt := 24) C.1 C.2.1 dX5_isWay_20 (by decide) ?_
        exact q_retSz (b := true) C hr hlk rfl (by show bI true = bI _; rw [c4, ix, decide_eq_true c8, decide_eq_true (Int32.not_le.mp c16)]; rfl) dX5_isWay_24
theorem inX5_way_X5 : ∀ w ∈ u_ws RX5 TX5 34, w ∈ wsX5_way := (fun _ h => (List.mem_cons_of_mem _ (List.mem_append_right _ h)))
theorem lkX5_way_146 : Cond.fieldLink RX5 146 (TX5 29).1 (TX5 29).2.1 (TX5 29).2.2.1 ∈ wsX5_way := List.mem_of_getElem? (i := 1) rfl
theorem lkX5_way_84 : Cond.fieldLink RX5 84 (TX5 33).1 (TX5 33).2.1 (TX5 33).2.2.1 ∈ wsX5_way := List.mem_of_getElem? (i := 2) rfl
set_option maxHeartbeats 4000000 in
set_option maxRecDepth 100000 in
theorem m_way {l : Launch} {G : fw_G} {A : Nat → Prop} {f0 : fw_F} {h : Nat} {a : Nat → Nat} {I : Nat → Nat} {N : Nat → Nat → Nat} {B : Nat → Nat → Bool} {J : Nat → Nat → Int64} (O : isO G dM f0 2000 h a I N B J) (x y : Int32) (h30 : I 30 ≤ 200) (h29 : I 29 ≤ 8)  : Met l yX5_way wsX5_way ({ frames := 1, cells := 0, slots := 0, locals := 21 }) (va_Pc [.ref h, .int x, .int y] (fw_P G A f0)) (vp_Sl (fun (r : Int64) => (B 32 0 && ix x (I 30) && ix y (I 29)) = false ∧ r = 0 ∨ ∃ k k2, B 32 0 = true ∧ k < I 30 ∧ x = nI k ∧ k2 < I 29 ∧ y = nI k2 ∧ r = J 33 (8 * k + k2))) 0 0 (fun _ => False) := by
  refine q_head rfl (by decide) (Nat.le_of_ble_eq_true rfl) ?_
  intro p e s m below meth c ls C hr hlk hnm P hl
  have S := P.start
  have hl : lv_has ls 3 [(0, .ref h), (1, .int x), (2, .int y)] := hl
  refine lv_aload_n C.1 C.2.1 dX5_way_0 rfl (lv_at hl 0 rfl) ?_
  refine lv_iload_n C.1 C.2.1 dX5_way_1 rfl (lv_at hl 1 rfl) ?_
  refine q_callSi (As := [.int x]) (rest := []) C S hl O.1 rfl (m_isWay O x) (cwV 1 C.2.2.2.2 gX5_way_X5_isWay rfl rfl rfl (by decide +kernel) ⟨Nat.le_of_ble_eq_true rfl, Nat.le_of_ble_eq_true rfl⟩) rfl rfl (Nat.le_of_ble_eq_true rfl) ⟨Nat.le_of_ble_eq_true rfl, Nat.le_of_ble_eq_true rfl⟩ dX5_way_2 (fun v hv => ?_)
  subst hv
  refine q_ifeqB (tgt := 34) C dX5_way_5 (by decide) (fun c5 => ?_) (fun c5 => ?_)
  · refine lv_lconst (v := 0) C.1 C.2.1 dX5_way_34 (by decide) ?_
    exact q_retSl C hr hlk (Or.inl ⟨by rw [c5]; rfl, rfl⟩) dX5_way_35
  · refine lv_iload_n C.1 C.2.1 dX5_way_8 rfl (lv_at hl 2 rfl) ?_
    refine lv_if_lt (tgt := 34) C.1 C.2.1 dX5_way_9 (by decide) (fun c9 => ?_) (fun c9 => ?_)
    · refine lv_lconst (v := 0) C.1 C.2.1 dX5_way_34 (by decide) ?_
      exact q_retSl C hr hlk (Or.inl ⟨by rw [c5, ix, decide_eq_false (not_not_intro c9)]; rfl, rfl⟩) dX5_way_35
    · refine lv_iload_n C.1 C.2.1 dX5_way_12 rfl (lv_at hl 2 rfl) ?_
      refine lv_aload_n C.1 C.2.1 dX5_way_13 rfl (lv_at hl 0 rfl) ?_
      refine o_get (v := .int (nI (I 29))) C S O rfl inX5_way_X5 29 (Nat.le_of_ble_eq_true rfl) lkX5_way_146 rfl dX5_way_14 ?_
      refine lv_icmp_ge (tgt := 34) C.1 C.2.1 dX5_way_17 (by decide) (fun c17 => ?_) (fun c17 => ?_)
      · refine lv_lconst (v := 0) C.1 C.2.1 dX5_way_34 (by decide) ?_
        exact q_retSl C hr hlk (Or.inl ⟨by rw [c5, ix, decide_eq_false (Int32.not_lt.mpr c17), Bool.and_false]; rfl, rfl⟩) dX5_way_35
      · obtain ⟨q1, q2⟩ := Bool.and_eq_true_iff.mp c5
        obtain ⟨k, hk, rfl⟩ := ix_t (by omega) q2
        obtain ⟨k2, hk2, rfl⟩ := ix_of (by omega) c9 (Int32.not_le.mp c17)
        refine lv_aload_n C.1 C.2.1 dX5_way_20 rfl (lv_at hl 0 rfl) ?_
        refine o_get (v := .ref (a 33)) C S O rfl inX5_way_X5 33 (Nat.le_of_ble_eq_true rfl) lkX5_way_84 rfl dX5_way_21 ?_
        refine lv_bipush (v := nI 8) C.1 C.2.1 dX5_way_24 (by decide) ?_
        refine lv_iload_n C.1 C.2.1 dX5_way_26 rfl (lv_at hl 1 rfl) ?_
        refine q_imul C dX5_way_27 ?_
        refine lv_iload_n C.1 C.2.1 dX5_way_28 rfl (lv_at hl 2 rfl) ?_
        refine q_iadd C dX5_way_29 ?_
        refine o_lald (x := (J 33) ((8 * k) + k2)) C S O 33 (Nat.le_of_ble_eq_true rfl) rfl ((8 * k) + k2) rfl (show (8 * k) + k2 < 1600 from by first | omega | exact hL _ | exact hP _ | exact hF _) (Nat.le_of_ble_eq_true rfl) rfl dX5_way_30 ?_
        refine lv_goto (tgt := 35) C.1 C.2.1 dX5_way_31 (by decide) ?_
        exact q_retSl C hr hlk (Or.inr ⟨k, k2, q1, hk, rfl, hk2, rfl, rfl⟩) dX5_way_35
theorem inX5_mark_X5 : ∀ w ∈ u_ws RX5 TX5 34, w ∈ wsX5_mark := (fun _ h => (List.mem_cons_of_mem _ (List.mem_append_right _ h)))
theorem lkX5_mark_162 : Cond.fieldLink RX5 162 (TX5 19).1 (TX5 19).2.1 (TX5 19).2.2.1 ∈ wsX5_mark := List.mem_of_getElem? (i := 1) rfl
theorem lkX5_mark_47 : Cond.fieldLink RX5 47 (TX5 16).1 (TX5 16).2.1 (TX5 16).2.2.1 ∈ wsX5_mark := List.mem_of_getElem? (i := 2) rfl
theorem lkX5_mark_87 : Cond.fieldLink RX5 87 (TX5 0).1 (TX5 0).2.1 (TX5 0).2.2.1 ∈ wsX5_mark := List.mem_of_getElem? (i := 3) rfl
theorem lkX5_mark_50 : Cond.fieldLink RX5 50 (TX5 17).1 (TX5 17).2.1 (TX5 17).2.2.1 ∈ wsX5_mark := List.mem_of_getElem? (i := 4) rfl
theorem lkX5_mark_91 : Cond.fieldLink RX5 91 (TX5 6).1 (TX5 6).2.1 (TX5 6).2.2.1 ∈ wsX5_mark := List.mem_of_getElem? (i := 5) rfl
theorem lkX5_mark_53 : Cond.fieldLink RX5 53 (TX5 18).1 (TX5 18).2.1 (TX5 18).2.2.1 ∈ wsX5_mark := List.mem_of_getElem? (i := 6) rfl
theorem lkX5_mark_108 : Cond.fieldLink RX5 108 (TX5 15).1 (TX5 15).2.1 (TX5 15).2.2.1 ∈ wsX5_mark := List.mem_of_getElem? (i := 7) rfl
set_option maxHeartbeats 4000000 in
set_option maxRecDepth 100000 in
theorem m_mark {l : Launch} {G : fw_G} {A : Nat → Prop} {f0 : fw_F} {h : Nat} {a : Nat → Nat} {I : Nat → Nat} {N : Nat → Nat → Nat} {B : Nat → Nat → Bool} {J : Nat → Nat → Int64} (O : isO G dM f0 2000 h a I N B J) (hM : mOK I N)  : Met l yX5_mark wsX5_mark ({ frames := 0, cells := 0, slots := 0, locals := 0 }) (va_Pc [.ref h] (fw_P G A f0)) (va_Qi (fun (r : Int32) (f1 : fw_F) => (I 19 = 40 ∧ r = -1 ∧ isO G dM f1 2000 h a I N B J ∨ I 19 < 40 ∧ r = nI (I 19 + 1) ∧ isO G dM f1 2000 h a (va_up I 19 (I 19 + 1)) (va_up (va_up (va_up N 16 (va_up (N 16) (I 19) (I 0))) 17 (va_up (N 17) (I 19) (I 6))) 18 (va_up (N 18) (I 19) (I 15))) B J) ∧ fw_fr f0 f1 2000 2035) (fw_B G A) A) 0 0 A := by
  refine q_head rfl (by decide) (Nat.le_of_ble_eq_true rfl) ?_
  intro p e s m below meth c ls C hr hlk hnm P hl
  have S := P.start
  have hl : lv_has ls 1 [(0, .ref h)] := hl
  have F := fw_fr_rf f0 2000 2035
  have hM0 := hM
  obtain ⟨⟨hm0, hm6, hm9, hm15, hm19⟩, ⟨hs1, hs2, hs3⟩, ⟨hP7, hk10, hk11, hk12⟩, hL, hF⟩ := hM
  refine lv_aload_n C.1 C.2.1 dX5_mark_0 rfl (lv_at hl 0 rfl) ?_
  refine o_get (v := .int (nI (I 19))) C S O rfl inX5_mark_X5 19 (Nat.le_of_ble_eq_true rfl) lkX5_mark_162 rfl dX5_mark_1 ?_
  refine lv_bipush (v := nI 40) C.1 C.2.1 dX5_mark_4 (by decide) ?_
  refine q_nee (tgt := 11) C (by omega) (by decide) dX5_mark_6 (by decide) (fun c6 => ?_) (fun c6 => ?_)
  · refine lv_aload_n C.1 C.2.1 dX5_mark_11 rfl (lv_at hl 0 rfl) ?_
    refine o_get (v := .ref (a 16)) C S O rfl inX5_mark_X5 16 (Nat.le_of_ble_eq_true rfl) lkX5_mark_47 rfl dX5_mark_12 ?_
    refine lv_aload_n C.1 C.2.1 dX5_mark_15 rfl (lv_at hl 0 rfl) ?_
    refine o_get (v := .int (nI (I 19))) C S O rfl inX5_mark_X5 19 (Nat.le_of_ble_eq_true rfl) lkX5_mark_162 rfl dX5_mark_16 ?_
    refine lv_aload_n C.1 C.2.1 dX5_mark_19 rfl (lv_at hl 0 rfl) ?_
    refine o_get (v := .int (nI (I 0))) C S O rfl inX5_mark_X5 0 (Nat.le_of_ble_eq_true rfl) lkX5_mark_87 rfl dX5_mark_20 ?_
    refine o_nast C S O F 16 (Nat.le_of_ble_eq_true rfl) rfl (I 19) rfl (show (I 19) < 40 from by first | omega | exact hL _ | exact hP _ | exact hF _) (Nat.le_of_ble_eq_true rfl) ⟨by decide, by decide⟩ dX5_mark_23 (fun f H locs S O F => ?_)
    refine lv_aload_n C.1 C.2.1 dX5_mark_24 rfl (lv_at hl 0 rfl) ?_
    refine o_get (v := .ref (a 17)) C S O rfl inX5_mark_X5 17 (Nat.le_of_ble_eq_true rfl) lkX5_mark_50 rfl dX5_mark_25 ?_
    refine lv_aload_n C.1 C.2.1 dX5_mark_28 rfl (lv_at hl 0 rfl) ?_
    refine o_get (v := .int (nI (I 19))) C S O rfl inX5_mark_X5 19 (Nat.le_of_ble_eq_true rfl) lkX5_mark_162 rfl dX5_mark_29 ?_
    refine lv_aload_n C.1 C.2.1 dX5_mark_32 rfl (lv_at hl 0 rfl) ?_
    refine o_get (v := .int (nI (I 6))) C S O rfl inX5_mark_X5 6 (Nat.le_of_ble_eq_true rfl) lkX5_mark_91 rfl dX5_mark_33 ?_
    refine o_nast C S O F 17 (Nat.le_of_ble_eq_true rfl) rfl (I 19) rfl (show (I 19) < 40 from by first | omega | exact hL _ | exact hP _ | exact hF _) (Nat.le_of_ble_eq_true rfl) ⟨by decide, by decide⟩ dX5_mark_36 (fun f H locs S O F => ?_)
    refine lv_aload_n C.1 C.2.1 dX5_mark_37 rfl (lv_at hl 0 rfl) ?_
    refine o_get (v := .ref (a 18)) C S O rfl inX5_mark_X5 18 (Nat.le_of_ble_eq_true rfl) lkX5_mark_53 rfl dX5_mark_38 ?_
    refine lv_aload_n C.1 C.2.1 dX5_mark_41 rfl (lv_at hl 0 rfl) ?_
    refine o_get (v := .int (nI (I 19))) C S O rfl inX5_mark_X5 19 (Nat.le_of_ble_eq_true rfl) lkX5_mark_162 rfl dX5_mark_42 ?_
    refine lv_aload_n C.1 C.2.1 dX5_mark_45 rfl (lv_at hl 0 rfl) ?_
    refine o_get (v := .int (nI (I 15))) C S O rfl inX5_mark_X5 15 (Nat.le_of_ble_eq_true rfl) lkX5_mark_108 rfl dX5_mark_46 ?_
    refine o_nast C S O F 18 (Nat.le_of_ble_eq_true rfl) rfl (I 19) rfl (show (I 19) < 40 from by first | omega | exact hL _ | exact hP _ | exact hF _) (Nat.le_of_ble_eq_true rfl) ⟨by decide, by decide⟩ dX5_mark_49 (fun f H locs S O F => ?_)
    refine lv_aload_n C.1 C.2.1 dX5_mark_50 rfl (lv_at hl 0 rfl) ?_
    refine lv_dup C.1 C.2.1 dX5_mark_51 rfl ?_
    refine o_get (v := .int (nI (I 19))) C S O rfl inX5_mark_X5 19 (Nat.le_of_ble_eq_true rfl) lkX5_mark_162 rfl dX5_mark_52 ?_
    refine lv_iconst (v := nI 1) C.1 C.2.1 dX5_mark_55 (by decide) ?_
    refine q_iadd C dX5_mark_56 ?_
    refine o_puti C S O F rfl inX5_mark_X5 tyX5 tyX5_ok nmX5 19 (Nat.le_of_ble_eq_true rfl) rfl lkX5_mark_162 rfl rfl ⟨by decide, by decide⟩ dX5_mark_57 (fun f H locs S O F => ?_)
    refine lv_aload_n C.1 C.2.1 dX5_mark_60 rfl (lv_at hl 0 rfl) ?_
    refine o_get (v := .int (nI ((I 19) + 1))) C S O rfl inX5_mark_X5 19 (Nat.le_of_ble_eq_true rfl) lkX5_mark_162 rfl dX5_mark_61 ?_
    exact q_retQi C S hr hlk ⟨Or.inr ⟨by omega, rfl, O⟩, F⟩ dX5_mark_64
  · refine lv_iconst (v := (-1)) C.1 C.2.1 dX5_mark_9 (by decide) ?_
    exact q_retQi C S hr hlk ⟨Or.inl ⟨c6, rfl, O⟩, F⟩ dX5_mark_10
theorem inX5_bound_X5 : ∀ w ∈ u_ws RX5 TX5 34, w ∈ wsX5_bound := (fun _ h => (List.mem_cons_of_mem _ (List.mem_append_right _ h)))
theorem lkX5_bound_56 : Cond.fieldLink RX5 56 (TX5 20).1 (TX5 20).2.1 (TX5 20).2.2.1 ∈ wsX5_bound := List.mem_of_getElem? (i := 1) rfl
theorem lkX5_bound_59 : Cond.fieldLink RX5 59 (TX5 21).1 (TX5 21).2.1 (TX5 21).2.2.1 ∈ wsX5_bound := List.mem_of_getElem? (i := 2) rfl
theorem lkX5_bound_63 : Cond.fieldLink RX5 63 (TX5 22).1 (TX5 22).2.1 (TX5 22).2.2.1 ∈ wsX5_bound := List.mem_of_getElem? (i := 4) rfl
theorem lkX5_bound_69 : Cond.fieldLink RX5 69 (TX5 24).1 (TX5 24).2.1 (TX5 24).2.2.1 ∈ wsX5_bound := List.mem_of_getElem? (i := 6) rfl
theorem lkX5_bound_72 : Cond.fieldLink RX5 72 (TX5 25).1 (TX5 25).2.1 (TX5 25).2.2.1 ∈ wsX5_bound := List.mem_of_getElem? (i := 5) rfl
theorem lkX5_bound_66 : Cond.fieldLink RX5 66 (TX5 23).1 (TX5 23).2.1 (TX5 23).2.2.1 ∈ wsX5_bound := List.mem_of_getElem? (i := 3) rfl
set_option maxHeartbeats 4000000 in
set_option maxRecDepth 100000 in
theorem m_bound {l : Launch} {G : fw_G} {A : Nat → Prop} {f0 : fw_F} {h : Nat} {a : Nat → Nat} {I : Nat → Nat} {N : Nat → Nat → Nat} {B : Nat → Nat → Bool} {J : Nat → Nat → Int64} (O : isO G dM f0 2000 h a I N B J) (x : Int32) (hb : Bool) (hM : mOK I N)  : Met l yX5_bound wsX5_bound ({ frames := 1, cells := 0, slots := 0, locals := 21 }) (va_Pc [.ref h, .int x, .int (bI hb)] (fw_P G A f0)) (vp_Sl (fun (r : Int64) => ix x (I 0) = false ∧ r = 0 ∨ ∃ k, k < I 0 ∧ x = nI k ∧ r = bdF (B 21 (N 20 k)) (B 22 (N 20 k)) (J 23 (N 20 k)) (J 24 (N 20 k)) (J 25 (N 20 k)) hb)) 0 0 (fun _ => False) := by
  refine q_head rfl (by decide) (Nat.le_of_ble_eq_true rfl) ?_
  intro p e s m below meth c ls C hr hlk hnm P hl
  have S := P.start
  have hl : lv_has ls 4 [(0, .ref h), (1, .int x), (2, .int (bI hb))] := hl
  have hM0 := hM
  obtain ⟨⟨hm0, hm6, hm9, hm15, hm19⟩, ⟨hs1, hs2, hs3⟩, ⟨hP7, hk10, hk11, hk12⟩, hL, hF⟩ := hM
  refine lv_aload_n C.1 C.2.1 dX5_bound_0 rfl (lv_at hl 0 rfl) ?_
  refine lv_iload_n C.1 C.2.1 dX5_bound_1 rfl (lv_at hl 1 rfl) ?_
  refine q_callSi (As := [.int x]) (rest := []) C S hl O.1 rfl (m_isName O x) (cwV 1 C.2.2.2.2 gX5_bound_X5_isName rfl rfl rfl (by decide +kernel) ⟨Nat.le_of_ble_eq_true rfl, Nat.le_of_ble_eq_true rfl⟩) rfl rfl (Nat.le_of_ble_eq_true rfl) ⟨Nat.le_of_ble_eq_true rfl, Nat.le_of_ble_eq_true rfl⟩ dX5_bound_2 (fun v hv => ?_)
  subst hv
  refine q_ifneB (tgt := 10) C dX5_bound_5 (by decide) (fun c5 => ?_) (fun c5 => ?_)
  · obtain ⟨k, hk, rfl⟩ := ix_t (by omega) c5
    refine lv_aload_n C.1 C.2.1 dX5_bound_10 rfl (lv_at hl 0 rfl) ?_
    refine o_get (v := .ref (a 20)) C S O rfl inX5_bound_X5 20 (Nat.le_of_ble_eq_true rfl) lkX5_bound_56 rfl dX5_bound_11 ?_
    refine lv_iload_n C.1 C.2.1 dX5_bound_14 rfl (lv_at hl 1 rfl) ?_
    refine o_nald (x := (N 20) k) C S O 20 (Nat.le_of_ble_eq_true rfl) rfl k rfl (show k < 64 from by first | omega | exact hL _ | exact hP _ | exact hF _) (Nat.le_of_ble_eq_true rfl) rfl dX5_bound_15 ?_
    refine lv_istore_n (lv' := [(3, .int (nI ((N 20) k))), (0, .ref h), (1, .int (nI k)), (2, .int (bI hb))]) C.1 C.2.1 dX5_bound_16 rfl hl (by decide) rfl (fun ls hl => ?_)
    refine lv_aload_n C.1 C.2.1 dX5_bound_17 rfl (lv_at hl 1 rfl) ?_
    refine o_get (v := .ref (a 21)) C S O rfl inX5_bound_X5 21 (Nat.le_of_ble_eq_true rfl) lkX5_bound_59 rfl dX5_bound_18 ?_
    refine lv_iload_n C.1 C.2.1 dX5_bound_21 rfl (lv_at hl 0 rfl) ?_
    refine o_yald (x := (B 21) ((N 20) k)) C S O 21 (Nat.le_of_ble_eq_true rfl) rfl ((N 20) k) rfl (show (N 20) k < 64 from by first | omega | exact hL _ | exact hP _ | exact hF _) (Nat.le_of_ble_eq_true rfl) rfl dX5_bound_22 ?_
    refine q_ifeqB (tgt := 33) C dX5_bound_23 (by decide) (fun c23 => ?_) (fun c23 => ?_)
    · refine lv_aload_n C.1 C.2.1 dX5_bound_33 rfl (lv_at hl 1 rfl) ?_
      refine o_get (v := .ref (a 22)) C S O rfl inX5_bound_X5 22 (Nat.le_of_ble_eq_true rfl) lkX5_bound_63 rfl dX5_bound_34 ?_
      refine lv_iload_n C.1 C.2.1 dX5_bound_37 rfl (lv_at hl 0 rfl) ?_
      refine o_yald (x := (B 22) ((N 20) k)) C S O 22 (Nat.le_of_ble_eq_true rfl) rfl ((N 20) k) rfl (show (N 20) k < 64 from by first | omega | exact hL _ | exact hP _ | exact hF _) (Nat.le_of_ble_eq_true rfl) rfl dX5_bound_38 ?_
      refine q_ifeqB (tgt := 62) C dX5_bound_39 (by decide) (fun c39 => ?_) (fun c39 => ?_)
      · refine lv_iload_n C.1 C.2.1 dX5_bound_62 rfl (lv_at hl 3 rfl) ?_
        refine q_ifeqB (tgt := 72) C dX5_bound_63 (by decide) (fun c63 => ?_) (fun c63 => ?_)
        · refine lv_ldc2 (v := (-9223372036854775808)) C.1 C.2.1 C.2.2.2.1 (C.2.2.2.2 _ (List.mem_of_getElem? (i := 8) rfl)) dX5_bound_72 ?_
          exact q_retSl C hr hlk (Or.inr ⟨k, hk, rfl, by rw [bdF, if_neg (by rw [c23]; decide), if_neg (by rw [c39]; decide), if_neg (by rw [c63]; decide)]⟩) dX5_bound_75
        · refine lv_ldc2 (v := 9223372036854775807) C.1 C.2.1 C.2.2.2.1 (C.2.2.2.2 _ (List.mem_of_getElem? (i := 7) rfl)) dX5_bound_66 ?_
          refine lv_goto (tgt := 75) C.1 C.2.1 dX5_bound_69 (by decide) ?_
          exact q_retSl C hr hlk (Or.inr ⟨k, hk, rfl, by rw [bdF, if_neg (by rw [c23]; decide), if_neg (by rw [c39]; decide), if_pos c63]⟩) dX5_bound_75
      · refine lv_iload_n C.1 C.2.1 dX5_bound_42 rfl (lv_at hl 3 rfl) ?_
        refine q_ifeqB (tgt := 55) C dX5_bound_43 (by decide) (fun c43 => ?_) (fun c43 => ?_)
        · refine lv_aload_n C.1 C.2.1 dX5_bound_55 rfl (lv_at hl 1 rfl) ?_
          refine o_get (v := .ref (a 24)) C S O rfl inX5_bound_X5 24 (Nat.le_of_ble_eq_true rfl) lkX5_bound_69 rfl dX5_bound_56 ?_
          refine lv_iload_n C.1 C.2.1 dX5_bound_59 rfl (lv_at hl 0 rfl) ?_
          refine o_lald (x := (J 24) ((N 20) k)) C S O 24 (Nat.le_of_ble_eq_true rfl) rfl ((N 20) k) rfl (show (N 20) k < 64 from by first | omega | exact hL _ | exact hP _ | exact hF _) (Nat.le_of_ble_eq_true rfl) rfl dX5_bound_60 ?_
          exact q_retSl C hr hlk (Or.inr ⟨k, hk, rfl, by rw [bdF, if_neg (by rw [c23]; decide), if_pos c39, if_neg (by rw [c43]; decide)]⟩) dX5_bound_61
        · refine lv_aload_n C.1 C.2.1 dX5_bound_46 rfl (lv_at hl 1 rfl) ?_
          refine o_get (v := .ref (a 25)) C S O rfl inX5_bound_X5 25 (Nat.le_of_ble_eq_true rfl) lkX5_bound_72 rfl dX5_bound_47 ?_
          refine lv_iload_n C.1 C.2.1 dX5_bound_50 rfl (lv_at hl 0 rfl) ?_
          refine o_lald (x := (J 25) ((N 20) k)) C S O 25 (Nat.le_of_ble_eq_true rfl) rfl ((N 20) k) rfl (show (N 20) k < 64 from by first | omega | exact hL _ | exact hP _ | exact hF _) (Nat.le_of_ble_eq_true rfl) rfl dX5_bound_51 ?_
          refine lv_goto (tgt := 61) C.1 C.2.1 dX5_bound_52 (by decide) ?_
          exact q_retSl C hr hlk (Or.inr ⟨k, hk, rfl, by rw [bdF, if_neg (by rw [c23]; decide), if_pos c39, if_pos c43]⟩) dX5_bound_61
    · refine lv_aload_n C.1 C.2.1 dX5_bound_26 rfl (lv_at hl 1 rfl) ?_
      refine o_get (v := .ref (a 23)) C S O rfl inX5_bound_X5 23 (Nat.le_of_ble_eq_true rfl) lkX5_bound_66 rfl dX5_bound_27 ?_
      refine lv_iload_n C.1 C.2.1 dX5_bound_30 rfl (lv_at hl 0 rfl) ?_
      refine o_lald (x := (J 23) ((N 20) k)) C S O 23 (Nat.le_of_ble_eq_true rfl) rfl ((N 20) k) rfl (show (N 20) k < 64 from by first | omega | exact hL _ | exact hP _ | exact hF _) (Nat.le_of_ble_eq_true rfl) rfl dX5_bound_31 ?_
      exact q_retSl C hr hlk (Or.inr ⟨k, hk, rfl, by rw [bdF, if_pos c23]⟩) dX5_bound_32
  · refine lv_lconst (v := 0) C.1 C.2.1 dX5_bound_8 (by decide) ?_
    exact q_retSl C hr hlk (Or.inl ⟨c5, rfl⟩) dX5_bound_9
theorem inX5_count_X5 : ∀ w ∈ u_ws RX5 TX5 34, w ∈ wsX5_count := (fun _ h => (List.mem_cons_of_mem _ (List.mem_append_right _ h)))
theorem lkX5_count_87 : Cond.fieldLink RX5 87 (TX5 0).1 (TX5 0).2.1 (TX5 0).2.2.1 ∈ wsX5_count := List.mem_of_getElem? (i := 1) rfl
theorem lkX5_count_108 : Cond.fieldLink RX5 108 (TX5 15).1 (TX5 15).2.1 (TX5 15).2.2.1 ∈ wsX5_count := List.mem_of_getElem? (i := 2) rfl
theorem lkX5_count_162 : Cond.fieldLink RX5 162 (TX5 19).1 (TX5 19).2.1 (TX5 19).2.2.1 ∈ wsX5_count := List.mem_of_getElem? (i := 3) rfl
theorem lkX5_count_136 : Cond.fieldLink RX5 136 (TX5 9).1 (TX5 9).2.1 (TX5 9).2.2.1 ∈ wsX5_count := List.mem_of_getElem? (i := 4) rfl
theorem lkX5_count_143 : Cond.fieldLink RX5 143 (TX5 30).1 (TX5 30).2.1 (TX5 30).2.2.1 ∈ wsX5_count := List.mem_of_getElem? (i := 5) rfl
theorem lkX5_count_146 : Cond.fieldLink RX5 146 (TX5 29).1 (TX5 29).2.1 (TX5 29).2.2.1 ∈ wsX5_count := List.mem_of_getElem? (i := 6) rfl
theorem lkX5_count_149 : Cond.fieldLink RX5 149 (TX5 31).1 (TX5 31).2.1 (TX5 31).2.2.1 ∈ wsX5_count := List.mem_of_getElem? (i := 7) rfl
set_option maxHeartbeats 4000000 in
set_option maxRecDepth 100000 in
theorem m_count {l : Launch} {G : fw_G} {A : Nat → Prop} {f0 : fw_F} {h : Nat} {a : Nat → Nat} {I : Nat → Nat} {N : Nat → Nat → Nat} {B : Nat → Nat → Bool} {J : Nat → Nat → Int64} (O : isO G dM f0 2000 h a I N B J) (x : Int32)  : Met l yX5_count wsX5_count ({ frames := 0, cells := 0, slots := 0, locals := 0 }) (va_Pc [.ref h, .int x] (fw_P G A f0)) (vp_Si (fun (r : Int32) => r = ctF x (I 0) (I 15) (I 19) (I 9) (I 30) (I 29) (I 31))) 0 0 (fun _ => False) := by
  refine q_head rfl (by decide) (Nat.le_of_ble_eq_true rfl) ?_
  intro p e s m below meth c ls C hr hlk hnm P hl
  have S := P.start
  have hl : lv_has ls 2 [(0, .ref h), (1, .int x)] := hl
  refine lv_iload_n C.1 C.2.1 dX5_count_0 rfl (lv_at hl 1 rfl) ?_
  by_cases w0 : x = nI 0
  · refine lv_tableIn (off := 43) (tgt := 44) C.1 C.2.1 dX5_count_1 (by rw [w0]; decide) (by rw [w0]; decide) (by rw [w0]; decide) (by decide) ?_
    refine lv_aload_n C.1 C.2.1 dX5_count_44 rfl (lv_at hl 0 rfl) ?_
    refine o_get (v := .int (nI (I 0))) C S O rfl inX5_count_X5 0 (Nat.le_of_ble_eq_true rfl) lkX5_count_87 rfl dX5_count_45 ?_
    exact q_retSi C hr hlk (by rw [ctF, if_pos w0]) dX5_count_48
  by_cases w1 : x = nI 1
  · refine lv_tableIn (off := 48) (tgt := 49) C.1 C.2.1 dX5_count_1 (by rw [w1]; decide) (by rw [w1]; decide) (by rw [w1]; decide) (by decide) ?_
    refine lv_aload_n C.1 C.2.1 dX5_count_49 rfl (lv_at hl 0 rfl) ?_
    refine o_get (v := .int (nI (I 15))) C S O rfl inX5_count_X5 15 (Nat.le_of_ble_eq_true rfl) lkX5_count_108 rfl dX5_count_50 ?_
    exact q_retSi C hr hlk (by rw [ctF, if_neg w0, if_pos w1]) dX5_count_53
  by_cases w2 : x = nI 2
  · refine lv_tableIn (off := 53) (tgt := 54) C.1 C.2.1 dX5_count_1 (by rw [w2]; decide) (by rw [w2]; decide) (by rw [w2]; decide) (by decide) ?_
    refine lv_aload_n C.1 C.2.1 dX5_count_54 rfl (lv_at hl 0 rfl) ?_
    refine o_get (v := .int (nI (I 19))) C S O rfl inX5_count_X5 19 (Nat.le_of_ble_eq_true rfl) lkX5_count_162 rfl dX5_count_55 ?_
    exact q_retSi C hr hlk (by rw [ctF, if_neg w0, if_neg w1, if_pos w2]) dX5_count_58
  by_cases w3 : x = nI 3
  · refine lv_tableIn (off := 58) (tgt := 59) C.1 C.2.1 dX5_count_1 (by rw [w3]; decide) (by rw [w3]; decide) (by rw [w3]; decide) (by decide) ?_
    refine lv_aload_n C.1 C.2.1 dX5_count_59 rfl (lv_at hl 0 rfl) ?_
    refine o_get (v := .int (nI (I 9))) C S O rfl inX5_count_X5 9 (Nat.le_of_ble_eq_true rfl) lkX5_count_136 rfl dX5_count_60 ?_
    exact q_retSi C hr hlk (by rw [ctF, if_neg w0, if_neg w1, if_neg w2, if_pos w3]) dX5_count_63
  by_cases w4 : x = nI 4
  · refine lv_tableIn (off := 63) (tgt := 64) C.1 C.2.1 dX5_count_1 (by rw [w4]; decide) (by rw [w4]; decide) (by rw [w4]; decide) (by decide) ?_
    refine lv_aload_n C.1 C.2.1 dX5_count_64 rfl (lv_at hl 0 rfl) ?_
    refine o_get (v := .int (nI (I 30))) C S O rfl inX5_count_X5 30 (Nat.le_of_ble_eq_true rfl) lkX5_count_143 rfl dX5_count_65 ?_
    exact q_retSi C hr hlk (by rw [ctF, if_neg w0, if_neg w1, if_neg w2, if_neg w3, if_pos w4]) dX5_count_68
  by_cases w5 : x = nI 5
  · refine lv_tableIn (off := 68) (tgt := 69) C.1 C.2.1 dX5_count_1 (by rw [w5]; decide) (by rw [w5]; decide) (by rw [w5]; decide) (by decide) ?_
    refine lv_aload_n C.1 C.2.1 dX5_count_69 rfl (lv_at hl 0 rfl) ?_
    refine o_get (v := .int (nI (I 29))) C S O rfl inX5_count_X5 29 (Nat.le_of_ble_eq_true rfl) lkX5_count_146 rfl dX5_count_70 ?_
    exact q_retSi C hr hlk (by rw [ctF, if_neg w0, if_neg w1, if_neg w2, if_neg w3, if_neg w4, if_pos w5]) dX5_count_73
  by_cases w6 : x = nI 6
  · refine lv_tableIn (off := 73) (tgt := 74) C.1 C.2.1 dX5_count_1 (by rw [w6]; decide) (by rw [w6]; decide) (by rw [w6]; decide) (by decide) ?_
    refine lv_aload_n C.1 C.2.1 dX5_count_74 rfl (lv_at hl 0 rfl) ?_
    refine o_get (v := .int (nI (I 31))) C S O rfl inX5_count_X5 31 (Nat.le_of_ble_eq_true rfl) lkX5_count_149 rfl dX5_count_75 ?_
    exact q_retSi C hr hlk (by rw [ctF, if_neg w0, if_neg w1, if_neg w2, if_neg w3, if_neg w4, if_neg w5, if_pos w6]) dX5_count_78
  refine lv_tableOut (tgt := 79) C.1 C.2.1 dX5_count_1 (tb_out (n := 6) (by decide) (fun j hj => by rcases (show j = 0 ∨ j = 1 ∨ j = 2 ∨ j = 3 ∨ j = 4 ∨ j = 5 ∨ j = 6 by omega) with rfl | rfl | rfl | rfl | rfl | rfl | rfl <;> assumption)) (by decide) ?_
  refine lv_iconst (v := (-1)) C.1 C.2.1 dX5_count_79 (by decide) ?_
  exact q_retSi C hr hlk (by rw [ctF, if_neg w0, if_neg w1, if_neg w2, if_neg w3, if_neg w4, if_neg w5, if_neg w6]) dX5_count_80
