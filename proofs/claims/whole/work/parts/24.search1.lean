theorem inX0_isSo_X0 : ∀ w ∈ u_ws RX0 TX0 4, w ∈ wsX0_isSo := (fun _ h => (List.mem_cons_of_mem _ (List.mem_append_left _ (List.mem_append_right _ h))))
theorem lkX0_isSo_9 : Cond.fieldLink RX0 9 (TX0 0).1 (TX0 0).2.1 (TX0 0).2.2.1 ∈ wsX0_isSo := List.mem_of_getElem? (i := 1) rfl
theorem lkX0_isSo_15 : Cond.fieldLink RX0 15 (TX0 2).1 (TX0 2).2.1 (TX0 2).2.2.1 ∈ wsX0_isSo := List.mem_of_getElem? (i := 2) rfl
set_option maxHeartbeats 4000000 in
set_option maxRecDepth 100000 in
theorem c_isSo {l : Launch} {G : fw_G} {A : Nat → Prop} {f0 : fw_F} {bk hk : Nat} {w : Nat} {ak : Nat → Nat} {Ik : Nat → Nat} {Nk : Nat → Nat → Nat} {Bk : Nat → Nat → Bool} {Jk : Nat → Nat → Int64} {bn hn : Nat} {an : Nat → Nat} {In : Nat → Nat} {Nn : Nat → Nat → Nat} {Bn : Nat → Nat → Bool} {Jn : Nat → Nat → Int64} (Ok : isO G (dK w) f0 bk hk ak Ik Nk Bk Jk) (On : isO G dN f0 bn hn an In Nn Bn Jn) (hw : w ≤ 32) (hP : ∀ i, Nk 1 i < 64) (hL : ∀ i, Nn 1 i < 64) (hk2 : Ik 0 ≤ 2)  : Met l yX0_isSo wsX0_isSo ({ frames := 2, cells := 0, slots := 0, locals := 46 }) (va_Pc [.ref hk, .ref hn] (fw_P G A f0)) (vp_Si (fun (r : Int32) => r = bI (soF (Ik 0) (Jk 2 0) (Jk 3) (fun i => Jn 3 (Nn 1 (Nk 1 i))) w))) 0 0 (fun _ => False) := by
  refine q_head rfl (by decide) (Nat.le_of_ble_eq_true rfl) ?_
  intro p e s m below meth c ls C hr hlk hnm P hl
  have S := P.start
  have hl : lv_has ls 2 [(0, .ref hk), (1, .ref hn)] := hl
  refine lv_aload_n C.1 C.2.1 dX0_isSo_0 rfl (lv_at hl 0 rfl) ?_
  refine o_get (v := .int (nI (Ik 0))) C S Ok rfl inX0_isSo_X0 0 (Nat.le_of_ble_eq_true rfl) lkX0_isSo_9 rfl dX0_isSo_1 ?_
  rcases (show Ik 0 = 0 ∨ Ik 0 = 1 ∨ Ik 0 = 2 by omega) with hk0 | hk0 | hk0
  · refine lv_lookup (off := 28) (tgt := 32) C.1 C.2.1 dX0_isSo_4 (by decide) (by rw [hk0]; decide) (by decide) ?_
    refine lv_aload_n C.1 C.2.1 dX0_isSo_32 rfl (lv_at hl 0 rfl) ?_
    refine lv_aload_n C.1 C.2.1 dX0_isSo_33 rfl (lv_at hl 1 rfl) ?_
    refine q_callSl (As := [.ref hn]) (rest := []) C S hl Ok.1 rfl (c_sum Ok On hw hP hL) (cwV 1 C.2.2.2.2 gX0_isSo_X0_sum rfl rfl rfl (by decide +kernel) ⟨Nat.le_of_ble_eq_true rfl, Nat.le_of_ble_eq_true rfl⟩) rfl rfl (Nat.le_of_ble_eq_true rfl) ⟨Nat.le_of_ble_eq_true rfl, Nat.le_of_ble_eq_true rfl⟩ dX0_isSo_34 (fun v hv => ?_)
    subst hv
    refine lv_aload_n C.1 C.2.1 dX0_isSo_37 rfl (lv_at hl 0 rfl) ?_
    refine o_get (v := .long ((Jk 2) 0)) C S Ok rfl inX0_isSo_X0 2 (Nat.le_of_ble_eq_true rfl) lkX0_isSo_15 rfl dX0_isSo_38 ?_
    refine q_lcmp_gt (tgt := 49) C dX0_isSo_41 dX0_isSo_42 (by decide) (fun c41 => ?_) (fun c41 => ?_)
    · refine lv_iconst (v := nI 0) C.1 C.2.1 dX0_isSo_49 (by decide) ?_
      exact q_retSz (b := false) C hr hlk rfl (by show bI false = bI _; rw [soF, if_pos hk0]; exact congrArg bI (decide_eq_false c41).symm) dX0_isSo_50
    · refine lv_iconst (v := nI 1) C.1 C.2.1 dX0_isSo_45 (by decide) ?_
      refine lv_goto (tgt := 50) C.1 C.2.1 dX0_isSo_46 (by decide) ?_
      exact q_retSz (b := true) C hr hlk rfl (by show bI true = bI _; rw [soF, if_pos hk0]; exact congrArg bI (decide_eq_true c41).symm) dX0_isSo_50
  · refine lv_lookup (off := 47) (tgt := 51) C.1 C.2.1 dX0_isSo_4 (by decide) (by rw [hk0]; decide) (by decide) ?_
    refine lv_aload_n C.1 C.2.1 dX0_isSo_51 rfl (lv_at hl 0 rfl) ?_
    refine lv_aload_n C.1 C.2.1 dX0_isSo_52 rfl (lv_at hl 1 rfl) ?_
    refine q_callSl (As := [.ref hn]) (rest := []) C S hl Ok.1 rfl (c_sum Ok On hw hP hL) (cwV 1 C.2.2.2.2 gX0_isSo_X0_sum rfl rfl rfl (by decide +kernel) ⟨Nat.le_of_ble_eq_true rfl, Nat.le_of_ble_eq_true rfl⟩) rfl rfl (Nat.le_of_ble_eq_true rfl) ⟨Nat.le_of_ble_eq_true rfl, Nat.le_of_ble_eq_true rfl⟩ dX0_isSo_53 (fun v hv => ?_)
    subst hv
    refine lv_aload_n C.1 C.2.1 dX0_isSo_56 rfl (lv_at hl 0 rfl) ?_
    refine o_get (v := .long ((Jk 2) 0)) C S Ok rfl inX0_isSo_X0 2 (Nat.le_of_ble_eq_true rfl) lkX0_isSo_15 rfl dX0_isSo_57 ?_
    refine q_lcmp_ne (tgt := 68) C dX0_isSo_60 dX0_isSo_61 (by decide) (fun c60 => ?_) (fun c60 => ?_)
    · refine lv_iconst (v := nI 0) C.1 C.2.1 dX0_isSo_68 (by decide) ?_
      exact q_retSz (b := false) C hr hlk rfl (by show bI false = bI _; rw [soF, if_neg (by omega), if_pos hk0]; exact congrArg bI (decide_eq_false c60).symm) dX0_isSo_69
    · refine lv_iconst (v := nI 1) C.1 C.2.1 dX0_isSo_64 (by decide) ?_
      refine lv_goto (tgt := 69) C.1 C.2.1 dX0_isSo_65 (by decide) ?_
      exact q_retSz (b := true) C hr hlk rfl (by show bI true = bI _; rw [soF, if_neg (by omega), if_pos hk0]; exact congrArg bI (decide_eq_true c60).symm) dX0_isSo_69
  · refine lv_lookup (off := 66) (tgt := 70) C.1 C.2.1 dX0_isSo_4 (by decide) (by rw [hk0]; decide) (by decide) ?_
    refine lv_aload_n C.1 C.2.1 dX0_isSo_70 rfl (lv_at hl 0 rfl) ?_
    refine lv_aload_n C.1 C.2.1 dX0_isSo_71 rfl (lv_at hl 1 rfl) ?_
    refine q_callSi (As := [.ref hn]) (rest := []) C S hl Ok.1 rfl (c_allUnlike Ok On hw hP hL) (cwV 1 C.2.2.2.2 gX0_isSo_X0_allUnlike rfl rfl rfl (by decide +kernel) ⟨Nat.le_of_ble_eq_true rfl, Nat.le_of_ble_eq_true rfl⟩) rfl rfl (Nat.le_of_ble_eq_true rfl) ⟨Nat.le_of_ble_eq_true rfl, Nat.le_of_ble_eq_true rfl⟩ dX0_isSo_72 (fun v hv => ?_)
    subst hv
    exact q_retSz (b := (unl (fun i => (Jn 3) ((Nn 1) ((Nk 1) i))) w)) C hr hlk rfl (by show bI _ = bI _; rw [soF, if_neg (by omega), if_neg (by omega)]) dX0_isSo_75
theorem inX3_endWays_X3 : ∀ w ∈ u_ws RX3 TX3 6, w ∈ wsX3_endWays := (fun _ h => (List.mem_cons_of_mem _ (List.mem_append_right _ h)))
theorem lkX3_endWays_22 : Cond.fieldLink RX3 22 (TX3 1).1 (TX3 1).2.1 (TX3 1).2.2.1 ∈ wsX3_endWays := List.mem_of_getElem? (i := 1) rfl
theorem lkX3_endWays_26 : Cond.fieldLink RX3 26 (TX3 2).1 (TX3 2).2.1 (TX3 2).2.2.1 ∈ wsX3_endWays := List.mem_of_getElem? (i := 2) rfl
set_option maxHeartbeats 4000000 in
set_option maxRecDepth 100000 in
theorem c_endWays {l : Launch} {G : fw_G} {A : Nat → Prop} {f0 : fw_F} {bs hs : Nat} {as_ : Nat → Nat} {Is : Nat → Nat} {Ns : Nat → Nat → Nat} {Bs : Nat → Nat → Bool} {Js : Nat → Nat → Int64} (Os : isO G dS f0 bs hs as_ Is Ns Bs Js)   : Met l yX3_endWays wsX3_endWays ({ frames := 0, cells := 0, slots := 0, locals := 0 }) (va_Pc [.ref hs] (fw_P G A f0)) (va_Qv (fun (f1 : fw_F) => isO G dS f1 bs hs as_ (va_up (va_up Is 1 0) 2 0) Ns Bs Js ∧ fw_fr f0 f1 bs (bs + 7)) (fw_B G A) A) 0 0 A := by
  refine q_head rfl (by decide) (Nat.le_of_ble_eq_true rfl) ?_
  intro p e s m below meth c ls C hr hlk hnm P hl
  have S := P.start
  have hl : lv_has ls 1 [(0, .ref hs)] := hl
  have F := fw_fr_rf f0 bs (bs + 7)
  refine lv_aload_n C.1 C.2.1 dX3_endWays_0 rfl (lv_at hl 0 rfl) ?_
  refine lv_iconst (v := nI 0) C.1 C.2.1 dX3_endWays_1 (by decide) ?_
  refine o_puti C S Os F rfl inX3_endWays_X3 tyX3 tyX3_ok nmX3 1 (Nat.le_of_ble_eq_true rfl) rfl lkX3_endWays_22 rfl rfl ⟨by omega, by omega⟩ dX3_endWays_2 (fun f H locs S Os F => ?_)
  refine lv_aload_n C.1 C.2.1 dX3_endWays_5 rfl (lv_at hl 0 rfl) ?_
  refine lv_iconst (v := nI 0) C.1 C.2.1 dX3_endWays_6 (by decide) ?_
  refine o_puti C S Os F rfl inX3_endWays_X3 tyX3 tyX3_ok nmX3 2 (Nat.le_of_ble_eq_true rfl) rfl lkX3_endWays_26 rfl rfl ⟨by omega, by omega⟩ dX3_endWays_7 (fun f H locs S Os F => ?_)
  exact q_retQv C S hr hlk ⟨Os, F⟩ dX3_endWays_10
theorem inX3_hasWay_X3 : ∀ w ∈ u_ws RX3 TX3 6, w ∈ wsX3_hasWay := (fun _ h => (List.mem_cons_of_mem _ (List.mem_append_right _ h)))
theorem lkX3_hasWay_26 : Cond.fieldLink RX3 26 (TX3 2).1 (TX3 2).2.1 (TX3 2).2.2.1 ∈ wsX3_hasWay := List.mem_of_getElem? (i := 1) rfl
set_option maxHeartbeats 4000000 in
set_option maxRecDepth 100000 in
theorem c_hasWay {l : Launch} {G : fw_G} {A : Nat → Prop} {f0 : fw_F} {bs hs : Nat} {as_ : Nat → Nat} {Is : Nat → Nat} {Ns : Nat → Nat → Nat} {Bs : Nat → Nat → Bool} {Js : Nat → Nat → Int64} (Os : isO G dS f0 bs hs as_ Is Ns Bs Js) (x : Int32)  : Met l yX3_hasWay wsX3_hasWay ({ frames := 0, cells := 0, slots := 0, locals := 0 }) (va_Pc [.ref hs, .int x] (fw_P G A f0)) (vp_Si (fun (r : Int32) => r = bI (ix x (Is 2)))) 0 0 (fun _ => False) := by
  refine q_head rfl (by decide) (Nat.le_of_ble_eq_true rfl) ?_
  intro p e s m below meth c ls C hr hlk hnm P hl
  have S := P.start
  have hl : lv_has ls 2 [(0, .ref hs), (1, .int x)] := hl
  refine lv_iload_n C.1 C.2.1 dX3_hasWay_0 rfl (lv_at hl 1 rfl) ?_
  refine lv_if_lt (tgt := 16) C.1 C.2.1 dX3_hasWay_1 (by decide) (fun c1 => ?_) (fun c1 => ?_)
  · refine lv_iconst (v := nI 0) C.1 C.2.1 dX3_hasWay_16 (by decide) ?_
    exact q_retSz (b := false) C hr hlk rfl (by show bI false = bI _; rw [ix, decide_eq_false (not_not_intro c1)]; rfl) dX3_hasWay_17
  · refine lv_iload_n C.1 C.2.1 dX3_hasWay_4 rfl (lv_at hl 1 rfl) ?_
    refine lv_aload_n C.1 C.2.1 dX3_hasWay_5 rfl (lv_at hl 0 rfl) ?_
    refine o_get (v := .int (nI (Is 2))) C S Os rfl inX3_hasWay_X3 2 (Nat.le_of_ble_eq_true rfl) lkX3_hasWay_26 rfl dX3_hasWay_6 ?_
    refine lv_icmp_ge (tgt := 16) C.1 C.2.1 dX3_hasWay_9 (by decide) (fun c9 => ?_) (fun c9 => ?_)
    · refine lv_iconst (v := nI 0) C.1 C.2.1 dX3_hasWay_16 (by decide) ?_
      exact q_retSz (b := false) C hr hlk rfl (by show bI false = bI _; rw [ix, decide_eq_false (Int32.not_lt.mpr c9), Bool.and_false]) dX3_hasWay_17
    · refine lv_iconst (v := nI 1) C.1 C.2.1 dX3_hasWay_12 (by decide) ?_
      refine lv_goto (tgt := 17) C.1 C.2.1 dX3_hasWay_13 (by decide) ?_
      exact q_retSz (b := true) C hr hlk rfl (by show bI true = bI _; rw [ix, decide_eq_true c1, decide_eq_true (Int32.not_le.mp c9)]; rfl) dX3_hasWay_17
theorem inX3_numberIn_X3 : ∀ w ∈ u_ws RX3 TX3 6, w ∈ wsX3_numberIn := (fun _ h => (List.mem_cons_of_mem _ (List.mem_append_right _ h)))
theorem lkX3_numberIn_15 : Cond.fieldLink RX3 15 (TX3 4).1 (TX3 4).2.1 (TX3 4).2.2.1 ∈ wsX3_numberIn := List.mem_of_getElem? (i := 1) rfl
set_option maxHeartbeats 4000000 in
set_option maxRecDepth 100000 in
theorem c_numberIn {l : Launch} {G : fw_G} {A : Nat → Prop} {f0 : fw_F} {bs hs : Nat} {as_ : Nat → Nat} {Is : Nat → Nat} {Ns : Nat → Nat → Nat} {Bs : Nat → Nat → Bool} {Js : Nat → Nat → Int64} (Os : isO G dS f0 bs hs as_ Is Ns Bs Js) (x y : Nat) (hx : x < 200) (hy : y < 8)  : Met l yX3_numberIn wsX3_numberIn ({ frames := 0, cells := 0, slots := 0, locals := 0 }) (va_Pc [.ref hs, .int (nI x), .int (nI y)] (fw_P G A f0)) (vp_Sl (fun (r : Int64) => r = Js 4 (x * 8 + y))) 0 0 (fun _ => False) := by
  refine q_head rfl (by decide) (Nat.le_of_ble_eq_true rfl) ?_
  intro p e s m below meth c ls C hr hlk hnm P hl
  have S := P.start
  have hl : lv_has ls 3 [(0, .ref hs), (1, .int (nI x)), (2, .int (nI y))] := hl
  refine lv_aload_n C.1 C.2.1 dX3_numberIn_0 rfl (lv_at hl 0 rfl) ?_
  refine o_get (v := .ref (as_ 4)) C S Os rfl inX3_numberIn_X3 4 (Nat.le_of_ble_eq_true rfl) lkX3_numberIn_15 rfl dX3_numberIn_1 ?_
  refine lv_iload_n C.1 C.2.1 dX3_numberIn_4 rfl (lv_at hl 1 rfl) ?_
  refine lv_bipush (v := nI 8) C.1 C.2.1 dX3_numberIn_5 (by decide) ?_
  refine q_imul C dX3_numberIn_7 ?_
  refine lv_iload_n C.1 C.2.1 dX3_numberIn_8 rfl (lv_at hl 2 rfl) ?_
  refine q_iadd C dX3_numberIn_9 ?_
  refine o_lald (x := (Js 4) ((x * 8) + y)) C S Os 4 (Nat.le_of_ble_eq_true rfl) rfl ((x * 8) + y) rfl (show (x * 8) + y < 1600 from by omega) (Nat.le_of_ble_eq_true rfl) rfl dX3_numberIn_10 ?_
  exact q_retSl C hr hlk rfl dX3_numberIn_11
theorem inX3_levelOf_X3 : ∀ w ∈ u_ws RX3 TX3 6, w ∈ wsX3_levelOf := (fun _ h => (List.mem_cons_of_mem _ (List.mem_append_right _ h)))
theorem lkX3_levelOf_22 : Cond.fieldLink RX3 22 (TX3 1).1 (TX3 1).2.1 (TX3 1).2.2.1 ∈ wsX3_levelOf := List.mem_of_getElem? (i := 1) rfl
theorem lkX3_levelOf_9 : Cond.fieldLink RX3 9 (TX3 0).1 (TX3 0).2.1 (TX3 0).2.2.1 ∈ wsX3_levelOf := List.mem_of_getElem? (i := 2) rfl
set_option maxHeartbeats 4000000 in
set_option maxRecDepth 100000 in
theorem c_levelOf {l : Launch} {G : fw_G} {A : Nat → Prop} {f0 : fw_F} {bs hs : Nat} {as_ : Nat → Nat} {Is : Nat → Nat} {Ns : Nat → Nat → Nat} {Bs : Nat → Nat → Bool} {Js : Nat → Nat → Int64} (Os : isO G dS f0 bs hs as_ Is Ns Bs Js) (x : Nat) (hx : x < 64) (hc : Is 1 ≤ 32) (hF : ∀ i, Ns 0 i < 64)  : Met l yX3_levelOf wsX3_levelOf ({ frames := 0, cells := 0, slots := 0, locals := 0 }) (va_Pc [.ref hs, .int (nI x)] (fw_P G A f0)) (vp_Si (fun (r : Int32) => r = mI (levF (Ns 0) (Is 1) x))) 0 0 (fun _ => False) := by
  refine q_head rfl (by decide) (Nat.le_of_ble_eq_true rfl) ?_
  intro p e s m below meth c ls C hr hlk hnm P hl
  have S := P.start
  have hl : lv_has ls 3 [(0, .ref hs), (1, .int (nI x))] := hl
  refine lv_iconst (v := nI 0) C.1 C.2.1 dX3_levelOf_0 (by decide) ?_
  refine lv_istore_n (lv' := [(2, .int (nI 0)), (0, .ref hs), (1, .int (nI x))]) C.1 C.2.1 dX3_levelOf_1 rfl hl (by decide) rfl (fun ls hl => ?_)
  have lp2 : ∀ (n2 : Nat) (z : Nat), Is 1 - z < n2 → (z ≤ Is 1) → (∀ i, i < z → Ns 0 i ≠ x) → ∀ (ls : Array Slot), lv_has ls 3 [(2, .int (nI z)), (0, .ref hs), (1, .int (nI x))] → W p l e ({ frames := 0, cells := 0, slots := 0, locals := 0 }) s m [.ref hs, .int (nI x)].toArray below meth c s.heap [] 0 0 (MQ below (vp_Si (fun (r : Int32) => r = mI (levF (Ns 0) (Is 1) x))) [.ref hs, .int (nI x)].toArray s 0 0 (fun _ => False)) (F0 m 2 ls []) := by
    intro n2
    induction n2 with
    | zero => intro z hme2; exact absurd hme2 (Nat.not_lt_zero _)
    | succ n2 ih2 =>
      intro z hme2 hz hz2 ls hl
      refine lv_iload_n C.1 C.2.1 dX3_levelOf_2 rfl (lv_at hl 0 rfl) ?_
      refine lv_aload_n C.1 C.2.1 dX3_levelOf_3 rfl (lv_at hl 1 rfl) ?_
      refine o_get (v := .int (nI (Is 1))) C S Os rfl inX3_levelOf_X3 1 (Nat.le_of_ble_eq_true rfl) lkX3_levelOf_22 rfl dX3_levelOf_4 ?_
      refine q_ge (tgt := 28) C (by omega) (by omega) dX3_levelOf_7 (by decide) (fun c7 => ?_) (fun c7 => ?_)
      · refine lv_iconst (v := (-1)) C.1 C.2.1 dX3_levelOf_28 (by decide) ?_
        exact q_retSi C hr hlk (by rw [levF_0 (fun i hi => hz2 i (by omega))]; rfl) dX3_levelOf_29
      · refine lv_aload_n C.1 C.2.1 dX3_levelOf_10 rfl (lv_at hl 1 rfl) ?_
        refine o_get (v := .ref (as_ 0)) C S Os rfl inX3_levelOf_X3 0 (Nat.le_of_ble_eq_true rfl) lkX3_levelOf_9 rfl dX3_levelOf_11 ?_
        refine lv_iload_n C.1 C.2.1 dX3_levelOf_14 rfl (lv_at hl 0 rfl) ?_
        refine o_nald (x := (Ns 0) z) C S Os 0 (Nat.le_of_ble_eq_true rfl) rfl z rfl (show z < 32 from by first | omega | exact hL _ | exact hP _ | exact hF _) (Nat.le_of_ble_eq_true rfl) rfl dX3_levelOf_15 ?_
        refine lv_iload_n C.1 C.2.1 dX3_levelOf_16 rfl (lv_at hl 2 rfl) ?_
        refine q_nee (tgt := 22) C (Nat.lt_trans (hF _) (by decide)) (by omega) dX3_levelOf_17 (by decide) (fun c17 => ?_) (fun c17 => ?_)
        · refine q_iinc (d := 1) (lv' := [(2, .int (nI (z + 1))), (0, .ref hs), (1, .int (nI x))]) C dX3_levelOf_22 hl (k := 0) rfl (by decide) (by decide) rfl (fun ls hl => ?_)
          refine lv_goto (tgt := 2) C.1 C.2.1 dX3_levelOf_25 (by decide) ?_
          exact ih2 (z + 1) (by omega) (by omega) (fun i hi => by rcases Nat.lt_or_ge i z with q | q; exact hz2 i q; rw [show i = z by omega]; exact c17) _ (lv_sub hl [0, 1, 2] rfl)
        · refine lv_iload_n C.1 C.2.1 dX3_levelOf_20 rfl (lv_at hl 0 rfl) ?_
          exact q_retSi C hr hlk (by rw [levF_at c17 hz2 (by omega), mI_s]) dX3_levelOf_21
  exact lp2 (Is 1 + 1) 0 (by omega) (by omega) (fun i hi => absurd hi (Nat.not_lt_zero i)) _ (lv_sub hl [0, 1, 2] rfl)
set_option maxHeartbeats 4000000 in
set_option maxRecDepth 100000 in
theorem c_isFreeName {l : Launch} {G : fw_G} {A : Nat → Prop} {f0 : fw_F} {bs hs : Nat} {as_ : Nat → Nat} {Is : Nat → Nat} {Ns : Nat → Nat → Nat} {Bs : Nat → Nat → Bool} {Js : Nat → Nat → Int64} (Os : isO G dS f0 bs hs as_ Is Ns Bs Js) (x : Nat) (hx : x < 64) (hc : Is 1 ≤ 32) (hF : ∀ i, Ns 0 i < 64)  : Met l yX3_isFreeName wsX3_isFreeName ({ frames := 1, cells := 0, slots := 0, locals := 22 }) (va_Pc [.ref hs, .int (nI x)] (fw_P G A f0)) (vp_Si (fun (r : Int32) => r = bI (decide (levF (Ns 0) (Is 1) x ≠ 0)))) 0 0 (fun _ => False) := by
  refine q_head rfl (by decide) (Nat.le_of_ble_eq_true rfl) ?_
  intro p e s m below meth c ls C hr hlk hnm P hl
  have S := P.start
  have hl : lv_has ls 2 [(0, .ref hs), (1, .int (nI x))] := hl
  refine lv_aload_n C.1 C.2.1 dX3_isFreeName_0 rfl (lv_at hl 0 rfl) ?_
  refine lv_iload_n C.1 C.2.1 dX3_isFreeName_1 rfl (lv_at hl 1 rfl) ?_
  refine q_callSi (As := [.int (nI x)]) (rest := []) C S hl Os.1 rfl (c_levelOf Os x (by first | omega | exact hL _ | exact hP _ | exact hF _) hc hF) (cwV 1 C.2.2.2.2 gX3_isFreeName_X3_levelOf rfl rfl rfl (by decide +kernel) ⟨Nat.le_of_ble_eq_true rfl, Nat.le_of_ble_eq_true rfl⟩) rfl rfl (Nat.le_of_ble_eq_true rfl) ⟨Nat.le_of_ble_eq_true rfl, Nat.le_of_ble_eq_true rfl⟩ dX3_isFreeName_2 (fun v hv => ?_)
  subst hv
  refine lv_iconst (v := (-1)) C.1 C.2.1 dX3_isFreeName_5 (by decide) ?_
  refine lv_icmp_eq (tgt := 13) C.1 C.2.1 dX3_isFreeName_6 (by decide) (fun c6 => ?_) (fun c6 => ?_)
  · refine lv_iconst (v := nI 0) C.1 C.2.1 dX3_isFreeName_13 (by decide) ?_
    exact q_retSz (b := false) C hr hlk rfl (by show bI false = bI _; rw [decide_eq_false (not_not_intro ((mI_ne (Nat.lt_of_le_of_lt levF_le (by omega))).mp c6))]) dX3_isFreeName_14
  · refine lv_iconst (v := nI 1) C.1 C.2.1 dX3_isFreeName_9 (by decide) ?_
    refine lv_goto (tgt := 14) C.1 C.2.1 dX3_isFreeName_10 (by decide) ?_
    exact q_retSz (b := true) C hr hlk rfl (by show bI true = bI _; rw [decide_eq_true (show levF (Ns 0) (Is 1) x ≠ 0 from fun q => c6 ((mI_ne (Nat.lt_of_le_of_lt levF_le (by omega))).mpr q))]) dX3_isFreeName_14
theorem inX0_levelOfLast_X0 : ∀ w ∈ u_ws RX0 TX0 4, w ∈ wsX0_levelOfLast := (fun _ h => (List.mem_cons_of_mem _ (List.mem_append_left _ (List.mem_append_left _ (List.mem_append_right _ h)))))
theorem lkX0_levelOfLast_34 : Cond.fieldLink RX0 34 (TX0 1).1 (TX0 1).2.1 (TX0 1).2.2.1 ∈ wsX0_levelOfLast := List.mem_of_getElem? (i := 1) rfl
set_option maxHeartbeats 4000000 in
set_option maxRecDepth 100000 in
theorem c_levelOfLast {l : Launch} {G : fw_G} {A : Nat → Prop} {f0 : fw_F} {bk hk : Nat} {w : Nat} {ak : Nat → Nat} {Ik : Nat → Nat} {Nk : Nat → Nat → Nat} {Bk : Nat → Nat → Bool} {Jk : Nat → Nat → Int64} {bn hn : Nat} {an : Nat → Nat} {In : Nat → Nat} {Nn : Nat → Nat → Nat} {Bn : Nat → Nat → Bool} {Jn : Nat → Nat → Int64} {bs hs : Nat} {as_ : Nat → Nat} {Is : Nat → Nat} {Ns : Nat → Nat → Nat} {Bs : Nat → Nat → Bool} {Js : Nat → Nat → Int64} (Ok : isO G (dK w) f0 bk hk ak Ik Nk Bk Jk) (On : isO G dN f0 bn hn an In Nn Bn Jn) (Os : isO G dS f0 bs hs as_ Is Ns Bs Js) (hw : w ≤ 32) (hP : ∀ i, Nk 1 i < 64) (hL : ∀ i, Nn 1 i < 64) (hc : Is 1 ≤ 32) (hF : ∀ i, Ns 0 i < 64)  : Met l yX0_levelOfLast wsX0_levelOfLast ({ frames := 1, cells := 0, slots := 0, locals := 22 }) (va_Pc [.ref hk, .ref hn, .ref hs] (fw_P G A f0)) (vp_Si (fun (r : Int32) => r = mI (lastF (Nk 1) (Nn 1) (Bn 2) (Ns 0) (Is 1) w))) 0 0 (fun _ => False) := by
  refine q_head rfl (by decide) (Nat.le_of_ble_eq_true rfl) ?_
  intro p e s m below meth c ls C hr hlk hnm P hl
  have S := P.start
  have hl : lv_has ls 6 [(0, .ref hk), (1, .ref hn), (2, .ref hs)] := hl
  refine lv_iconst (v := (-1)) C.1 C.2.1 dX0_levelOfLast_0 (by decide) ?_
  refine lv_istore_n (lv' := [(3, .int (-1)), (0, .ref hk), (1, .ref hn), (2, .ref hs)]) C.1 C.2.1 dX0_levelOfLast_1 rfl hl (by decide) rfl (fun ls hl => ?_)
  refine lv_iconst (v := nI 0) C.1 C.2.1 dX0_levelOfLast_2 (by decide) ?_
  refine lv_istore (lv' := [(4, .int (nI 0)), (3, .int (-1)), (0, .ref hk), (1, .ref hn), (2, .ref hs)]) C.1 C.2.1 dX0_levelOfLast_3 hl (by decide) rfl (fun ls hl => ?_)
  have lp5 : ∀ (n5 : Nat) (z : Nat) (q : Nat), w - z < n5 → (z ≤ w) → (q = lastF (Nk 1) (Nn 1) (Bn 2) (Ns 0) (Is 1) z) → (q ≤ 32) → ∀ (ls : Array Slot), lv_has ls 6 [(4, .int (nI z)), (3, .int (mI q)), (0, .ref hk), (1, .ref hn), (2, .ref hs)] → W p l e ({ frames := 1, cells := 0, slots := 0, locals := 22 }) s m [.ref hk, .ref hn, .ref hs].toArray below meth c s.heap [] 0 0 (MQ below (vp_Si (fun (r : Int32) => r = mI (lastF (Nk 1) (Nn 1) (Bn 2) (Ns 0) (Is 1) w))) [.ref hk, .ref hn, .ref hs].toArray s 0 0 (fun _ => False)) (F0 m 5 ls []) := by
    intro n5
    induction n5 with
    | zero => intro z q hme5; exact absurd hme5 (Nat.not_lt_zero _)
    | succ n5 ih5 =>
      intro z q hme5 hz hq hqb ls hl
      refine lv_iload C.1 C.2.1 dX0_levelOfLast_5 (lv_at hl 0 rfl) ?_
      refine lv_aload_n C.1 C.2.1 dX0_levelOfLast_7 rfl (lv_at hl 2 rfl) ?_
      refine o_get (v := .ref (ak 1)) C S Ok rfl inX0_levelOfLast_X0 1 (Nat.le_of_ble_eq_true rfl) lkX0_levelOfLast_34 rfl dX0_levelOfLast_8 ?_
      refine q_alenN (n := w) C S ((Ok.2 1 (Nat.le_of_ble_eq_true rfl)).1 rfl) dX0_levelOfLast_11 ?_
      refine q_ge (tgt := 70) C (by omega) (by omega) dX0_levelOfLast_12 (by decide) (fun c12 => ?_) (fun c12 => ?_)
      · refine lv_iload_n C.1 C.2.1 dX0_levelOfLast_70 rfl (lv_at hl 1 rfl) ?_
        exact q_retSi C hr hlk (by rw [hq, show z = w by omega]) dX0_levelOfLast_71
      · refine lv_aload_n C.1 C.2.1 dX0_levelOfLast_15 rfl (lv_at hl 3 rfl) ?_
        refine lv_aload_n C.1 C.2.1 dX0_levelOfLast_16 rfl (lv_at hl 2 rfl) ?_
        refine o_get (v := .ref (ak 1)) C S Ok rfl inX0_levelOfLast_X0 1 (Nat.le_of_ble_eq_true rfl) lkX0_levelOfLast_34 rfl dX0_levelOfLast_17 ?_
        refine lv_iload C.1 C.2.1 dX0_levelOfLast_20 (lv_at hl 0 rfl) ?_
        refine o_nald (x := (Nk 1) z) C S Ok 1 (Nat.le_of_ble_eq_true rfl) rfl z rfl (show z < w from by first | omega | exact hL _ | exact hP _ | exact hF _) (show w < 2 ^ 31 by omega) rfl dX0_levelOfLast_22 ?_
        refine q_callSi (As := [.int (nI ((Nk 1) z))]) (rest := []) C S hl On.1 rfl (c_isKnown On ((Nk 1) z) (by first | omega | exact hL _ | exact hP _ | exact hF _) hL) (cwV 1 C.2.2.2.2 gX0_levelOfLast_X1_isKnown rfl rfl rfl (by decide +kernel) ⟨Nat.le_of_ble_eq_true rfl, Nat.le_of_ble_eq_true rfl⟩) rfl rfl (Nat.le_of_ble_eq_true rfl) ⟨Nat.le_of_ble_eq_true rfl, Nat.le_of_ble_eq_true rfl⟩ dX0_levelOfLast_23 (fun v hv => ?_)
        subst hv
        refine q_ifneB (tgt := 64) C dX0_levelOfLast_26 (by decide) (fun c26 => ?_) (fun c26 => ?_)
        · refine q_iinc (d := 1) (lv' := [(4, .int (nI (z + 1))), (3, .int (mI q)), (0, .ref hk), (1, .ref hn), (2, .ref hs)]) C dX0_levelOfLast_64 hl (k := 0) rfl (by decide) (by decide) rfl (fun ls hl => ?_)
          refine lv_goto (tgt := 5) C.1 C.2.1 dX0_levelOfLast_67 (by decide) ?_
          exact ih5 (z + 1) q (by omega) (by omega) (by rw [hq, lastF_k c26]) (by omega) _ (lv_sub hl [0, 1, 2, 3, 4] rfl)
        · refine lv_aload_n C.1 C.2.1 dX0_levelOfLast_29 rfl (lv_at hl 4 rfl) ?_
          refine lv_aload_n C.1 C.2.1 dX0_levelOfLast_30 rfl (lv_at hl 3 rfl) ?_
          refine lv_aload_n C.1 C.2.1 dX0_levelOfLast_31 rfl (lv_at hl 2 rfl) ?_
          refine o_get (v := .ref (ak 1)) C S Ok rfl inX0_levelOfLast_X0 1 (Nat.le_of_ble_eq_true rfl) lkX0_levelOfLast_34 rfl dX0_levelOfLast_32 ?_
          refine lv_iload C.1 C.2.1 dX0_levelOfLast_35 (lv_at hl 0 rfl) ?_
          refine o_nald (x := (Nk 1) z) C S Ok 1 (Nat.le_of_ble_eq_true rfl) rfl z rfl (show z < w from by first | omega | exact hL _ | exact hP _ | exact hF _) (show w < 2 ^ 31 by omega) rfl dX0_levelOfLast_37 ?_
          refine q_callSi (As := [.int (nI ((Nk 1) z))]) (rest := [.ref hs]) C S hl On.1 rfl (c_leastOf On ((Nk 1) z) (by first | omega | exact hL _ | exact hP _ | exact hF _) ) (cwV 1 C.2.2.2.2 gX0_levelOfLast_X1_leastOf rfl rfl rfl (by decide +kernel) ⟨Nat.le_of_ble_eq_true rfl, Nat.le_of_ble_eq_true rfl⟩) rfl rfl (Nat.le_of_ble_eq_true rfl) ⟨Nat.le_of_ble_eq_true rfl, Nat.le_of_ble_eq_true rfl⟩ dX0_levelOfLast_38 (fun v hv => ?_)
          subst hv
          refine q_callSi (As := [.int (nI ((Nn 1) ((Nk 1) z)))]) (rest := []) C S hl Os.1 rfl (c_levelOf Os ((Nn 1) ((Nk 1) z)) (by first | omega | exact hL _ | exact hP _ | exact hF _) hc hF) (cwV 1 C.2.2.2.2 gX0_levelOfLast_X3_levelOf rfl rfl rfl (by decide +kernel) ⟨Nat.le_of_ble_eq_true rfl, Nat.le_of_ble_eq_true rfl⟩) rfl rfl (Nat.le_of_ble_eq_true rfl) ⟨Nat.le_of_ble_eq_true rfl, Nat.le_of_ble_eq_true rfl⟩ dX0_levelOfLast_41 (fun v hv => ?_)
          subst hv
          refine lv_istore (lv' := [(5, .int (mI (levF (Ns 0) (Is 1) ((Nn 1) ((Nk 1) z))))), (4, .int (nI z)), (3, .int (mI q)), (0, .ref hk), (1, .ref hn), (2, .ref hs)]) C.1 C.2.1 dX0_levelOfLast_44 hl (by decide) rfl (fun ls hl => ?_)
          refine lv_iload_n C.1 C.2.1 dX0_levelOfLast_46 rfl (lv_at hl 2 rfl) ?_
          refine lv_iload C.1 C.2.1 dX0_levelOfLast_47 (lv_at hl 0 rfl) ?_
          refine lv_iconst (v := (-1)) C.1 C.2.1 dX0_levelOfLast_49 (by decide) ?_
          refine lv_icmp_ne (tgt := 58) C.1 C.2.1 dX0_levelOfLast_50 (by decide) (fun c50 => ?_) (fun c50 => ?_)
          · refine lv_iload C.1 C.2.1 dX0_levelOfLast_58 (lv_at hl 0 rfl) ?_
            refine va_mmax C.1 C.2.1 (C.2.2.1.trans hl.1.symm) C.2.2.2.1 (C.2.2.2.2 _ (List.mem_of_getElem? (i := 2) rfl)) (C.2.2.2.2 _ (List.mem_of_getElem? (i := 3) rfl)) (C.2.2.2.2 _ (List.mem_of_getElem? (i := 4) rfl)) (C.2.2.2.2 _ (List.mem_of_getElem? (i := 5) rfl)) (Nat.le_of_ble_eq_true rfl) (Nat.le_of_ble_eq_true rfl) (Nat.le_of_ble_eq_true rfl) (Nat.le_of_ble_eq_true rfl) dX0_levelOfLast_60 ?_
            rw [mI_mx (by omega) (Nat.lt_of_le_of_lt levF_le (by omega))]
            refine lv_istore_n (lv' := [(3, .int (mI (max q (levF (Ns 0) (Is 1) (Nn 1 (Nk 1 z)))))), (5, .int (mI (levF (Ns 0) (Is 1) ((Nn 1) ((Nk 1) z))))), (4, .int (nI z)), (0, .ref hk), (1, .ref hn), (2, .ref hs)]) C.1 C.2.1 dX0_levelOfLast_63 rfl hl (by decide) rfl (fun ls hl => ?_)
            refine q_iinc (d := 1) (lv' := [(4, .int (nI (z + 1))), (3, .int (mI (max q (levF (Ns 0) (Is 1) (Nn 1 (Nk 1 z)))))), (5, .int (mI (levF (Ns 0) (Is 1) ((Nn 1) ((Nk 1) z))))), (0, .ref hk), (1, .ref hn), (2, .ref hs)]) C dX0_levelOfLast_64 hl (k := 2) rfl (by decide) (by decide) rfl (fun ls hl => ?_)
            refine lv_goto (tgt := 5) C.1 C.2.1 dX0_levelOfLast_67 (by decide) ?_
            exact ih5 (z + 1) (max q (levF (Ns 0) (Is 1) (Nn 1 (Nk 1 z)))) (by omega) (by omega) (by rw [hq, lastF_u c26, if_neg (fun q => c50 ((mI_ne (Nat.lt_of_le_of_lt levF_le (by omega))).mpr q))]) (by have := levF_le (fr := Ns 0) (x := Nn 1 (Nk 1 z)) (n := Is 1); omega) _ (lv_sub hl [0, 1, 3, 4, 5] rfl)
          · refine lv_bipush (v := nI 8) C.1 C.2.1 dX0_levelOfLast_53 (by decide) ?_
            refine lv_goto (tgt := 60) C.1 C.2.1 dX0_levelOfLast_55 (by decide) ?_
            refine va_mmax C.1 C.2.1 (C.2.2.1.trans hl.1.symm) C.2.2.2.1 (C.2.2.2.2 _ (List.mem_of_getElem? (i := 2) rfl)) (C.2.2.2.2 _ (List.mem_of_getElem? (i := 3) rfl)) (C.2.2.2.2 _ (List.mem_of_getElem? (i := 4) rfl)) (C.2.2.2.2 _ (List.mem_of_getElem? (i := 5) rfl)) (Nat.le_of_ble_eq_true rfl) (Nat.le_of_ble_eq_true rfl) (Nat.le_of_ble_eq_true rfl) (Nat.le_of_ble_eq_true rfl) dX0_levelOfLast_60 ?_
            rw [show nI 8 = mI 9 from rfl, mI_mx (by omega) (by decide)]
            refine lv_istore_n (lv' := [(3, .int (mI (max q 9))), (5, .int (mI (levF (Ns 0) (Is 1) ((Nn 1) ((Nk 1) z))))), (4, .int (nI z)), (0, .ref hk), (1, .ref hn), (2, .ref hs)]) C.1 C.2.1 dX0_levelOfLast_63 rfl hl (by decide) rfl (fun ls hl => ?_)
            refine q_iinc (d := 1) (lv' := [(4, .int (nI (z + 1))), (3, .int (mI (max q 9))), (5, .int (mI (levF (Ns 0) (Is 1) ((Nn 1) ((Nk 1) z))))), (0, .ref hk), (1, .ref hn), (2, .ref hs)]) C dX0_levelOfLast_64 hl (k := 2) rfl (by decide) (by decide) rfl (fun ls hl => ?_)
            refine lv_goto (tgt := 5) C.1 C.2.1 dX0_levelOfLast_67 (by decide) ?_
            exact ih5 (z + 1) (max q 9) (by omega) (by omega) (by rw [hq, lastF_u c26, if_pos ((mI_ne (Nat.lt_of_le_of_lt levF_le (by omega))).mp c50)]) (by omega) _ (lv_sub hl [0, 1, 3, 4, 5] rfl)
  exact lp5 (w + 1) 0 0 (by omega) (by omega) rfl (by omega) _ (lv_sub hl [0, 1, 2, 3, 4] rfl)
theorem inX3_reasonNotToStart_X3 : ∀ w ∈ u_ws RX3 TX3 6, w ∈ wsX3_reasonNotToStart := (fun _ h => (List.mem_cons_of_mem _ (List.mem_append_left _ (List.mem_append_right _ h))))
theorem lkX3_reasonNotToStart_22 : Cond.fieldLink RX3 22 (TX3 1).1 (TX3 1).2.1 (TX3 1).2.2.1 ∈ wsX3_reasonNotToStart := List.mem_of_getElem? (i := 1) rfl
theorem lkX3_reasonNotToStart_9 : Cond.fieldLink RX3 9 (TX3 0).1 (TX3 0).2.1 (TX3 0).2.2.1 ∈ wsX3_reasonNotToStart := List.mem_of_getElem? (i := 2) rfl
set_option maxHeartbeats 4000000 in
set_option maxRecDepth 100000 in
theorem c_reason {l : Launch} {G : fw_G} {A : Nat → Prop} {f0 : fw_F} {bs hs : Nat} {as_ : Nat → Nat} {Is : Nat → Nat} {Ns : Nat → Nat → Nat} {Bs : Nat → Nat → Bool} {Js : Nat → Nat → Int64} {bn hn : Nat} {an : Nat → Nat} {In : Nat → Nat} {Nn : Nat → Nat → Nat} {Bn : Nat → Nat → Bool} {Jn : Nat → Nat → Int64} (Os : isO G dS f0 bs hs as_ Is Ns Bs Js) (On : isO G dN f0 bn hn an In Nn Bn Jn) (hc : Is 1 ≤ 32) (hF : ∀ i, Ns 0 i < 64) (hL : ∀ i, Nn 1 i < 64)  : Met l yX3_reasonNotToStart wsX3_reasonNotToStart ({ frames := 1, cells := 0, slots := 0, locals := 21 }) (va_Pc [.ref hs, .ref hn] (fw_P G A f0)) (vp_Si (fun (r : Int32) => r = (if allb (fun i => Bn 4 (Nn 1 (Ns 0 i))) (Is 1) = true then (if 8 < Is 1 then (-2) else 0) else (-1)))) 0 0 (fun _ => False) := by
  refine q_head rfl (by decide) (Nat.le_of_ble_eq_true rfl) ?_
  intro p e s m below meth c ls C hr hlk hnm P hl
  have S := P.start
  have hl : lv_has ls 3 [(0, .ref hs), (1, .ref hn)] := hl
  refine lv_iconst (v := nI 0) C.1 C.2.1 dX3_reasonNotToStart_0 (by decide) ?_
  refine lv_istore_n (lv' := [(2, .int (nI 0)), (0, .ref hs), (1, .ref hn)]) C.1 C.2.1 dX3_reasonNotToStart_1 rfl hl (by decide) rfl (fun ls hl => ?_)
  have lp2 : ∀ (n2 : Nat) (z : Nat), Is 1 - z < n2 → (z ≤ Is 1) → (∀ i, i < z → Bn 4 (Nn 1 (Ns 0 i)) = true) → ∀ (ls : Array Slot), lv_has ls 3 [(2, .int (nI z)), (0, .ref hs), (1, .ref hn)] → W p l e ({ frames := 1, cells := 0, slots := 0, locals := 21 }) s m [.ref hs, .ref hn].toArray below meth c s.heap [] 0 0 (MQ below (vp_Si (fun (r : Int32) => r = (if allb (fun i => Bn 4 (Nn 1 (Ns 0 i))) (Is 1) = true then (if 8 < Is 1 then (-2) else 0) else (-1)))) [.ref hs, .ref hn].toArray s 0 0 (fun _ => False)) (F0 m 2 ls []) := by
    intro n2
    induction n2 with
    | zero => intro z hme2; exact absurd hme2 (Nat.not_lt_zero _)
    | succ n2 ih2 =>
      intro z hme2 hz hz2 ls hl
      refine lv_iload_n C.1 C.2.1 dX3_reasonNotToStart_2 rfl (lv_at hl 0 rfl) ?_
      refine lv_aload_n C.1 C.2.1 dX3_reasonNotToStart_3 rfl (lv_at hl 1 rfl) ?_
      refine o_get (v := .int (nI (Is 1))) C S Os rfl inX3_reasonNotToStart_X3 1 (Nat.le_of_ble_eq_true rfl) lkX3_reasonNotToStart_22 rfl dX3_reasonNotToStart_4 ?_
      refine q_ge (tgt := 31) C (by omega) (by omega) dX3_reasonNotToStart_7 (by decide) (fun c7 => ?_) (fun c7 => ?_)
      · refine lv_aload_n C.1 C.2.1 dX3_reasonNotToStart_31 rfl (lv_at hl 1 rfl) ?_
        refine o_get (v := .int (nI (Is 1))) C S Os rfl inX3_reasonNotToStart_X3 1 (Nat.le_of_ble_eq_true rfl) lkX3_reasonNotToStart_22 rfl dX3_reasonNotToStart_32 ?_
        refine lv_bipush (v := nI 8) C.1 C.2.1 dX3_reasonNotToStart_35 (by decide) ?_
        refine q_le (tgt := 45) C (by omega) (by decide) dX3_reasonNotToStart_37 (by decide) (fun c37 => ?_) (fun c37 => ?_)
        · refine lv_iconst (v := nI 0) C.1 C.2.1 dX3_reasonNotToStart_45 (by decide) ?_
          exact q_retSi C hr hlk (by rw [if_pos (allb_t (fun i hi => hz2 i (by omega))), if_neg (by omega)]; rfl) dX3_reasonNotToStart_46
        · refine lv_bipush (v := (-2)) C.1 C.2.1 dX3_reasonNotToStart_40 (by decide) ?_
          refine lv_goto (tgt := 46) C.1 C.2.1 dX3_reasonNotToStart_42 (by decide) ?_
          exact q_retSi C hr hlk (by rw [if_pos (allb_t (fun i hi => hz2 i (by omega))), if_pos (by omega)]) dX3_reasonNotToStart_46
      · refine lv_aload_n C.1 C.2.1 dX3_reasonNotToStart_10 rfl (lv_at hl 2 rfl) ?_
        refine lv_aload_n C.1 C.2.1 dX3_reasonNotToStart_11 rfl (lv_at hl 1 rfl) ?_
        refine o_get (v := .ref (as_ 0)) C S Os rfl inX3_reasonNotToStart_X3 0 (Nat.le_of_ble_eq_true rfl) lkX3_reasonNotToStart_9 rfl dX3_reasonNotToStart_12 ?_
        refine lv_iload_n C.1 C.2.1 dX3_reasonNotToStart_15 rfl (lv_at hl 0 rfl) ?_
        refine o_nald (x := (Ns 0) z) C S Os 0 (Nat.le_of_ble_eq_true rfl) rfl z rfl (show z < 32 from by first | omega | exact hL _ | exact hP _ | exact hF _) (Nat.le_of_ble_eq_true rfl) rfl dX3_reasonNotToStart_16 ?_
        refine q_callSi (As := [.int (nI ((Ns 0) z))]) (rest := []) C S hl On.1 rfl (c_hasSpan On ((Ns 0) z) (by first | omega | exact hL _ | exact hP _ | exact hF _) hL) (cwV 1 C.2.2.2.2 gX3_reasonNotToStart_X1_hasSpan rfl rfl rfl (by decide +kernel) ⟨Nat.le_of_ble_eq_true rfl, Nat.le_of_ble_eq_true rfl⟩) rfl rfl (Nat.le_of_ble_eq_true rfl) ⟨Nat.le_of_ble_eq_true rfl, Nat.le_of_ble_eq_true rfl⟩ dX3_reasonNotToStart_17 (fun v hv => ?_)
        subst hv
        refine q_ifneB (tgt := 25) C dX3_reasonNotToStart_20 (by decide) (fun c20 => ?_) (fun c20 => ?_)
        · refine q_iinc (d := 1) (lv' := [(2, .int (nI (z + 1))), (0, .ref hs), (1, .ref hn)]) C dX3_reasonNotToStart_25 hl (k := 0) rfl (by decide) (by decide) rfl (fun ls hl => ?_)
          refine lv_goto (tgt := 2) C.1 C.2.1 dX3_reasonNotToStart_28 (by decide) ?_
          exact ih2 (z + 1) (by omega) (by omega) (fun i hi => by rcases Nat.lt_or_ge i z with q | q; exact hz2 i q; rw [show i = z by omega]; exact c20) _ (lv_sub hl [0, 1, 2] rfl)
        · refine lv_iconst (v := (-1)) C.1 C.2.1 dX3_reasonNotToStart_23 (by decide) ?_
          exact q_retSi C hr hlk (by rw [if_neg (by rw [allb_f (i := z) (by omega) c20]; decide)]) dX3_reasonNotToStart_24
  exact lp2 (Is 1 + 1) 0 (by omega) (by omega) (fun i hi => absurd hi (Nat.not_lt_zero i)) _ (lv_sub hl [0, 1, 2] rfl)
theorem inX3_gatherFree_X2 : ∀ w ∈ u_ws RX2 TX2 3, w ∈ wsX3_gatherFree := (fun _ h => (List.mem_cons_of_mem _ (List.mem_append_left _ (List.mem_append_left _ (List.mem_append_right _ h)))))
theorem lkX3_gatherFree_55 : Cond.fieldLink RX3 55 (TX2 0).1 (TX2 0).2.1 (TX2 0).2.2.1 ∈ wsX3_gatherFree := List.mem_of_getElem? (i := 1) rfl
theorem inX3_gatherFree_X3 : ∀ w ∈ u_ws RX3 TX3 6, w ∈ wsX3_gatherFree := (fun _ h => (List.mem_cons_of_mem _ (List.mem_append_left _ (List.mem_append_right _ h))))
theorem lkX3_gatherFree_9 : Cond.fieldLink RX3 9 (TX3 0).1 (TX3 0).2.1 (TX3 0).2.2.1 ∈ wsX3_gatherFree := List.mem_of_getElem? (i := 2) rfl
theorem lkX3_gatherFree_22 : Cond.fieldLink RX3 22 (TX3 1).1 (TX3 1).2.1 (TX3 1).2.2.1 ∈ wsX3_gatherFree := List.mem_of_getElem? (i := 3) rfl
set_option maxHeartbeats 4000000 in
set_option maxRecDepth 100000 in
theorem c_gatherFree {l : Launch} {G : fw_G} {A : Nat → Prop} {f0 : fw_F} {bs hs : Nat} {as_ : Nat → Nat} {Is : Nat → Nat} {Ns : Nat → Nat → Nat} {Bs : Nat → Nat → Bool} {Js : Nat → Nat → Int64} {br hro : Nat} {ar : Nat → Nat} {Ir : Nat → Nat} {Nr : Nat → Nat → Nat} {Br : Nat → Nat → Bool} {Jr : Nat → Nat → Int64} {bn hn : Nat} {an : Nat → Nat} {In : Nat → Nat} {Nn : Nat → Nat → Nat} {Bn : Nat → Nat → Bool} {Jn : Nat → Nat → Int64} (Os : isO G dS f0 bs hs as_ Is Ns Bs Js) (Or : isO G dR f0 br hro ar Ir Nr Br Jr) (On : isO G dN f0 bn hn an In Nn Bn Jn) (hd1 : br + 4 ≤ bs ∨ bs + 7 ≤ br) (hd2 : bn + 8 ≤ bs ∨ bs + 7 ≤ bn) (h0 : Is 1 = 0) (hm : Ir 0 ≤ 32) (hP : ∀ i, Nr 1 i < 64) (hF : ∀ i, Ns 0 i < 64) (hL : ∀ i, Nn 1 i < 64)  : Met l yX3_gatherFree wsX3_gatherFree ({ frames := 2, cells := 0, slots := 0, locals := 43 }) (va_Pc [.ref hs, .ref hro, .ref hn] (fw_P G A f0)) (va_Qv (fun (f1 : fw_F) => isO G dS f1 bs hs as_ (va_up Is 1 (gth (Nr 1) (Nn 1) (Bn 2) (Is 1) (Ns 0) (Ir 0)).1) (va_up Ns 0 (gth (Nr 1) (Nn 1) (Bn 2) (Is 1) (Ns 0) (Ir 0)).2) Bs Js ∧ fw_fr f0 f1 bs (bs + 7)) (fw_B G A) A) 0 0 A := by
  refine q_head rfl (by decide) (Nat.le_of_ble_eq_true rfl) ?_
  intro p e s m below meth c ls C hr hlk hnm P hl
  have S := P.start
  have hl : lv_has ls 5 [(0, .ref hs), (1, .ref hro), (2, .ref hn)] := hl
  have F := fw_fr_rf f0 bs (bs + 7)
  refine lv_iconst (v := nI 0) C.1 C.2.1 dX3_gatherFree_0 (by decide) ?_
  refine lv_istore_n (lv' := [(3, .int (nI 0)), (0, .ref hs), (1, .ref hro), (2, .ref hn)]) C.1 C.2.1 dX3_gatherFree_1 rfl hl (by decide) rfl (fun ls hl => ?_)
  have lp2 : ∀ (n2 : Nat) (z : Nat) (I3 : Nat → Nat) (N3 : Nat → Nat → Nat), Ir 0 - z < n2 → (z ≤ Ir 0) → (I3 = va_up Is 1 (gth (Nr 1) (Nn 1) (Bn 2) (Is 1) (Ns 0) z).1) → (N3 = va_up Ns 0 (gth (Nr 1) (Nn 1) (Bn 2) (Is 1) (Ns 0) z).2) → (I3 1 ≤ z) → (∀ i, N3 0 i < 64) → ∀ (f : fw_F) (H : Heap) (locs : List Loc) (ls : Array Slot), fw_S G A s f H locs → isO G dS f bs hs as_ I3 N3 Bs Js → fw_fr f0 f bs (bs + 7) → lv_has ls 5 [(3, .int (nI z)), (0, .ref hs), (1, .ref hro), (2, .ref hn)] → W p l e ({ frames := 2, cells := 0, slots := 0, locals := 43 }) s m [.ref hs, .ref hro, .ref hn].toArray below meth c H locs 0 0 (MQ below (va_Qv (fun (f1 : fw_F) => isO G dS f1 bs hs as_ (va_up Is 1 (gth (Nr 1) (Nn 1) (Bn 2) (Is 1) (Ns 0) (Ir 0)).1) (va_up Ns 0 (gth (Nr 1) (Nn 1) (Bn 2) (Is 1) (Ns 0) (Ir 0)).2) Bs Js ∧ fw_fr f0 f1 bs (bs + 7)) (fw_B G A) A) [.ref hs, .ref hro, .ref hn].toArray s 0 0 A) (F0 m 2 ls []) := by
    intro n2
    induction n2 with
    | zero => intro z I3 N3 hme2; exact absurd hme2 (Nat.not_lt_zero _)
    | succ n2 ih2 =>
      intro z I3 N3 hme2 hz hI3 hN3 hb hF3 f H locs ls S Os F hl
      have hN30 : N3 0 = (gth (Nr 1) (Nn 1) (Bn 2) (Is 1) (Ns 0) z).2 := by rw [hN3, up_s]
      have hI31 : I3 1 = (gth (Nr 1) (Nn 1) (Bn 2) (Is 1) (Ns 0) z).1 := by rw [hI3, up_s]
      refine lv_iload_n C.1 C.2.1 dX3_gatherFree_2 rfl (lv_at hl 0 rfl) ?_
      refine lv_aload_n C.1 C.2.1 dX3_gatherFree_3 rfl (lv_at hl 2 rfl) ?_
      refine o_get (v := .int (nI (Ir 0))) C S (o_fr Or F hd1) rfl inX3_gatherFree_X2 0 (Nat.le_of_ble_eq_true rfl) lkX3_gatherFree_55 rfl dX3_gatherFree_4 ?_
      refine q_ge (tgt := 67) C (by omega) (by omega) dX3_gatherFree_7 (by decide) (fun c7 => ?_) (fun c7 => ?_)
      · exact q_retQv C S hr hlk ⟨by rw [show Ir 0 = z by omega, ← hI3, ← hN3]; exact Os, F⟩ dX3_gatherFree_67
      · refine lv_aload_n C.1 C.2.1 dX3_gatherFree_10 rfl (lv_at hl 3 rfl) ?_
        refine lv_aload_n C.1 C.2.1 dX3_gatherFree_11 rfl (lv_at hl 2 rfl) ?_
        refine o_getN (v := .ref (ar 1)) C S (o_fr Or F hd1) rfl inX3_gatherFree_X2 1 (Nat.le_of_ble_eq_true rfl) S.2.2.2.1.2.1.2.2 rfl dX3_gatherFree_12 ?_
        refine lv_iload_n C.1 C.2.1 dX3_gatherFree_15 rfl (lv_at hl 0 rfl) ?_
        refine o_nald (x := (Nr 1) z) C S (o_fr Or F hd1) 1 (Nat.le_of_ble_eq_true rfl) rfl z rfl (show z < 32 from by first | omega | exact hL _ | exact hP _ | exact hF _) (Nat.le_of_ble_eq_true rfl) rfl dX3_gatherFree_16 ?_
        refine q_callSi (As := [.int (nI ((Nr 1) z))]) (rest := []) C S hl (o_fr On F hd2).1 rfl (c_leastOf (o_fr On F hd2) ((Nr 1) z) (by first | omega | exact hL _ | exact hP _ | exact hF _) ) (cwV 1 C.2.2.2.2 gX3_gatherFree_X1_leastOf rfl rfl rfl (by decide +kernel) ⟨Nat.le_of_ble_eq_true rfl, Nat.le_of_ble_eq_true rfl⟩) rfl rfl (Nat.le_of_ble_eq_true rfl) ⟨Nat.le_of_ble_eq_true rfl, Nat.le_of_ble_eq_true rfl⟩ dX3_gatherFree_17 (fun v hv => ?_)
        subst hv
        refine lv_istore (lv' := [(4, .int (nI ((Nn 1) ((Nr 1) z)))), (3, .int (nI z)), (0, .ref hs), (1, .ref hro), (2, .ref hn)]) C.1 C.2.1 dX3_gatherFree_20 hl (by decide) rfl (fun ls hl => ?_)
        refine lv_aload_n C.1 C.2.1 dX3_gatherFree_22 rfl (lv_at hl 4 rfl) ?_
        refine lv_iload C.1 C.2.1 dX3_gatherFree_23 (lv_at hl 0 rfl) ?_
        refine q_callSi (As := [.int (nI ((Nn 1) ((Nr 1) z)))]) (rest := []) C S hl (o_fr On F hd2).1 rfl (c_isKnown (o_fr On F hd2) ((Nn 1) ((Nr 1) z)) (by first | omega | exact hL _ | exact hP _ | exact hF _) hL) (cwV 1 C.2.2.2.2 gX3_gatherFree_X1_isKnown rfl rfl rfl (by decide +kernel) ⟨Nat.le_of_ble_eq_true rfl, Nat.le_of_ble_eq_true rfl⟩) rfl rfl (Nat.le_of_ble_eq_true rfl) ⟨Nat.le_of_ble_eq_true rfl, Nat.le_of_ble_eq_true rfl⟩ dX3_gatherFree_25 (fun v hv => ?_)
        subst hv
        refine q_ifneB (tgt := 61) C dX3_gatherFree_28 (by decide) (fun c28 => ?_) (fun c28 => ?_)
        · refine q_iinc (d := 1) (lv' := [(3, .int (nI (z + 1))), (4, .int (nI ((Nn 1) ((Nr 1) z)))), (0, .ref hs), (1, .ref hro), (2, .ref hn)]) C dX3_gatherFree_61 hl (k := 1) rfl (by decide) (by decide) rfl (fun ls hl => ?_)
          refine lv_goto (tgt := 2) C.1 C.2.1 dX3_gatherFree_64 (by decide) ?_
          exact ih2 (z + 1) I3 N3 (by omega) (by omega) (by rw [gth_k c28]; exact hI3) (by rw [gth_k c28]; exact hN3) (by omega) hF3 _ _ _ _ S Os F (lv_sub hl [0, 2, 3, 4] rfl)
        · refine lv_aload_n C.1 C.2.1 dX3_gatherFree_31 rfl (lv_at hl 2 rfl) ?_
          refine lv_iload C.1 C.2.1 dX3_gatherFree_32 (lv_at hl 0 rfl) ?_
          refine q_callSi (As := [.int (nI ((Nn 1) ((Nr 1) z)))]) (rest := []) C S hl Os.1 rfl (c_isFreeName Os ((Nn 1) ((Nr 1) z)) (by first | omega | exact hL _ | exact hP _ | exact hF _) (by omega) hF3) (cwV 1 C.2.2.2.2 gX3_gatherFree_X3_isFreeName rfl rfl rfl (by decide +kernel) ⟨Nat.le_of_ble_eq_true rfl, Nat.le_of_ble_eq_true rfl⟩) rfl rfl (Nat.le_of_ble_eq_true rfl) ⟨Nat.le_of_ble_eq_true rfl, Nat.le_of_ble_eq_true rfl⟩ dX3_gatherFree_34 (fun v hv => ?_)
          subst hv
          refine q_ifneB (tgt := 61) C dX3_gatherFree_37 (by decide) (fun c37 => ?_) (fun c37 => ?_)
          · refine q_iinc (d := 1) (lv' := [(3, .int (nI (z + 1))), (4, .int (nI ((Nn 1) ((Nr 1) z)))), (0, .ref hs), (1, .ref hro), (2, .ref hn)]) C dX3_gatherFree_61 hl (k := 1) rfl (by decide) (by decide) rfl (fun ls hl => ?_)
            refine lv_goto (tgt := 2) C.1 C.2.1 dX3_gatherFree_64 (by decide) ?_
            exact ih2 (z + 1) I3 N3 (by omega) (by omega) (by rw [gth_o (by rw [← hN30, ← hI31]; exact of_decide_eq_true c37)]; exact hI3) (by rw [gth_o (by rw [← hN30, ← hI31]; exact of_decide_eq_true c37)]; exact hN3) (by omega) hF3 _ _ _ _ S Os F (lv_sub hl [0, 2, 3, 4] rfl)
          · refine lv_aload_n C.1 C.2.1 dX3_gatherFree_40 rfl (lv_at hl 2 rfl) ?_
            refine o_get (v := .ref (as_ 0)) C S Os rfl inX3_gatherFree_X3 0 (Nat.le_of_ble_eq_true rfl) lkX3_gatherFree_9 rfl dX3_gatherFree_41 ?_
            refine lv_aload_n C.1 C.2.1 dX3_gatherFree_44 rfl (lv_at hl 2 rfl) ?_
            refine o_get (v := .int (nI (I3 1))) C S Os rfl inX3_gatherFree_X3 1 (Nat.le_of_ble_eq_true rfl) lkX3_gatherFree_22 rfl dX3_gatherFree_45 ?_
            refine lv_iload C.1 C.2.1 dX3_gatherFree_48 (lv_at hl 0 rfl) ?_
            refine o_nast C S Os F 0 (Nat.le_of_ble_eq_true rfl) rfl (I3 1) rfl (show (I3 1) < 32 from by omega) (Nat.le_of_ble_eq_true rfl) ⟨by omega, by omega⟩ dX3_gatherFree_50 (fun f H locs S Os F => ?_)
            refine lv_aload_n C.1 C.2.1 dX3_gatherFree_51 rfl (lv_at hl 2 rfl) ?_
            refine lv_dup C.1 C.2.1 dX3_gatherFree_52 rfl ?_
            refine o_get (v := .int (nI (I3 1))) C S Os rfl inX3_gatherFree_X3 1 (Nat.le_of_ble_eq_true rfl) lkX3_gatherFree_22 rfl dX3_gatherFree_53 ?_
            refine lv_iconst (v := nI 1) C.1 C.2.1 dX3_gatherFree_56 (by decide) ?_
            refine q_iadd C dX3_gatherFree_57 ?_
            refine o_puti C S Os F rfl inX3_gatherFree_X3 tyX3 tyX3_ok nmX3 1 (Nat.le_of_ble_eq_true rfl) rfl lkX3_gatherFree_22 rfl rfl ⟨by omega, by omega⟩ dX3_gatherFree_58 (fun f H locs S Os F => ?_)
            refine q_iinc (d := 1) (lv' := [(3, .int (nI (z + 1))), (4, .int (nI ((Nn 1) ((Nr 1) z)))), (0, .ref hs), (1, .ref hro), (2, .ref hn)]) C dX3_gatherFree_61 hl (k := 1) rfl (by decide) (by decide) rfl (fun ls hl => ?_)
            refine lv_goto (tgt := 2) C.1 C.2.1 dX3_gatherFree_64 (by decide) ?_
            exact ih2 (z + 1) (va_up I3 1 ((I3 1) + 1)) (va_up N3 0 (va_up (N3 0) (I3 1) ((Nn 1) ((Nr 1) z)))) (by omega) (by omega) (by rw [gth_y c28 (by rw [← hN30, ← hI31]; exact Decidable.not_not.mp (of_decide_eq_false c37)), hI3, bx_uu, up_s]) (by rw [gth_y c28 (by rw [← hN30, ← hI31]; exact Decidable.not_not.mp (of_decide_eq_false c37)), hN3, bx_uu, up_s, hI3, up_s]) (by show I3 1 + 1 ≤ z + 1; omega) (fun i => by show va_up _ _ _ _ < 64; by_cases q : i = I3 1; rw [q, up_s]; exact hL _; rw [up_n q]; exact hF3 i) _ _ _ _ S Os F (lv_sub hl [0, 2, 3, 4] rfl)
  exact lp2 (Ir 0 + 1) 0 Is Ns (by omega) (by omega) (up_id Is 1).symm (up_id Ns 0).symm (by omega) hF _ _ _ _ S Os F (lv_sub hl [0, 1, 2, 3] rfl)
theorem inX3_addWay_X3 : ∀ w ∈ u_ws RX3 TX3 6, w ∈ wsX3_addWay := (fun _ h => (List.mem_cons_of_mem _ (List.mem_append_left _ (List.mem_append_right _ h))))
theorem lkX3_addWay_26 : Cond.fieldLink RX3 26 (TX3 2).1 (TX3 2).2.1 (TX3 2).2.2.1 ∈ wsX3_addWay := List.mem_of_getElem? (i := 1) rfl
theorem lkX3_addWay_22 : Cond.fieldLink RX3 22 (TX3 1).1 (TX3 1).2.1 (TX3 1).2.2.1 ∈ wsX3_addWay := List.mem_of_getElem? (i := 2) rfl
theorem lkX3_addWay_15 : Cond.fieldLink RX3 15 (TX3 4).1 (TX3 4).2.1 (TX3 4).2.2.1 ∈ wsX3_addWay := List.mem_of_getElem? (i := 3) rfl
theorem lkX3_addWay_9 : Cond.fieldLink RX3 9 (TX3 0).1 (TX3 0).2.1 (TX3 0).2.2.1 ∈ wsX3_addWay := List.mem_of_getElem? (i := 4) rfl
set_option maxHeartbeats 4000000 in
set_option maxRecDepth 100000 in
theorem c_addWay {l : Launch} {G : fw_G} {A : Nat → Prop} {f0 : fw_F} {bs hs : Nat} {as_ : Nat → Nat} {Is : Nat → Nat} {Ns : Nat → Nat → Nat} {Bs : Nat → Nat → Bool} {Js : Nat → Nat → Int64} {bn hn : Nat} {an : Nat → Nat} {In : Nat → Nat} {Nn : Nat → Nat → Nat} {Bn : Nat → Nat → Bool} {Jn : Nat → Nat → Int64} (Os : isO G dS f0 bs hs as_ Is Ns Bs Js) (On : isO G dN f0 bn hn an In Nn Bn Jn) (hd2 : bn + 8 ≤ bs ∨ bs + 7 ≤ bn) (hc : Is 1 ≤ 8) (hc2 : Is 2 ≤ 200) (hF : ∀ i, Ns 0 i < 64) (hL : ∀ i, Nn 1 i < 64)  : Met l yX3_addWay wsX3_addWay ({ frames := 1, cells := 0, slots := 0, locals := 21 }) (va_Pc [.ref hs, .ref hn] (fw_P G A f0)) (va_Qi (fun (r : Int32) (f1 : fw_F) => (Is 2 < 200 ∧ r = 0 ∧ isO G dS f1 bs hs as_ (va_up Is 2 (Is 2 + 1)) Ns Bs (va_up Js 4 (wset (Js 4) (Is 2 * 8) (Is 1) (fun j => Jn 3 (Nn 1 (Ns 0 j))))) ∨ 200 ≤ Is 2 ∧ r = -4 ∧ isO G dS f1 bs hs as_ Is Ns Bs Js) ∧ fw_fr f0 f1 bs (bs + 7)) (fw_B G A) A) 0 0 A := by
  refine q_head rfl (by decide) (Nat.le_of_ble_eq_true rfl) ?_
  intro p e s m below meth c ls C hr hlk hnm P hl
  have S := P.start
  have hl : lv_has ls 3 [(0, .ref hs), (1, .ref hn)] := hl
  have F := fw_fr_rf f0 bs (bs + 7)
  refine lv_aload_n C.1 C.2.1 dX3_addWay_0 rfl (lv_at hl 0 rfl) ?_
  refine o_get (v := .int (nI (Is 2))) C S Os rfl inX3_addWay_X3 2 (Nat.le_of_ble_eq_true rfl) lkX3_addWay_26 rfl dX3_addWay_1 ?_
  refine lv_sipush (v := nI 200) C.1 C.2.1 dX3_addWay_4 (by decide) ?_
  refine q_lt (tgt := 13) C (by omega) (by decide) dX3_addWay_7 (by decide) (fun c7 => ?_) (fun c7 => ?_)
  · refine lv_iconst (v := nI 0) C.1 C.2.1 dX3_addWay_13 (by decide) ?_
    refine lv_istore_n (lv' := [(2, .int (nI 0)), (0, .ref hs), (1, .ref hn)]) C.1 C.2.1 dX3_addWay_14 rfl hl (by decide) rfl (fun ls hl => ?_)
    have lp15 : ∀ (n15 : Nat) (z : Nat) (J3 : Nat → Nat → Int64), Is 1 - z < n15 → (z ≤ Is 1) → (J3 = va_up Js 4 (wset (Js 4) (Is 2 * 8) z (fun j => Jn 3 (Nn 1 (Ns 0 j))))) → ∀ (f : fw_F) (H : Heap) (locs : List Loc) (ls : Array Slot), fw_S G A s f H locs → isO G dS f bs hs as_ Is Ns Bs J3 → fw_fr f0 f bs (bs + 7) → lv_has ls 3 [(2, .int (nI z)), (0, .ref hs), (1, .ref hn)] → W p l e ({ frames := 1, cells := 0, slots := 0, locals := 21 }) s m [.ref hs, .ref hn].toArray below meth c H locs 0 0 (MQ below (va_Qi (fun (r : Int32) (f1 : fw_F) => (Is 2 < 200 ∧ r = 0 ∧ isO G dS f1 bs hs as_ (va_up Is 2 (Is 2 + 1)) Ns Bs (va_up Js 4 (wset (Js 4) (Is 2 * 8) (Is 1) (fun j => Jn 3 (Nn 1 (Ns 0 j))))) ∨ 200 ≤ Is 2 ∧ r = -4 ∧ isO G dS f1 bs hs as_ Is Ns Bs Js) ∧ fw_fr f0 f1 bs (bs + 7)) (fw_B G A) A) [.ref hs, .ref hn].toArray s 0 0 A) (F0 m 15 ls []) := by
      intro n15
      induction n15 with
      | zero => intro z J3 hme15; exact absurd hme15 (Nat.not_lt_zero _)
      | succ n15 ih15 =>
        intro z J3 hme15 hz hJ3 f H locs ls S Os F hl
        refine lv_iload_n C.1 C.2.1 dX3_addWay_15 rfl (lv_at hl 0 rfl) ?_
        refine lv_aload_n C.1 C.2.1 dX3_addWay_16 rfl (lv_at hl 1 rfl) ?_
        refine o_get (v := .int (nI (Is 1))) C S Os rfl inX3_addWay_X3 1 (Nat.le_of_ble_eq_true rfl) lkX3_addWay_22 rfl dX3_addWay_17 ?_
        refine q_ge (tgt := 59) C (by omega) (by omega) dX3_addWay_20 (by decide) (fun c20 => ?_) (fun c20 => ?_)
        · refine lv_aload_n C.1 C.2.1 dX3_addWay_59 rfl (lv_at hl 1 rfl) ?_
          refine lv_dup C.1 C.2.1 dX3_addWay_60 rfl ?_
          refine o_get (v := .int (nI (Is 2))) C S Os rfl inX3_addWay_X3 2 (Nat.le_of_ble_eq_true rfl) lkX3_addWay_26 rfl dX3_addWay_61 ?_
          refine lv_iconst (v := nI 1) C.1 C.2.1 dX3_addWay_64 (by decide) ?_
          refine q_iadd C dX3_addWay_65 ?_
          refine o_puti C S Os F rfl inX3_addWay_X3 tyX3 tyX3_ok nmX3 2 (Nat.le_of_ble_eq_true rfl) rfl lkX3_addWay_26 rfl rfl ⟨by omega, by omega⟩ dX3_addWay_66 (fun f H locs S Os F => ?_)
          refine lv_iconst (v := nI 0) C.1 C.2.1 dX3_addWay_69 (by decide) ?_
          exact q_retQi C S hr hlk ⟨Or.inl ⟨by omega, rfl, by rw [show Is 1 = z by omega, ← hJ3]; exact Os⟩, F⟩ dX3_addWay_70
        · refine lv_iload_n C.1 C.2.1 dX3_addWay_23 rfl (lv_at hl 0 rfl) ?_
          refine lv_bipush (v := nI 8) C.1 C.2.1 dX3_addWay_24 (by decide) ?_
          refine q_ge (tgt := 59) C (by omega) (by decide) dX3_addWay_26 (by decide) (fun c26 => ?_) (fun c26 => ?_)
          · exact absurd c26 (by omega)
          · refine lv_aload_n C.1 C.2.1 dX3_addWay_29 rfl (lv_at hl 1 rfl) ?_
            refine o_get (v := .ref (as_ 4)) C S Os rfl inX3_addWay_X3 4 (Nat.le_of_ble_eq_true rfl) lkX3_addWay_15 rfl dX3_addWay_30 ?_
            refine lv_aload_n C.1 C.2.1 dX3_addWay_33 rfl (lv_at hl 1 rfl) ?_
            refine o_get (v := .int (nI (Is 2))) C S Os rfl inX3_addWay_X3 2 (Nat.le_of_ble_eq_true rfl) lkX3_addWay_26 rfl dX3_addWay_34 ?_
            refine lv_bipush (v := nI 8) C.1 C.2.1 dX3_addWay_37 (by decide) ?_
            refine q_imul C dX3_addWay_39 ?_
            refine lv_iload_n C.1 C.2.1 dX3_addWay_40 rfl (lv_at hl 0 rfl) ?_
            refine q_iadd C dX3_addWay_41 ?_
            refine lv_aload_n C.1 C.2.1 dX3_addWay_42 rfl (lv_at hl 2 rfl) ?_
            refine lv_aload_n C.1 C.2.1 dX3_addWay_43 rfl (lv_at hl 1 rfl) ?_
            refine o_get (v := .ref (as_ 0)) C S Os rfl inX3_addWay_X3 0 (Nat.le_of_ble_eq_true rfl) lkX3_addWay_9 rfl dX3_addWay_44 ?_
            refine lv_iload_n C.1 C.2.1 dX3_addWay_47 rfl (lv_at hl 0 rfl) ?_
            refine o_nald (x := (Ns 0) z) C S Os 0 (Nat.le_of_ble_eq_true rfl) rfl z rfl (show z < 32 from by first | omega | exact hL _ | exact hP _ | exact hF _) (Nat.le_of_ble_eq_true rfl) rfl dX3_addWay_48 ?_
            refine q_callSl (As := [.int (nI ((Ns 0) z))]) (rest := [.int (nI (((Is 2) * 8) + z)), .ref (as_ 4)]) C S hl (o_fr On F hd2).1 rfl (c_numberOf (o_fr On F hd2) ((Ns 0) z) (by first | omega | exact hL _ | exact hP _ | exact hF _) hL) (cwV 1 C.2.2.2.2 gX3_addWay_X1_numberOf rfl rfl rfl (by decide +kernel) ⟨Nat.le_of_ble_eq_true rfl, Nat.le_of_ble_eq_true rfl⟩) rfl rfl (Nat.le_of_ble_eq_true rfl) ⟨Nat.le_of_ble_eq_true rfl, Nat.le_of_ble_eq_true rfl⟩ dX3_addWay_49 (fun v hv => ?_)
            subst hv
            refine o_last C S Os F 4 (Nat.le_of_ble_eq_true rfl) rfl (((Is 2) * 8) + z) rfl (show ((Is 2) * 8) + z < 1600 from by omega) (Nat.le_of_ble_eq_true rfl) ⟨by omega, by omega⟩ dX3_addWay_52 (fun f H locs S Os F => ?_)
            refine q_iinc (d := 1) (lv' := [(2, .int (nI (z + 1))), (0, .ref hs), (1, .ref hn)]) C dX3_addWay_53 hl (k := 0) rfl (by decide) (by decide) rfl (fun ls hl => ?_)
            refine lv_goto (tgt := 15) C.1 C.2.1 dX3_addWay_56 (by decide) ?_
            exact ih15 (z + 1) (va_up J3 4 (va_up (J3 4) (((Is 2) * 8) + z) ((Jn 3) ((Nn 1) ((Ns 0) z))))) (by omega) (by omega) (by rw [wset_s, hJ3, bx_uu, up_s]) _ _ _ _ S Os F (lv_sub hl [0, 1, 2] rfl)
    exact lp15 (Is 1 + 1) 0 Js (by omega) (by omega) (by rw [wset_0, up_id]) _ _ _ _ S Os F (lv_sub hl [0, 1, 2] rfl)
  · refine lv_bipush (v := (-4)) C.1 C.2.1 dX3_addWay_10 (by decide) ?_
    exact q_retQi C S hr hlk ⟨Or.inr ⟨by omega, rfl, Os⟩, F⟩ dX3_addWay_12
