theorem inX4_name_X4 : ∀ w ∈ u_ws RX4 TX4 7, w ∈ wsX4_name := (fun _ h => (List.mem_cons_of_mem _ (List.mem_append_left _ (List.mem_append_left _ (List.mem_append_right _ h)))))
theorem lkX4_name_10 : Cond.fieldLink RX4 10 (TX4 0).1 (TX4 0).2.1 (TX4 0).2.2.1 ∈ wsX4_name := List.mem_of_getElem? (i := 1) rfl
theorem inX4_name_X1 : ∀ w ∈ u_ws RX1 TX1 7, w ∈ wsX4_name := (fun _ h => (List.mem_cons_of_mem _ (List.mem_append_left _ (List.mem_append_right _ h))))
theorem lkX4_name_48 : Cond.fieldLink RX4 48 (TX1 0).1 (TX1 0).2.1 (TX1 0).2.2.1 ∈ wsX4_name := List.mem_of_getElem? (i := 2) rfl
theorem lkX4_name_33 : Cond.fieldLink RX4 33 (TX4 3).1 (TX4 3).2.1 (TX4 3).2.2.1 ∈ wsX4_name := List.mem_of_getElem? (i := 3) rfl
set_option maxHeartbeats 4000000 in
set_option maxRecDepth 100000 in
theorem p_name {l : Launch} {G : fw_G} {A : Nat → Prop} {f0 : fw_F} {hc : Nat} {aC an ar as_ : Nat → Nat} {In : Nat → Nat} {Nn : Nat → Nat → Nat} {Bn : Nat → Nat → Bool} {Jn : Nat → Nat → Int64} {Ir : Nat → Nat} {Nr : Nat → Nat → Nat} {Br : Nat → Nat → Bool} {Jr : Nat → Nat → Int64} {Is : Nat → Nat} {Ns : Nat → Nat → Nat} {Bs : Nat → Nat → Bool} {Js : Nat → Nat → Int64} {Ic : Nat → Nat} {Nc : Nat → Nat → Nat} {kn : Nat} {K : Nat → kRT} {mn : Nat} {M : Nat → sNT} (Z : CL G f0 f0 hc aC an ar as_ In Nn Bn Jn Ir Nr Br Jr Is Ns Bs Js Ic Nc kn K mn M) (hn : In 0 ≤ 64)  : Met l yX4_name wsX4_name ({ frames := 1, cells := 0, slots := 0, locals := 21 }) (va_Pc [.ref hc] (fw_P G A f0)) (va_Qi (fun (r : Int32) (f1 : fw_F) => In 0 = 64 ∧ r = -1 ∧ CL G f0 f1 hc aC an ar as_ In Nn Bn Jn Ir Nr Br Jr Is Ns Bs Js Ic Nc kn K mn M ∨ In 0 < 64 ∧ r = nI (In 0) ∧ CL G f0 f1 hc aC an ar as_ (va_up In 0 (In 0 + 1)) (va_up Nn 1 (va_up (Nn 1) (In 0) (In 0))) (va_up (va_up Bn 2 (va_up (Bn 2) (In 0) false)) 4 (va_up (Bn 4) (In 0) false)) (va_up (va_up (va_up Jn 3 (va_up (Jn 3) (In 0) 0)) 5 (va_up (Jn 5) (In 0) (-9223372036854775808))) 6 (va_up (Jn 6) (In 0) 9223372036854775807)) Ir Nr Br Jr (va_up (va_up Is 1 0) 2 0) Ns Bs Js Ic Nc kn K mn M) (fw_B G A) A) 0 0 A := by
  refine q_head rfl (by decide) (Nat.le_of_ble_eq_true rfl) ?_
  intro p e s m below meth c ls C hr hlk hnm P hl
  have S := P.start
  have hl : lv_has ls 1 [(0, .ref hc)] := hl
  refine lv_aload_n C.1 C.2.1 dX4_name_0 rfl (lv_at hl 0 rfl) ?_
  refine o_get (v := .ref (aC 0)) C S Z.2.1 rfl inX4_name_X4 0 (Nat.le_of_ble_eq_true rfl) lkX4_name_10 rfl dX4_name_1 ?_
  refine o_get (v := .int (nI (In 0))) C S Z.2.2.1 rfl inX4_name_X1 0 (Nat.le_of_ble_eq_true rfl) lkX4_name_48 rfl dX4_name_4 ?_
  refine lv_bipush (v := nI 64) C.1 C.2.1 dX4_name_7 (by decide) ?_
  refine q_lt (tgt := 14) C (by omega) (by decide) dX4_name_9 (by decide) (fun c9 => ?_) (fun c9 => ?_)
  · refine lv_aload_n C.1 C.2.1 dX4_name_14 rfl (lv_at hl 0 rfl) ?_
    refine o_get (v := .ref (aC 3)) C S Z.2.1 rfl inX4_name_X4 3 (Nat.le_of_ble_eq_true rfl) lkX4_name_33 rfl dX4_name_15 ?_
    refine q_callQv (As := []) (rest := []) C S hl Z.2.2.2.2.1.1 rfl (c_endWays Z.2.2.2.2.1) (cwV 0 C.2.2.2.2 gX4_name_X3_endWays rfl rfl rfl (by decide +kernel) ⟨Nat.le_of_ble_eq_true rfl, Nat.le_of_ble_eq_true rfl⟩) rfl rfl (Nat.le_of_ble_eq_true rfl) ⟨Nat.le_of_ble_eq_true rfl, Nat.le_of_ble_eq_true rfl⟩ dX4_name_18 (fun f H locs hv S => ?_)
    obtain ⟨O1, F1⟩ := hv
    have Z := CL_s Z F1 O1
    refine lv_aload_n C.1 C.2.1 dX4_name_21 rfl (lv_at hl 0 rfl) ?_
    refine o_get (v := .ref (aC 0)) C S Z.2.1 rfl inX4_name_X4 0 (Nat.le_of_ble_eq_true rfl) lkX4_name_10 rfl dX4_name_22 ?_
    refine q_callQi (As := []) (rest := []) C S hl Z.2.2.1.1 rfl (c_addFree Z.2.2.1 (by omega)) (cwV 0 C.2.2.2.2 gX4_name_X1_addFree rfl rfl rfl (by decide +kernel) ⟨Nat.le_of_ble_eq_true rfl, Nat.le_of_ble_eq_true rfl⟩) rfl rfl (Nat.le_of_ble_eq_true rfl) ⟨Nat.le_of_ble_eq_true rfl, Nat.le_of_ble_eq_true rfl⟩ dX4_name_25 (fun v f H locs hv S => ?_)
    obtain ⟨rfl, O1, F1⟩ := hv
    have Z := CL_n Z F1 O1
    exact q_retQi C S hr hlk (Or.inr ⟨by omega, rfl, Z⟩) dX4_name_28
  · refine lv_iconst (v := (-1)) C.1 C.2.1 dX4_name_12 (by decide) ?_
    exact q_retQi C S hr hlk (Or.inl ⟨by omega, rfl, Z⟩) dX4_name_13
theorem inX4_span_X4 : ∀ w ∈ u_ws RX4 TX4 7, w ∈ wsX4_span := (fun _ h => (List.mem_cons_of_mem _ (List.mem_append_left _ (List.mem_append_left _ (List.mem_append_right _ h)))))
theorem lkX4_span_10 : Cond.fieldLink RX4 10 (TX4 0).1 (TX4 0).2.1 (TX4 0).2.2.1 ∈ wsX4_span := List.mem_of_getElem? (i := 1) rfl
theorem lkX4_span_33 : Cond.fieldLink RX4 33 (TX4 3).1 (TX4 3).2.1 (TX4 3).2.2.1 ∈ wsX4_span := List.mem_of_getElem? (i := 2) rfl
set_option maxHeartbeats 4000000 in
set_option maxRecDepth 100000 in
theorem p_span {l : Launch} {G : fw_G} {A : Nat → Prop} {f0 : fw_F} {hc : Nat} {aC an ar as_ : Nat → Nat} {In : Nat → Nat} {Nn : Nat → Nat → Nat} {Bn : Nat → Nat → Bool} {Jn : Nat → Nat → Int64} {Ir : Nat → Nat} {Nr : Nat → Nat → Nat} {Br : Nat → Nat → Bool} {Jr : Nat → Nat → Int64} {Is : Nat → Nat} {Ns : Nat → Nat → Nat} {Bs : Nat → Nat → Bool} {Js : Nat → Nat → Int64} {Ic : Nat → Nat} {Nc : Nat → Nat → Nat} {kn : Nat} {K : Nat → kRT} {mn : Nat} {M : Nat → sNT} (Z : CL G f0 f0 hc aC an ar as_ In Nn Bn Jn Ir Nr Br Jr Is Ns Bs Js Ic Nc kn K mn M) (x : Int32) (u v : Int64) (hn : In 0 ≤ 64) (hL : ∀ i, Nn 1 i < 64)  : Met l yX4_span wsX4_span ({ frames := 2, cells := 0, slots := 0, locals := 53 }) (va_Pc [.ref hc, .int x, .long u, .long v] (fw_P G A f0)) (va_Qi (fun (r : Int32) (f1 : fw_F) => ix x (In 0) = false ∧ r = bI false ∧ CL G f0 f1 hc aC an ar as_ In Nn Bn Jn Ir Nr Br Jr Is Ns Bs Js Ic Nc kn K mn M ∨ ∃ k, k < In 0 ∧ x = nI k ∧ (nrOk Bn Jn (Nn 1 k) u v = false ∧ r = bI false ∧ CL G f0 f1 hc aC an ar as_ In Nn Bn Jn Ir Nr Br Jr Is Ns Bs Js Ic Nc kn K mn M ∨ nrOk Bn Jn (Nn 1 k) u v = true ∧ r = bI true ∧ CL G f0 f1 hc aC an ar as_ In Nn (nrB Bn Jn (Nn 1 k) u v) (nrJ Bn Jn (Nn 1 k) u v) Ir Nr Br Jr (va_up (va_up Is 1 0) 2 0) Ns Bs Js Ic Nc kn K mn M)) (fw_B G A) A) 0 0 A := by
  refine q_head rfl (by decide) (Nat.le_of_ble_eq_true rfl) ?_
  intro p e s m below meth c ls C hr hlk hnm P hl
  have S := P.start
  have hl : lv_has ls 6 [(0, .ref hc), (1, .int x), (2, .long u), (4, .long v)] := hl
  refine lv_aload_n C.1 C.2.1 dX4_span_0 rfl (lv_at hl 0 rfl) ?_
  refine o_get (v := .ref (aC 0)) C S Z.2.1 rfl inX4_span_X4 0 (Nat.le_of_ble_eq_true rfl) lkX4_span_10 rfl dX4_span_1 ?_
  refine lv_iload_n C.1 C.2.1 dX4_span_4 rfl (lv_at hl 1 rfl) ?_
  refine q_callSi (As := [.int x]) (rest := []) C S hl Z.2.2.1.1 rfl (c_has Z.2.2.1 x) (cwV 1 C.2.2.2.2 gX4_span_X1_has rfl rfl rfl (by decide +kernel) ⟨Nat.le_of_ble_eq_true rfl, Nat.le_of_ble_eq_true rfl⟩) rfl rfl (Nat.le_of_ble_eq_true rfl) ⟨Nat.le_of_ble_eq_true rfl, Nat.le_of_ble_eq_true rfl⟩ dX4_span_5 (fun v hv => ?_)
  subst hv
  refine q_ifeqB (tgt := 25) C dX4_span_8 (by decide) (fun c8 => ?_) (fun c8 => ?_)
  · refine lv_iconst (v := nI 0) C.1 C.2.1 dX4_span_25 (by decide) ?_
    exact q_retQz (b := false) C S hr hlk rfl (Or.inl ⟨c8, rfl, Z⟩) dX4_span_26
  · obtain ⟨k, hk, rfl⟩ := ix_t (by omega) c8
    refine lv_aload_n C.1 C.2.1 dX4_span_11 rfl (lv_at hl 0 rfl) ?_
    refine o_get (v := .ref (aC 0)) C S Z.2.1 rfl inX4_span_X4 0 (Nat.le_of_ble_eq_true rfl) lkX4_span_10 rfl dX4_span_12 ?_
    refine lv_iload_n C.1 C.2.1 dX4_span_15 rfl (lv_at hl 1 rfl) ?_
    refine lv_lload_n C.1 C.2.1 dX4_span_16 rfl (lv_at hl 2 rfl) ?_
    refine lv_lload C.1 C.2.1 dX4_span_17 (lv_at hl 3 rfl) ?_
    refine q_callQi (As := [.int (nI k), .long u, .long v]) (rest := []) C S hl Z.2.2.1.1 rfl (c_narrow Z.2.2.1 k (by first | omega | exact hL _ | exact hP _ | exact hF _) hL u v) (cwV 3 C.2.2.2.2 gX4_span_X1_narrow rfl rfl rfl (by decide +kernel) ⟨Nat.le_of_ble_eq_true rfl, Nat.le_of_ble_eq_true rfl⟩) rfl rfl (Nat.le_of_ble_eq_true rfl) ⟨Nat.le_of_ble_eq_true rfl, Nat.le_of_ble_eq_true rfl⟩ dX4_span_19 (fun v f H locs hv S => ?_)
    obtain ⟨rfl, O1, F1⟩ := hv
    have Z := CL_n Z F1 O1
    refine q_ifneB (tgt := 27) C dX4_span_22 (by decide) (fun c22 => ?_) (fun c22 => ?_)
    · refine lv_aload_n C.1 C.2.1 dX4_span_27 rfl (lv_at hl 0 rfl) ?_
      refine o_get (v := .ref (aC 3)) C S Z.2.1 rfl inX4_span_X4 3 (Nat.le_of_ble_eq_true rfl) lkX4_span_33 rfl dX4_span_28 ?_
      refine q_callQv (As := []) (rest := []) C S hl Z.2.2.2.2.1.1 rfl (c_endWays Z.2.2.2.2.1) (cwV 0 C.2.2.2.2 gX4_span_X3_endWays rfl rfl rfl (by decide +kernel) ⟨Nat.le_of_ble_eq_true rfl, Nat.le_of_ble_eq_true rfl⟩) rfl rfl (Nat.le_of_ble_eq_true rfl) ⟨Nat.le_of_ble_eq_true rfl, Nat.le_of_ble_eq_true rfl⟩ dX4_span_31 (fun f H locs hv S => ?_)
      obtain ⟨O1, F1⟩ := hv
      have Z := CL_s Z F1 O1
      refine lv_iconst (v := nI 1) C.1 C.2.1 dX4_span_34 (by decide) ?_
      exact q_retQz (b := true) C S hr hlk rfl (Or.inr ⟨k, hk, rfl, Or.inr ⟨c22, rfl, Z⟩⟩) dX4_span_35
    · refine lv_iconst (v := nI 0) C.1 C.2.1 dX4_span_25 (by decide) ?_
      exact q_retQz (b := false) C S hr hlk rfl (Or.inr ⟨k, hk, rfl, Or.inl ⟨c22, rfl, by rw [nrB_f c22, nrJ_f c22] at Z; exact Z⟩⟩) dX4_span_26
theorem inX4_give_X4 : ∀ w ∈ u_ws RX4 TX4 7, w ∈ wsX4_give := (fun _ h => (List.mem_cons_of_mem _ (List.mem_append_left _ (List.mem_append_left _ (List.mem_append_left _ (List.mem_append_left _ (List.mem_append_right _ h)))))))
theorem lkX4_give_10 : Cond.fieldLink RX4 10 (TX4 0).1 (TX4 0).2.1 (TX4 0).2.2.1 ∈ wsX4_give := List.mem_of_getElem? (i := 1) rfl
theorem lkX4_give_33 : Cond.fieldLink RX4 33 (TX4 3).1 (TX4 3).2.1 (TX4 3).2.2.1 ∈ wsX4_give := List.mem_of_getElem? (i := 2) rfl
set_option maxHeartbeats 4000000 in
set_option maxRecDepth 100000 in
theorem p_give {l : Launch} {G : fw_G} {A : Nat → Prop} {f0 : fw_F} {hc : Nat} {aC an ar as_ : Nat → Nat} {In : Nat → Nat} {Nn : Nat → Nat → Nat} {Bn : Nat → Nat → Bool} {Jn : Nat → Nat → Int64} {Ir : Nat → Nat} {Nr : Nat → Nat → Nat} {Br : Nat → Nat → Bool} {Jr : Nat → Nat → Int64} {Is : Nat → Nat} {Ns : Nat → Nat → Nat} {Bs : Nat → Nat → Bool} {Js : Nat → Nat → Int64} {Ic : Nat → Nat} {Nc : Nat → Nat → Nat} {kn : Nat} {K : Nat → kRT} {mn : Nat} {M : Nat → sNT} (Z : CL G f0 f0 hc aC an ar as_ In Nn Bn Jn Ir Nr Br Jr Is Ns Bs Js Ic Nc kn K mn M) (x : Int32) (u : Int64) (hn : In 0 ≤ 64) (hL : ∀ i, Nn 1 i < 64)  : Met l yX4_give wsX4_give ({ frames := 5, cells := 0, slots := 0, locals := 112 }) (va_Pc [.ref hc, .int x, .long u] (fw_P G A f0)) (va_Qi (fun (r : Int32) (f1 : fw_F) => ix x (In 0) = false ∧ r = bI false ∧ CL G f0 f1 hc aC an ar as_ In Nn Bn Jn Ir Nr Br Jr Is Ns Bs Js Ic Nc kn K mn M ∨ ∃ k, k < In 0 ∧ x = nI k ∧ stP (Nn 1) Bn Jn K kn (Nn 1 k) u r (fun Bq Jq => r = bI false ∧ CL G f0 f1 hc aC an ar as_ In Nn Bq Jq Ir Nr Br Jr Is Ns Bs Js Ic Nc kn K mn M ∨ r = bI true ∧ CL G f0 f1 hc aC an ar as_ In Nn Bq Jq Ir Nr Br Jr (va_up (va_up Is 1 0) 2 0) Ns Bs Js Ic Nc kn K mn M)) (fw_B G A) A) 0 0 A := by
  refine q_head rfl (by decide) (Nat.le_of_ble_eq_true rfl) ?_
  intro p e s m below meth c ls C hr hlk hnm P hl
  have S := P.start
  have hl : lv_has ls 4 [(0, .ref hc), (1, .int x), (2, .long u)] := hl
  refine lv_aload_n C.1 C.2.1 dX4_give_0 rfl (lv_at hl 0 rfl) ?_
  refine o_get (v := .ref (aC 0)) C S Z.2.1 rfl inX4_give_X4 0 (Nat.le_of_ble_eq_true rfl) lkX4_give_10 rfl dX4_give_1 ?_
  refine lv_iload_n C.1 C.2.1 dX4_give_4 rfl (lv_at hl 1 rfl) ?_
  refine q_callSi (As := [.int x]) (rest := []) C S hl Z.2.2.1.1 rfl (c_has Z.2.2.1 x) (cwV 1 C.2.2.2.2 gX4_give_X1_has rfl rfl rfl (by decide +kernel) ⟨Nat.le_of_ble_eq_true rfl, Nat.le_of_ble_eq_true rfl⟩) rfl rfl (Nat.le_of_ble_eq_true rfl) ⟨Nat.le_of_ble_eq_true rfl, Nat.le_of_ble_eq_true rfl⟩ dX4_give_5 (fun v hv => ?_)
  subst hv
  refine q_ifeqB (tgt := 20) C dX4_give_8 (by decide) (fun c8 => ?_) (fun c8 => ?_)
  · refine lv_iconst (v := nI 0) C.1 C.2.1 dX4_give_20 (by decide) ?_
    exact q_retQz (b := false) C S hr hlk rfl (Or.inl ⟨c8, rfl, Z⟩) dX4_give_21
  · obtain ⟨k, hk, rfl⟩ := ix_t (by omega) c8
    refine lv_aload_n C.1 C.2.1 dX4_give_11 rfl (lv_at hl 0 rfl) ?_
    refine lv_iload_n C.1 C.2.1 dX4_give_12 rfl (lv_at hl 1 rfl) ?_
    refine lv_lload_n C.1 C.2.1 dX4_give_13 rfl (lv_at hl 2 rfl) ?_
    refine q_callQi (As := [.int (nI k), .long u]) (rest := []) C S hl Z.2.1.1 rfl (s_settle (CL_rf Z) k (by first | omega | exact hL _ | exact hP _ | exact hF _) u hL) (cwV 2 C.2.2.2.2 gX4_give_X4_settle rfl rfl rfl (by decide +kernel) ⟨Nat.le_of_ble_eq_true rfl, Nat.le_of_ble_eq_true rfl⟩) rfl rfl (Nat.le_of_ble_eq_true rfl) ⟨Nat.le_of_ble_eq_true rfl, Nat.le_of_ble_eq_true rfl⟩ dX4_give_14 (fun v f H locs hv S => ?_)
    obtain ⟨b1, B1, J1, rfl, Z1, hback⟩ := stP_out hv
    have Z := CL_tr Z Z1
    refine q_ifneB (tgt := 22) C dX4_give_17 (by decide) (fun c17 => ?_) (fun c17 => ?_)
    · refine lv_aload_n C.1 C.2.1 dX4_give_22 rfl (lv_at hl 0 rfl) ?_
      refine o_get (v := .ref (aC 3)) C S Z.2.1 rfl inX4_give_X4 3 (Nat.le_of_ble_eq_true rfl) lkX4_give_33 rfl dX4_give_23 ?_
      refine q_callQv (As := []) (rest := []) C S hl Z.2.2.2.2.1.1 rfl (c_endWays Z.2.2.2.2.1) (cwV 0 C.2.2.2.2 gX4_give_X3_endWays rfl rfl rfl (by decide +kernel) ⟨Nat.le_of_ble_eq_true rfl, Nat.le_of_ble_eq_true rfl⟩) rfl rfl (Nat.le_of_ble_eq_true rfl) ⟨Nat.le_of_ble_eq_true rfl, Nat.le_of_ble_eq_true rfl⟩ dX4_give_26 (fun f H locs hv S => ?_)
      obtain ⟨O1, F1⟩ := hv
      have Z := CL_s Z F1 O1
      refine lv_iconst (v := nI 1) C.1 C.2.1 dX4_give_29 (by decide) ?_
      exact q_retQz (b := true) C S hr hlk rfl (Or.inr ⟨k, hk, rfl, by rw [c17] at hback; exact hback _ (Or.inr ⟨rfl, Z⟩)⟩) dX4_give_30
    · refine lv_iconst (v := nI 0) C.1 C.2.1 dX4_give_20 (by decide) ?_
      exact q_retQz (b := false) C S hr hlk rfl (Or.inr ⟨k, hk, rfl, by rw [c17] at hback; exact hback _ (Or.inl ⟨rfl, Z⟩)⟩) dX4_give_21
theorem inX4_equal_X4 : ∀ w ∈ u_ws RX4 TX4 7, w ∈ wsX4_equal := (fun _ h => (List.mem_cons_of_mem _ (List.mem_append_left _ (List.mem_append_left _ (List.mem_append_left _ (List.mem_append_left _ (List.mem_append_right _ h)))))))
theorem lkX4_equal_10 : Cond.fieldLink RX4 10 (TX4 0).1 (TX4 0).2.1 (TX4 0).2.2.1 ∈ wsX4_equal := List.mem_of_getElem? (i := 1) rfl
theorem lkX4_equal_33 : Cond.fieldLink RX4 33 (TX4 3).1 (TX4 3).2.1 (TX4 3).2.2.1 ∈ wsX4_equal := List.mem_of_getElem? (i := 2) rfl
set_option maxHeartbeats 4000000 in
set_option maxRecDepth 100000 in
theorem p_equal {l : Launch} {G : fw_G} {A : Nat → Prop} {f0 : fw_F} {hc : Nat} {aC an ar as_ : Nat → Nat} {In : Nat → Nat} {Nn : Nat → Nat → Nat} {Bn : Nat → Nat → Bool} {Jn : Nat → Nat → Int64} {Ir : Nat → Nat} {Nr : Nat → Nat → Nat} {Br : Nat → Nat → Bool} {Jr : Nat → Nat → Int64} {Is : Nat → Nat} {Ns : Nat → Nat → Nat} {Bs : Nat → Nat → Bool} {Js : Nat → Nat → Int64} {Ic : Nat → Nat} {Nc : Nat → Nat → Nat} {kn : Nat} {K : Nat → kRT} {mn : Nat} {M : Nat → sNT} (Z : CL G f0 f0 hc aC an ar as_ In Nn Bn Jn Ir Nr Br Jr Is Ns Bs Js Ic Nc kn K mn M) (x y : Int32) (hn : In 0 ≤ 64) (hL : ∀ i, Nn 1 i < 64)  : Met l yX4_equal wsX4_equal ({ frames := 6, cells := 0, slots := 0, locals := 134 }) (va_Pc [.ref hc, .int x, .int y] (fw_P G A f0)) (va_Qi (fun (r : Int32) (f1 : fw_F) => (ix x (In 0) = false ∨ ix y (In 0) = false) ∧ r = bI false ∧ CL G f0 f1 hc aC an ar as_ In Nn Bn Jn Ir Nr Br Jr Is Ns Bs Js Ic Nc kn K mn M ∨ ∃ k k2, k < In 0 ∧ k2 < In 0 ∧ x = nI k ∧ y = nI k2 ∧ agP (Nn 1) Bn Jn K kn k k2 r (fun Bq Jq => r = bI false ∧ CL G f0 f1 hc aC an ar as_ In Nn Bq Jq Ir Nr Br Jr Is Ns Bs Js Ic Nc kn K mn M ∨ r = bI true ∧ ∃ N9, N9 1 = jn (Nn 1) (In 0) (min (Nn 1 k) (Nn 1 k2)) (max (Nn 1 k) (Nn 1 k2)) ∧ CL G f0 f1 hc aC an ar as_ In N9 Bq Jq Ir Nr Br Jr (va_up (va_up Is 1 0) 2 0) Ns Bs Js Ic Nc kn K mn M)) (fw_B G A) A) 0 0 A := by
  refine q_head rfl (by decide) (Nat.le_of_ble_eq_true rfl) ?_
  intro p e s m below meth c ls C hr hlk hnm P hl
  have S := P.start
  have hl : lv_has ls 3 [(0, .ref hc), (1, .int x), (2, .int y)] := hl
  refine lv_aload_n C.1 C.2.1 dX4_equal_0 rfl (lv_at hl 0 rfl) ?_
  refine o_get (v := .ref (aC 0)) C S Z.2.1 rfl inX4_equal_X4 0 (Nat.le_of_ble_eq_true rfl) lkX4_equal_10 rfl dX4_equal_1 ?_
  refine lv_iload_n C.1 C.2.1 dX4_equal_4 rfl (lv_at hl 1 rfl) ?_
  refine q_callSi (As := [.int x]) (rest := []) C S hl Z.2.2.1.1 rfl (c_has Z.2.2.1 x) (cwV 1 C.2.2.2.2 gX4_equal_X1_has rfl rfl rfl (by decide +kernel) ⟨Nat.le_of_ble_eq_true rfl, Nat.le_of_ble_eq_true rfl⟩) rfl rfl (Nat.le_of_ble_eq_true rfl) ⟨Nat.le_of_ble_eq_true rfl, Nat.le_of_ble_eq_true rfl⟩ dX4_equal_5 (fun v hv => ?_)
  subst hv
  refine q_ifeqB (tgt := 31) C dX4_equal_8 (by decide) (fun c8 => ?_) (fun c8 => ?_)
  · refine lv_iconst (v := nI 0) C.1 C.2.1 dX4_equal_31 (by decide) ?_
    exact q_retQz (b := false) C S hr hlk rfl (Or.inl ⟨Or.inl c8, rfl, Z⟩) dX4_equal_32
  · obtain ⟨k, hk, rfl⟩ := ix_t (by omega) c8
    refine lv_aload_n C.1 C.2.1 dX4_equal_11 rfl (lv_at hl 0 rfl) ?_
    refine o_get (v := .ref (aC 0)) C S Z.2.1 rfl inX4_equal_X4 0 (Nat.le_of_ble_eq_true rfl) lkX4_equal_10 rfl dX4_equal_12 ?_
    refine lv_iload_n C.1 C.2.1 dX4_equal_15 rfl (lv_at hl 2 rfl) ?_
    refine q_callSi (As := [.int y]) (rest := []) C S hl Z.2.2.1.1 rfl (c_has Z.2.2.1 y) (cwV 1 C.2.2.2.2 gX4_equal_X1_has rfl rfl rfl (by decide +kernel) ⟨Nat.le_of_ble_eq_true rfl, Nat.le_of_ble_eq_true rfl⟩) rfl rfl (Nat.le_of_ble_eq_true rfl) ⟨Nat.le_of_ble_eq_true rfl, Nat.le_of_ble_eq_true rfl⟩ dX4_equal_16 (fun v hv => ?_)
    subst hv
    refine q_ifeqB (tgt := 31) C dX4_equal_19 (by decide) (fun c19 => ?_) (fun c19 => ?_)
    · refine lv_iconst (v := nI 0) C.1 C.2.1 dX4_equal_31 (by decide) ?_
      exact q_retQz (b := false) C S hr hlk rfl (Or.inl ⟨Or.inr c19, rfl, Z⟩) dX4_equal_32
    · obtain ⟨k2, hk2, rfl⟩ := ix_t (by omega) c19
      refine lv_aload_n C.1 C.2.1 dX4_equal_22 rfl (lv_at hl 0 rfl) ?_
      refine lv_iload_n C.1 C.2.1 dX4_equal_23 rfl (lv_at hl 1 rfl) ?_
      refine lv_iload_n C.1 C.2.1 dX4_equal_24 rfl (lv_at hl 2 rfl) ?_
      refine q_callQi (As := [.int (nI k), .int (nI k2)]) (rest := []) C S hl Z.2.1.1 rfl (s_agree (CL_rf Z) k k2 (by omega) (by omega) hL) (cwV 2 C.2.2.2.2 gX4_equal_X4_agree rfl rfl rfl (by decide +kernel) ⟨Nat.le_of_ble_eq_true rfl, Nat.le_of_ble_eq_true rfl⟩) rfl rfl (Nat.le_of_ble_eq_true rfl) ⟨Nat.le_of_ble_eq_true rfl, Nat.le_of_ble_eq_true rfl⟩ dX4_equal_25 (fun v f H locs hv S => ?_)
      obtain ⟨b1, B1, J1, rfl, Z1, hback⟩ := agP_out hv
      have Z := CL_tr Z Z1
      refine q_ifneB (tgt := 33) C dX4_equal_28 (by decide) (fun c28 => ?_) (fun c28 => ?_)
      · refine lv_aload_n C.1 C.2.1 dX4_equal_33 rfl (lv_at hl 0 rfl) ?_
        refine o_get (v := .ref (aC 0)) C S Z.2.1 rfl inX4_equal_X4 0 (Nat.le_of_ble_eq_true rfl) lkX4_equal_10 rfl dX4_equal_34 ?_
        refine lv_iload_n C.1 C.2.1 dX4_equal_37 rfl (lv_at hl 1 rfl) ?_
        refine lv_iload_n C.1 C.2.1 dX4_equal_38 rfl (lv_at hl 2 rfl) ?_
        refine q_callQv (As := [.int (nI k), .int (nI k2)]) (rest := []) C S hl Z.2.2.1.1 rfl (c_join Z.2.2.1 k k2 (by omega) (by omega) hL hn) (cwV 2 C.2.2.2.2 gX4_equal_X1_join rfl rfl rfl (by decide +kernel) ⟨Nat.le_of_ble_eq_true rfl, Nat.le_of_ble_eq_true rfl⟩) rfl rfl (Nat.le_of_ble_eq_true rfl) ⟨Nat.le_of_ble_eq_true rfl, Nat.le_of_ble_eq_true rfl⟩ dX4_equal_39 (fun f H locs hv S => ?_)
        obtain ⟨N9, O1, hN9, F1⟩ := hv
        have Z := CL_n Z F1 O1
        refine lv_aload_n C.1 C.2.1 dX4_equal_42 rfl (lv_at hl 0 rfl) ?_
        refine o_get (v := .ref (aC 3)) C S Z.2.1 rfl inX4_equal_X4 3 (Nat.le_of_ble_eq_true rfl) lkX4_equal_33 rfl dX4_equal_43 ?_
        refine q_callQv (As := []) (rest := []) C S hl Z.2.2.2.2.1.1 rfl (c_endWays Z.2.2.2.2.1) (cwV 0 C.2.2.2.2 gX4_equal_X3_endWays rfl rfl rfl (by decide +kernel) ⟨Nat.le_of_ble_eq_true rfl, Nat.le_of_ble_eq_true rfl⟩) rfl rfl (Nat.le_of_ble_eq_true rfl) ⟨Nat.le_of_ble_eq_true rfl, Nat.le_of_ble_eq_true rfl⟩ dX4_equal_46 (fun f H locs hv S => ?_)
        obtain ⟨O1, F1⟩ := hv
        have Z := CL_s Z F1 O1
        refine lv_iconst (v := nI 1) C.1 C.2.1 dX4_equal_49 (by decide) ?_
        exact q_retQz (b := true) C S hr hlk rfl (Or.inr ⟨k, k2, hk, hk2, rfl, rfl, by rw [c28] at hback; exact hback _ (Or.inr ⟨rfl, N9, hN9, Z⟩)⟩) dX4_equal_50
      · refine lv_iconst (v := nI 0) C.1 C.2.1 dX4_equal_31 (by decide) ?_
        exact q_retQz (b := false) C S hr hlk rfl (Or.inr ⟨k, k2, hk, hk2, rfl, rfl, by rw [c28] at hback; exact hback _ (Or.inl ⟨rfl, Z⟩)⟩) dX4_equal_32
theorem inX4_put_X4 : ∀ w ∈ u_ws RX4 TX4 7, w ∈ wsX4_put := (fun _ h => (List.mem_cons_of_mem _ (List.mem_append_left _ (List.mem_append_left _ (List.mem_append_right _ h)))))
theorem lkX4_put_10 : Cond.fieldLink RX4 10 (TX4 0).1 (TX4 0).2.1 (TX4 0).2.2.1 ∈ wsX4_put := List.mem_of_getElem? (i := 1) rfl
theorem lkX4_put_19 : Cond.fieldLink RX4 19 (TX4 1).1 (TX4 1).2.1 (TX4 1).2.2.1 ∈ wsX4_put := List.mem_of_getElem? (i := 2) rfl
theorem inX4_put_X2 : ∀ w ∈ u_ws RX2 TX2 3, w ∈ wsX4_put := (fun _ h => (List.mem_cons_of_mem _ (List.mem_append_left _ (List.mem_append_right _ h))))
theorem lkX4_put_78 : Cond.fieldLink RX4 78 (TX2 0).1 (TX2 0).2.1 (TX2 0).2.2.1 ∈ wsX4_put := List.mem_of_getElem? (i := 3) rfl
set_option maxHeartbeats 4000000 in
set_option maxRecDepth 100000 in
theorem p_put {l : Launch} {G : fw_G} {A : Nat → Prop} {f0 : fw_F} {hc : Nat} {aC an ar as_ : Nat → Nat} {In : Nat → Nat} {Nn : Nat → Nat → Nat} {Bn : Nat → Nat → Bool} {Jn : Nat → Nat → Int64} {Ir : Nat → Nat} {Nr : Nat → Nat → Nat} {Br : Nat → Nat → Bool} {Jr : Nat → Nat → Int64} {Is : Nat → Nat} {Ns : Nat → Nat → Nat} {Bs : Nat → Nat → Bool} {Js : Nat → Nat → Int64} {Ic : Nat → Nat} {Nc : Nat → Nat → Nat} {kn : Nat} {K : Nat → kRT} {mn : Nat} {M : Nat → sNT} (Z : CL G f0 f0 hc aC an ar as_ In Nn Bn Jn Ir Nr Br Jr Is Ns Bs Js Ic Nc kn K mn M) (x : Int32) (u : Int64) (hn : In 0 ≤ 64) (hm : Ir 0 ≤ 32)  : Met l yX4_put wsX4_put ({ frames := 1, cells := 0, slots := 0, locals := 23 }) (va_Pc [.ref hc, .int x, .long u] (fw_P G A f0)) (va_Qi (fun (r : Int32) (f1 : fw_F) => (ix x (In 0) = false ∨ Ir 0 = 32) ∧ r = -1 ∧ CL G f0 f1 hc aC an ar as_ In Nn Bn Jn Ir Nr Br Jr Is Ns Bs Js Ic Nc kn K mn M ∨ ∃ k, k < In 0 ∧ x = nI k ∧ Ir 0 < 32 ∧ r = nI (Ir 0 + 1) ∧ CL G f0 f1 hc aC an ar as_ In Nn Bn Jn (va_up Ir 0 (Ir 0 + 1)) (va_up Nr 1 (va_up (Nr 1) (Ir 0) k)) Br (va_up Jr 2 (va_up (Jr 2) (Ir 0) u)) Is Ns Bs Js Ic Nc kn K mn M) (fw_B G A) A) 0 0 A := by
  refine q_head rfl (by decide) (Nat.le_of_ble_eq_true rfl) ?_
  intro p e s m below meth c ls C hr hlk hnm P hl
  have S := P.start
  have hl : lv_has ls 4 [(0, .ref hc), (1, .int x), (2, .long u)] := hl
  refine lv_aload_n C.1 C.2.1 dX4_put_0 rfl (lv_at hl 0 rfl) ?_
  refine o_get (v := .ref (aC 0)) C S Z.2.1 rfl inX4_put_X4 0 (Nat.le_of_ble_eq_true rfl) lkX4_put_10 rfl dX4_put_1 ?_
  refine lv_iload_n C.1 C.2.1 dX4_put_4 rfl (lv_at hl 1 rfl) ?_
  refine q_callSi (As := [.int x]) (rest := []) C S hl Z.2.2.1.1 rfl (c_has Z.2.2.1 x) (cwV 1 C.2.2.2.2 gX4_put_X1_has rfl rfl rfl (by decide +kernel) ⟨Nat.le_of_ble_eq_true rfl, Nat.le_of_ble_eq_true rfl⟩) rfl rfl (Nat.le_of_ble_eq_true rfl) ⟨Nat.le_of_ble_eq_true rfl, Nat.le_of_ble_eq_true rfl⟩ dX4_put_5 (fun v hv => ?_)
  subst hv
  refine q_ifeqB (tgt := 23) C dX4_put_8 (by decide) (fun c8 => ?_) (fun c8 => ?_)
  · refine lv_iconst (v := (-1)) C.1 C.2.1 dX4_put_23 (by decide) ?_
    exact q_retQi C S hr hlk (Or.inl ⟨Or.inl c8, rfl, Z⟩) dX4_put_24
  · refine lv_aload_n C.1 C.2.1 dX4_put_11 rfl (lv_at hl 0 rfl) ?_
    refine o_get (v := .ref (aC 1)) C S Z.2.1 rfl inX4_put_X4 1 (Nat.le_of_ble_eq_true rfl) lkX4_put_19 rfl dX4_put_12 ?_
    refine o_get (v := .int (nI (Ir 0))) C S Z.2.2.2.1 rfl inX4_put_X2 0 (Nat.le_of_ble_eq_true rfl) lkX4_put_78 rfl dX4_put_15 ?_
    refine lv_bipush (v := nI 32) C.1 C.2.1 dX4_put_18 (by decide) ?_
    refine q_lt (tgt := 25) C (by omega) (by decide) dX4_put_20 (by decide) (fun c20 => ?_) (fun c20 => ?_)
    · obtain ⟨k, hk, rfl⟩ := ix_t (by omega) c8
      refine lv_aload_n C.1 C.2.1 dX4_put_25 rfl (lv_at hl 0 rfl) ?_
      refine o_get (v := .ref (aC 1)) C S Z.2.1 rfl inX4_put_X4 1 (Nat.le_of_ble_eq_true rfl) lkX4_put_19 rfl dX4_put_26 ?_
      refine lv_iload_n C.1 C.2.1 dX4_put_29 rfl (lv_at hl 1 rfl) ?_
      refine lv_lload_n C.1 C.2.1 dX4_put_30 rfl (lv_at hl 2 rfl) ?_
      refine q_callQv (As := [.int (nI k), .long u]) (rest := []) C S hl Z.2.2.2.1.1 rfl (c_append Z.2.2.2.1 k u (by omega)) (cwV 2 C.2.2.2.2 gX4_put_X2_append rfl rfl rfl (by decide +kernel) ⟨Nat.le_of_ble_eq_true rfl, Nat.le_of_ble_eq_true rfl⟩) rfl rfl (Nat.le_of_ble_eq_true rfl) ⟨Nat.le_of_ble_eq_true rfl, Nat.le_of_ble_eq_true rfl⟩ dX4_put_31 (fun f H locs hv S => ?_)
      obtain ⟨O1, F1⟩ := hv
      have Z := CL_r Z F1 O1
      refine lv_aload_n C.1 C.2.1 dX4_put_34 rfl (lv_at hl 0 rfl) ?_
      refine o_get (v := .ref (aC 1)) C S Z.2.1 rfl inX4_put_X4 1 (Nat.le_of_ble_eq_true rfl) lkX4_put_19 rfl dX4_put_35 ?_
      refine o_get (v := .int (nI (Ir 0 + 1))) C S Z.2.2.2.1 rfl inX4_put_X2 0 (Nat.le_of_ble_eq_true rfl) lkX4_put_78 rfl dX4_put_38 ?_
      exact q_retQi C S hr hlk (Or.inr ⟨k, hk, rfl, by omega, rfl, Z⟩) dX4_put_41
    · refine lv_iconst (v := (-1)) C.1 C.2.1 dX4_put_23 (by decide) ?_
      exact q_retQi C S hr hlk (Or.inl ⟨Or.inr (by omega), rfl, Z⟩) dX4_put_24
theorem inX4_keep_X4 : ∀ w ∈ u_ws RX4 TX4 7, w ∈ wsX4_keep := (fun _ h => (List.mem_cons_of_mem _ (List.mem_append_left _ (List.mem_append_left _ (List.mem_append_left _ (List.mem_append_left _ (List.mem_append_left _ (List.mem_append_right _ h))))))))
theorem lkX4_keep_33 : Cond.fieldLink RX4 33 (TX4 3).1 (TX4 3).2.1 (TX4 3).2.2.1 ∈ wsX4_keep := List.mem_of_getElem? (i := 1) rfl
theorem lkX4_keep_19 : Cond.fieldLink RX4 19 (TX4 1).1 (TX4 1).2.1 (TX4 1).2.2.1 ∈ wsX4_keep := List.mem_of_getElem? (i := 2) rfl
theorem inX4_keep_X2 : ∀ w ∈ u_ws RX2 TX2 3, w ∈ wsX4_keep := (fun _ h => (List.mem_cons_of_mem _ (List.mem_append_left _ (List.mem_append_left _ (List.mem_append_left _ (List.mem_append_left _ (List.mem_append_right _ h)))))))
theorem lkX4_keep_78 : Cond.fieldLink RX4 78 (TX2 0).1 (TX2 0).2.1 (TX2 0).2.2.1 ∈ wsX4_keep := List.mem_of_getElem? (i := 3) rfl
set_option maxHeartbeats 4000000 in
set_option maxRecDepth 100000 in
theorem p_keep {l : Launch} {G : fw_G} {A : Nat → Prop} {f0 : fw_F} {hc : Nat} {aC an ar as_ : Nat → Nat} {In : Nat → Nat} {Nn : Nat → Nat → Nat} {Bn : Nat → Nat → Bool} {Jn : Nat → Nat → Int64} {Ir : Nat → Nat} {Nr : Nat → Nat → Nat} {Br : Nat → Nat → Bool} {Jr : Nat → Nat → Int64} {Is : Nat → Nat} {Ns : Nat → Nat → Nat} {Bs : Nat → Nat → Bool} {Js : Nat → Nat → Int64} {Ic : Nat → Nat} {Nc : Nat → Nat → Nat} {kn : Nat} {K : Nat → kRT} {mn : Nat} {M : Nat → sNT} (Z : CL G f0 f0 hc aC an ar as_ In Nn Bn Jn Ir Nr Br Jr Is Ns Bs Js Ic Nc kn K mn M) (x : Int32) (g : Int64) (hL : ∀ i, Nn 1 i < 64) (hm : Ir 0 ≤ 32) (hPr : ∀ i, Nr 1 i < 64)  : Met l yX4_keep wsX4_keep ({ frames := 8, cells := 4, slots := 196, locals := 211 }) (va_Pc [.ref hc, .int x, .long g] (fw_P G A f0)) (va_Qi (fun (r : Int32) (f1 : fw_F) => (x < 0 ∨ nI 2 < x ∨ kn = 60) ∧ r = -1 ∧ CL G f0 f1 hc aC an ar as_ In Nn Bn Jn (va_up Ir 0 0) Nr Br Jr (va_up (va_up Is 1 0) 2 0) Ns Bs Js Ic Nc kn K mn M ∨ ∃ u, u ≤ 2 ∧ x = nI u ∧ kn < 60 ∧ ∃ k : kRT, kNew k u g (Ir 0) (Nr 1) (Jr 2) ∧ (krC (Nn 1) (Bn 2) (Jn 3) k = false ∧ r = nI 0 ∧ CL G f0 f1 hc aC an ar as_ In Nn Bn Jn (va_up Ir 0 0) Nr Br Jr (va_up (va_up Is 1 0) 2 0) Ns Bs Js Ic Nc kn K mn M ∨ krC (Nn 1) (Bn 2) (Jn 3) k = true ∧ r = nI 1 ∧ CL G f0 f1 hc aC an ar as_ In Nn Bn Jn (va_up Ir 0 0) Nr Br Jr (va_up (va_up Is 1 0) 2 0) Ns Bs Js Ic Nc (kn + 1) (va_up K kn k) mn M)) (fw_B G A) A) 4 196 A := by
  refine q_head rfl (by decide) (Nat.le_of_ble_eq_true rfl) ?_
  intro p e s m below meth c ls C hr hlk hnm P hl
  have S := P.start
  have hl : lv_has ls 5 [(0, .ref hc), (1, .int x), (2, .long g)] := hl
  refine lv_aload_n C.1 C.2.1 dX4_keep_0 rfl (lv_at hl 0 rfl) ?_
  refine o_get (v := .ref (aC 3)) C S Z.2.1 rfl inX4_keep_X4 3 (Nat.le_of_ble_eq_true rfl) lkX4_keep_33 rfl dX4_keep_1 ?_
  refine q_callQv (As := []) (rest := []) C S hl Z.2.2.2.2.1.1 rfl (c_endWays Z.2.2.2.2.1) (cwV 0 C.2.2.2.2 gX4_keep_X3_endWays rfl rfl rfl (by decide +kernel) ⟨Nat.le_of_ble_eq_true rfl, Nat.le_of_ble_eq_true rfl⟩) rfl rfl (Nat.le_of_ble_eq_true rfl) ⟨Nat.le_of_ble_eq_true rfl, Nat.le_of_ble_eq_true rfl⟩ dX4_keep_4 (fun f H locs hv S => ?_)
  obtain ⟨O1, F1⟩ := hv
  have Z := CL_s Z F1 O1
  refine lv_aload_n C.1 C.2.1 dX4_keep_7 rfl (lv_at hl 0 rfl) ?_
  refine lv_iload_n C.1 C.2.1 dX4_keep_8 rfl (lv_at hl 1 rfl) ?_
  refine lv_lload_n C.1 C.2.1 dX4_keep_9 rfl (lv_at hl 2 rfl) ?_
  refine q_callQi (As := [.int x, .long g]) (rest := []) C S hl Z.2.1.1 rfl (s_keepRow (CL_rf Z) x g hL hm hPr) (cwV 2 C.2.2.2.2 gX4_keep_X4_keepRow rfl rfl rfl (by decide +kernel) ⟨Nat.le_of_ble_eq_true rfl, Nat.le_of_ble_eq_true rfl⟩) rfl rfl (Nat.le_of_ble_eq_true rfl) ⟨Nat.le_of_ble_eq_true rfl, Nat.le_of_ble_eq_true rfl⟩ dX4_keep_10 (fun v f H locs hv S => ?_)
  rcases hv with ⟨hx, rfl, Z1⟩ | ⟨u, hu, rfl, hk60, k9, hk9, ⟨hc9, rfl, Z1⟩ | ⟨hc9, rfl, Z1⟩⟩
  · have Z := CL_tr Z Z1
    refine lv_istore (lv' := [(4, .int (-1)), (0, .ref hc), (1, .int x), (2, .long g)]) C.1 C.2.1 dX4_keep_13 hl (by decide) rfl (fun ls hl => ?_)
    refine lv_aload_n C.1 C.2.1 dX4_keep_15 rfl (lv_at hl 1 rfl) ?_
    refine o_get (v := .ref (aC 1)) C S Z.2.1 rfl inX4_keep_X4 1 (Nat.le_of_ble_eq_true rfl) lkX4_keep_19 rfl dX4_keep_16 ?_
    refine lv_iconst (v := nI 0) C.1 C.2.1 dX4_keep_19 (by decide) ?_
    refine o_puti C S Z.2.2.2.1 (fw_fr_rf _ 3200 (3200 + 4)) rfl inX4_keep_X2 tyX2 tyX2_ok nmX2 0 (Nat.le_of_ble_eq_true rfl) rfl lkX4_keep_78 rfl rfl ⟨by decide, by decide⟩ dX4_keep_20 (fun f H locs S O1 F1 => ?_)
    have Z := CL_r Z F1 O1
    refine lv_iload C.1 C.2.1 dX4_keep_23 (lv_at hl 0 rfl) ?_
    exact q_retQi C S hr hlk (Or.inl ⟨hx, rfl, Z⟩) dX4_keep_25
  · have Z := CL_tr Z Z1
    refine lv_istore (lv' := [(4, .int (nI 0)), (0, .ref hc), (1, .int (nI u)), (2, .long g)]) C.1 C.2.1 dX4_keep_13 hl (by decide) rfl (fun ls hl => ?_)
    refine lv_aload_n C.1 C.2.1 dX4_keep_15 rfl (lv_at hl 1 rfl) ?_
    refine o_get (v := .ref (aC 1)) C S Z.2.1 rfl inX4_keep_X4 1 (Nat.le_of_ble_eq_true rfl) lkX4_keep_19 rfl dX4_keep_16 ?_
    refine lv_iconst (v := nI 0) C.1 C.2.1 dX4_keep_19 (by decide) ?_
    refine o_puti C S Z.2.2.2.1 (fw_fr_rf _ 3200 (3200 + 4)) rfl inX4_keep_X2 tyX2 tyX2_ok nmX2 0 (Nat.le_of_ble_eq_true rfl) rfl lkX4_keep_78 rfl rfl ⟨by decide, by decide⟩ dX4_keep_20 (fun f H locs S O1 F1 => ?_)
    have Z := CL_r Z F1 O1
    refine lv_iload C.1 C.2.1 dX4_keep_23 (lv_at hl 0 rfl) ?_
    exact q_retQi C S hr hlk (Or.inr ⟨u, hu, rfl, hk60, k9, hk9, Or.inl ⟨hc9, rfl, Z⟩⟩) dX4_keep_25
  · have Z := CL_tr Z Z1
    refine lv_istore (lv' := [(4, .int (nI 1)), (0, .ref hc), (1, .int (nI u)), (2, .long g)]) C.1 C.2.1 dX4_keep_13 hl (by decide) rfl (fun ls hl => ?_)
    refine lv_aload_n C.1 C.2.1 dX4_keep_15 rfl (lv_at hl 1 rfl) ?_
    refine o_get (v := .ref (aC 1)) C S Z.2.1 rfl inX4_keep_X4 1 (Nat.le_of_ble_eq_true rfl) lkX4_keep_19 rfl dX4_keep_16 ?_
    refine lv_iconst (v := nI 0) C.1 C.2.1 dX4_keep_19 (by decide) ?_
    refine o_puti C S Z.2.2.2.1 (fw_fr_rf _ 3200 (3200 + 4)) rfl inX4_keep_X2 tyX2 tyX2_ok nmX2 0 (Nat.le_of_ble_eq_true rfl) rfl lkX4_keep_78 rfl rfl ⟨by decide, by decide⟩ dX4_keep_20 (fun f H locs S O1 F1 => ?_)
    have Z := CL_r Z F1 O1
    refine lv_iload C.1 C.2.1 dX4_keep_23 (lv_at hl 0 rfl) ?_
    exact q_retQi C S hr hlk (Or.inr ⟨u, hu, rfl, hk60, k9, hk9, Or.inr ⟨hc9, rfl, Z⟩⟩) dX4_keep_25
theorem inX4_label_X4 : ∀ w ∈ u_ws RX4 TX4 7, w ∈ wsX4_label := (fun _ h => (List.mem_cons_of_mem _ (List.mem_append_left _ (List.mem_append_left _ (List.mem_append_left _ (List.mem_append_left _ (List.mem_append_left _ (List.mem_append_right _ h))))))))
theorem lkX4_label_33 : Cond.fieldLink RX4 33 (TX4 3).1 (TX4 3).2.1 (TX4 3).2.2.1 ∈ wsX4_label := List.mem_of_getElem? (i := 1) rfl
theorem lkX4_label_19 : Cond.fieldLink RX4 19 (TX4 1).1 (TX4 1).2.1 (TX4 1).2.2.1 ∈ wsX4_label := List.mem_of_getElem? (i := 2) rfl
theorem lkX4_label_10 : Cond.fieldLink RX4 10 (TX4 0).1 (TX4 0).2.1 (TX4 0).2.2.1 ∈ wsX4_label := List.mem_of_getElem? (i := 3) rfl
theorem lkX4_label_26 : Cond.fieldLink RX4 26 (TX4 2).1 (TX4 2).2.1 (TX4 2).2.2.1 ∈ wsX4_label := List.mem_of_getElem? (i := 4) rfl
theorem inX4_label_X2 : ∀ w ∈ u_ws RX2 TX2 3, w ∈ wsX4_label := (fun _ h => (List.mem_cons_of_mem _ (List.mem_append_left _ (List.mem_append_left _ (List.mem_append_left _ (List.mem_append_left _ (List.mem_append_right _ h)))))))
theorem lkX4_label_78 : Cond.fieldLink RX4 78 (TX2 0).1 (TX2 0).2.1 (TX2 0).2.2.1 ∈ wsX4_label := List.mem_of_getElem? (i := 5) rfl
set_option maxHeartbeats 4000000 in
set_option maxRecDepth 100000 in
theorem p_label {l : Launch} {G : fw_G} {A : Nat → Prop} {f0 : fw_F} {hc : Nat} {aC an ar as_ : Nat → Nat} {In : Nat → Nat} {Nn : Nat → Nat → Nat} {Bn : Nat → Nat → Bool} {Jn : Nat → Nat → Int64} {Ir : Nat → Nat} {Nr : Nat → Nat → Nat} {Br : Nat → Nat → Bool} {Jr : Nat → Nat → Int64} {Is : Nat → Nat} {Ns : Nat → Nat → Nat} {Bs : Nat → Nat → Bool} {Js : Nat → Nat → Int64} {Ic : Nat → Nat} {Nc : Nat → Nat → Nat} {kn : Nat} {K : Nat → kRT} {mn : Nat} {M : Nat → sNT} (Z : CL G f0 f0 hc aC an ar as_ In Nn Bn Jn Ir Nr Br Jr Is Ns Bs Js Ic Nc kn K mn M) (hL : ∀ i, Nn 1 i < 64) (hm : Ir 0 ≤ 32) (hPr : ∀ i, Nr 1 i < 64) (hF : ∀ i, Ns 0 i < 64) (hroot : ∀ i, i < Ir 0 → Nn 1 (Nn 1 (Nr 1 i)) = Nn 1 (Nr 1 i)) (hcs : ∀ i, i < kn → krC (Nn 1) (Bn 2) (Jn 3) (K i) = true)  : Met l yX4_label wsX4_label ({ frames := 13, cells := 0, slots := 0, locals := 355 }) (va_Pc [.ref hc] (fw_P G A f0)) (va_Qi (fun (r : Int32) (f1 : fw_F) => ∃ J' I' N' S' th, CL G f0 f1 hc aC an ar as_ In Nn Bn J' (va_up Ir 0 0) Nr Br Jr I' N' Bs S' Ic Nc kn K mn M ∧ N' 0 = (gth (Nr 1) (Nn 1) (Bn 2) 0 (Ns 0) (Ir 0)).2 ∧ (∀ q, q ≠ 3 → J' q = Jn q) ∧ (∀ r, levF (gth (Nr 1) (Nn 1) (Bn 2) 0 (Ns 0) (Ir 0)).2 (gth (Nr 1) (Nn 1) (Bn 2) 0 (Ns 0) (Ir 0)).1 r = 0 → J' 3 r = Jn 3 r) ∧ lbC (allb (fun i => Bn 4 (Nn 1 ((gth (Nr 1) (Nn 1) (Bn 2) 0 (Ns 0) (Ir 0)).2 i))) (gth (Nr 1) (Nn 1) (Bn 2) 0 (Ns 0) (Ir 0)).1) (gth (Nr 1) (Nn 1) (Bn 2) 0 (Ns 0) (Ir 0)).1 (rsC (Nn 1) Bn Jn (gth (Nr 1) (Nn 1) (Bn 2) 0 (Ns 0) (Ir 0)).2 (gth (Nr 1) (Nn 1) (Bn 2) 0 (Ns 0) (Ir 0)).1 K kn) r (I' 1) (I' 2) (I' 3) th (fun i j => S' 4 (i * 8 + j))) (fw_B G A) A) 0 0 A := by
  refine q_head rfl (by decide) (Nat.le_of_ble_eq_true rfl) ?_
  intro p e s m below meth c ls C hr hlk hnm P hl
  have S := P.start
  have hl : lv_has ls 2 [(0, .ref hc)] := hl
  refine lv_aload_n C.1 C.2.1 dX4_label_0 rfl (lv_at hl 0 rfl) ?_
  refine o_get (v := .ref (aC 3)) C S Z.2.1 rfl inX4_label_X4 3 (Nat.le_of_ble_eq_true rfl) lkX4_label_33 rfl dX4_label_1 ?_
  refine lv_aload_n C.1 C.2.1 dX4_label_4 rfl (lv_at hl 0 rfl) ?_
  refine o_get (v := .ref (aC 1)) C S Z.2.1 rfl inX4_label_X4 1 (Nat.le_of_ble_eq_true rfl) lkX4_label_19 rfl dX4_label_5 ?_
  refine lv_aload_n C.1 C.2.1 dX4_label_8 rfl (lv_at hl 0 rfl) ?_
  refine o_get (v := .ref (aC 0)) C S Z.2.1 rfl inX4_label_X4 0 (Nat.le_of_ble_eq_true rfl) lkX4_label_10 rfl dX4_label_9 ?_
  refine lv_aload_n C.1 C.2.1 dX4_label_12 rfl (lv_at hl 0 rfl) ?_
  refine o_get (v := .ref (aC 2)) C S Z.2.1 rfl inX4_label_X4 2 (Nat.le_of_ble_eq_true rfl) lkX4_label_26 rfl dX4_label_13 ?_
  refine q_callQi (As := [.ref (aC 1), .ref (aC 0), .ref (aC 2)]) (rest := []) C S hl Z.2.2.2.2.1.1 rfl (s_run (CL_rf Z) hL hm hPr hF hroot hcs) (cwV 3 C.2.2.2.2 gX4_label_X3_run rfl rfl rfl (by decide +kernel) ⟨Nat.le_of_ble_eq_true rfl, Nat.le_of_ble_eq_true rfl⟩) rfl rfl (Nat.le_of_ble_eq_true rfl) ⟨Nat.le_of_ble_eq_true rfl, Nat.le_of_ble_eq_true rfl⟩ dX4_label_16 (fun v f H locs hv S => ?_)
  obtain ⟨J5, I5, N5, S5, th, Z1, hN5, hJ5, hJ53, hlb⟩ := hv
  have Z := CL_tr Z Z1
  refine lv_istore_n (lv' := [(1, .int v), (0, .ref hc)]) C.1 C.2.1 dX4_label_19 rfl hl (by decide) rfl (fun ls hl => ?_)
  refine lv_aload_n C.1 C.2.1 dX4_label_20 rfl (lv_at hl 1 rfl) ?_
  refine o_get (v := .ref (aC 1)) C S Z.2.1 rfl inX4_label_X4 1 (Nat.le_of_ble_eq_true rfl) lkX4_label_19 rfl dX4_label_21 ?_
  refine lv_iconst (v := nI 0) C.1 C.2.1 dX4_label_24 (by decide) ?_
  refine o_puti C S Z.2.2.2.1 (fw_fr_rf _ 3200 (3200 + 4)) rfl inX4_label_X2 tyX2 tyX2_ok nmX2 0 (Nat.le_of_ble_eq_true rfl) rfl lkX4_label_78 rfl rfl ⟨by decide, by decide⟩ dX4_label_25 (fun f H locs S O1 F1 => ?_)
  have Z := CL_r Z F1 O1
  refine lv_iload_n C.1 C.2.1 dX4_label_28 rfl (lv_at hl 0 rfl) ?_
  exact q_retQi C S hr hlk ⟨_, _, _, _, th, Z, hN5, hJ5, hJ53, hlb⟩ dX4_label_29
theorem inX4_way_X4 : ∀ w ∈ u_ws RX4 TX4 7, w ∈ wsX4_way := (fun _ h => (List.mem_cons_of_mem _ (List.mem_append_left _ (List.mem_append_right _ h))))
theorem lkX4_way_33 : Cond.fieldLink RX4 33 (TX4 3).1 (TX4 3).2.1 (TX4 3).2.2.1 ∈ wsX4_way := List.mem_of_getElem? (i := 1) rfl
theorem inX4_way_X3 : ∀ w ∈ u_ws RX3 TX3 6, w ∈ wsX4_way := (fun _ h => (List.mem_cons_of_mem _ (List.mem_append_right _ h)))
theorem lkX4_way_96 : Cond.fieldLink RX4 96 (TX3 1).1 (TX3 1).2.1 (TX3 1).2.2.1 ∈ wsX4_way := List.mem_of_getElem? (i := 2) rfl
set_option maxHeartbeats 4000000 in
set_option maxRecDepth 100000 in
theorem p_way {l : Launch} {G : fw_G} {A : Nat → Prop} {f0 : fw_F} {hc : Nat} {aC an ar as_ : Nat → Nat} {In : Nat → Nat} {Nn : Nat → Nat → Nat} {Bn : Nat → Nat → Bool} {Jn : Nat → Nat → Int64} {Ir : Nat → Nat} {Nr : Nat → Nat → Nat} {Br : Nat → Nat → Bool} {Jr : Nat → Nat → Int64} {Is : Nat → Nat} {Ns : Nat → Nat → Nat} {Bs : Nat → Nat → Bool} {Js : Nat → Nat → Int64} {Ic : Nat → Nat} {Nc : Nat → Nat → Nat} {kn : Nat} {K : Nat → kRT} {mn : Nat} {M : Nat → sNT} (Z : CL G f0 f0 hc aC an ar as_ In Nn Bn Jn Ir Nr Br Jr Is Ns Bs Js Ic Nc kn K mn M) (x y : Int32) (h2 : Is 2 ≤ 200) (h1 : Is 1 ≤ 8)  : Met l yX4_way wsX4_way ({ frames := 1, cells := 0, slots := 0, locals := 22 }) (va_Pc [.ref hc, .int x, .int y] (fw_P G A f0)) (vp_Sl (fun (r : Int64) => (ix x (Is 2) && ix y (Is 1)) = false ∧ r = 0 ∨ ∃ k k2, k < Is 2 ∧ x = nI k ∧ k2 < Is 1 ∧ y = nI k2 ∧ r = Js 4 (k * 8 + k2))) 0 0 (fun _ => False) := by
  refine q_head rfl (by decide) (Nat.le_of_ble_eq_true rfl) ?_
  intro p e s m below meth c ls C hr hlk hnm P hl
  have S := P.start
  have hl : lv_has ls 3 [(0, .ref hc), (1, .int x), (2, .int y)] := hl
  refine lv_aload_n C.1 C.2.1 dX4_way_0 rfl (lv_at hl 0 rfl) ?_
  refine o_get (v := .ref (aC 3)) C S Z.2.1 rfl inX4_way_X4 3 (Nat.le_of_ble_eq_true rfl) lkX4_way_33 rfl dX4_way_1 ?_
  refine lv_iload_n C.1 C.2.1 dX4_way_4 rfl (lv_at hl 1 rfl) ?_
  refine q_callSi (As := [.int x]) (rest := []) C S hl Z.2.2.2.2.1.1 rfl (c_hasWay Z.2.2.2.2.1 x) (cwV 1 C.2.2.2.2 gX4_way_X3_hasWay rfl rfl rfl (by decide +kernel) ⟨Nat.le_of_ble_eq_true rfl, Nat.le_of_ble_eq_true rfl⟩) rfl rfl (Nat.le_of_ble_eq_true rfl) ⟨Nat.le_of_ble_eq_true rfl, Nat.le_of_ble_eq_true rfl⟩ dX4_way_5 (fun v hv => ?_)
  subst hv
  refine q_ifeqB (tgt := 26) C dX4_way_8 (by decide) (fun c8 => ?_) (fun c8 => ?_)
  · refine lv_lconst (v := 0) C.1 C.2.1 dX4_way_26 (by decide) ?_
    exact q_retSl C hr hlk (Or.inl ⟨by rw [c8]; rfl, rfl⟩) dX4_way_27
  · refine lv_iload_n C.1 C.2.1 dX4_way_11 rfl (lv_at hl 2 rfl) ?_
    refine lv_if_lt (tgt := 26) C.1 C.2.1 dX4_way_12 (by decide) (fun c12 => ?_) (fun c12 => ?_)
    · refine lv_lconst (v := 0) C.1 C.2.1 dX4_way_26 (by decide) ?_
      exact q_retSl C hr hlk (Or.inl ⟨by rw [ix_f (x := y) (Or.inl c12), Bool.and_false], rfl⟩) dX4_way_27
    · refine lv_iload_n C.1 C.2.1 dX4_way_15 rfl (lv_at hl 2 rfl) ?_
      refine lv_aload_n C.1 C.2.1 dX4_way_16 rfl (lv_at hl 0 rfl) ?_
      refine o_get (v := .ref (aC 3)) C S Z.2.1 rfl inX4_way_X4 3 (Nat.le_of_ble_eq_true rfl) lkX4_way_33 rfl dX4_way_17 ?_
      refine o_get (v := .int (nI (Is 1))) C S Z.2.2.2.2.1 rfl inX4_way_X3 1 (Nat.le_of_ble_eq_true rfl) lkX4_way_96 rfl dX4_way_20 ?_
      refine lv_icmp_lt (tgt := 28) C.1 C.2.1 dX4_way_23 (by decide) (fun c23 => ?_) (fun c23 => ?_)
      · obtain ⟨k, hk, rfl⟩ := ix_t (by omega) c8
        obtain ⟨k2, hk2, rfl⟩ := ix_of (by omega) c12 c23
        refine lv_aload_n C.1 C.2.1 dX4_way_28 rfl (lv_at hl 0 rfl) ?_
        refine o_get (v := .ref (aC 3)) C S Z.2.1 rfl inX4_way_X4 3 (Nat.le_of_ble_eq_true rfl) lkX4_way_33 rfl dX4_way_29 ?_
        refine lv_iload_n C.1 C.2.1 dX4_way_32 rfl (lv_at hl 1 rfl) ?_
        refine lv_iload_n C.1 C.2.1 dX4_way_33 rfl (lv_at hl 2 rfl) ?_
        refine q_callSl (As := [.int (nI k), .int (nI k2)]) (rest := []) C S hl Z.2.2.2.2.1.1 rfl (c_numberIn Z.2.2.2.2.1 k k2 (by omega) (by omega)) (cwV 2 C.2.2.2.2 gX4_way_X3_numberIn rfl rfl rfl (by decide +kernel) ⟨Nat.le_of_ble_eq_true rfl, Nat.le_of_ble_eq_true rfl⟩) rfl rfl (Nat.le_of_ble_eq_true rfl) ⟨Nat.le_of_ble_eq_true rfl, Nat.le_of_ble_eq_true rfl⟩ dX4_way_34 (fun v hv => ?_)
        subst hv
        exact q_retSl C hr hlk (Or.inr ⟨k, k2, hk, rfl, hk2, rfl, rfl⟩) dX4_way_37
      · refine lv_lconst (v := 0) C.1 C.2.1 dX4_way_26 (by decide) ?_
        exact q_retSl C hr hlk (Or.inl ⟨by rw [ix_f (x := y) (Or.inr (Int32.not_lt.mp c23)), Bool.and_false], rfl⟩) dX4_way_27
theorem inX4_take_X4 : ∀ w ∈ u_ws RX4 TX4 7, w ∈ wsX4_take := (fun _ h => (List.mem_cons_of_mem _ (List.mem_append_left _ (List.mem_append_left _ (List.mem_append_right _ h)))))
theorem lkX4_take_33 : Cond.fieldLink RX4 33 (TX4 3).1 (TX4 3).2.1 (TX4 3).2.2.1 ∈ wsX4_take := List.mem_of_getElem? (i := 1) rfl
theorem inX4_take_X3 : ∀ w ∈ u_ws RX3 TX3 6, w ∈ wsX4_take := (fun _ h => (List.mem_cons_of_mem _ (List.mem_append_left _ (List.mem_append_right _ h))))
theorem lkX4_take_96 : Cond.fieldLink RX4 96 (TX3 1).1 (TX3 1).2.1 (TX3 1).2.2.1 ∈ wsX4_take := List.mem_of_getElem? (i := 2) rfl
theorem lkX4_take_10 : Cond.fieldLink RX4 10 (TX4 0).1 (TX4 0).2.1 (TX4 0).2.2.1 ∈ wsX4_take := List.mem_of_getElem? (i := 3) rfl
theorem lkX4_take_103 : Cond.fieldLink RX4 103 (TX3 0).1 (TX3 0).2.1 (TX3 0).2.2.1 ∈ wsX4_take := List.mem_of_getElem? (i := 4) rfl
set_option maxHeartbeats 4000000 in
set_option maxRecDepth 100000 in
theorem p_take {l : Launch} {G : fw_G} {A : Nat → Prop} {f0 : fw_F} {hc : Nat} {aC an ar as_ : Nat → Nat} {In : Nat → Nat} {Nn : Nat → Nat → Nat} {Bn : Nat → Nat → Bool} {Jn : Nat → Nat → Int64} {Ir : Nat → Nat} {Nr : Nat → Nat → Nat} {Br : Nat → Nat → Bool} {Jr : Nat → Nat → Int64} {Is : Nat → Nat} {Ns : Nat → Nat → Nat} {Bs : Nat → Nat → Bool} {Js : Nat → Nat → Int64} {Ic : Nat → Nat} {Nc : Nat → Nat → Nat} {kn : Nat} {K : Nat → kRT} {mn : Nat} {M : Nat → sNT} (Z : CL G f0 f0 hc aC an ar as_ In Nn Bn Jn Ir Nr Br Jr Is Ns Bs Js Ic Nc kn K mn M) (x : Int32) (h2 : Is 2 ≤ 200) (h1 : Is 1 ≤ 8) (hF : ∀ i, Ns 0 i < 64) (hL : ∀ i, Nn 1 i < 64)  : Met l yX4_take wsX4_take ({ frames := 1, cells := 0, slots := 0, locals := 23 }) (va_Pc [.ref hc, .int x] (fw_P G A f0)) (va_Qi (fun (r : Int32) (f1 : fw_F) => ix x (Is 2) = false ∧ r = bI false ∧ CL G f0 f1 hc aC an ar as_ In Nn Bn Jn Ir Nr Br Jr Is Ns Bs Js Ic Nc kn K mn M ∨ ∃ k, k < Is 2 ∧ x = nI k ∧ r = bI true ∧ CL G f0 f1 hc aC an ar as_ In Nn (tkB Bn (fun j => Nn 1 (Ns 0 j)) (Is 1)) (tkJ Jn (fun j => Nn 1 (Ns 0 j)) (fun j => Js 4 (k * 8 + j)) (Is 1)) Ir Nr Br Jr (va_up (va_up Is 1 0) 2 0) Ns Bs Js Ic Nc kn K mn M) (fw_B G A) A) 0 0 A := by
  refine q_head rfl (by decide) (Nat.le_of_ble_eq_true rfl) ?_
  intro p e s m below meth c ls C hr hlk hnm P hl
  have S := P.start
  have hl : lv_has ls 3 [(0, .ref hc), (1, .int x)] := hl
  refine lv_aload_n C.1 C.2.1 dX4_take_0 rfl (lv_at hl 0 rfl) ?_
  refine o_get (v := .ref (aC 3)) C S Z.2.1 rfl inX4_take_X4 3 (Nat.le_of_ble_eq_true rfl) lkX4_take_33 rfl dX4_take_1 ?_
  refine lv_iload_n C.1 C.2.1 dX4_take_4 rfl (lv_at hl 1 rfl) ?_
  refine q_callSi (As := [.int x]) (rest := []) C S hl Z.2.2.2.2.1.1 rfl (c_hasWay Z.2.2.2.2.1 x) (cwV 1 C.2.2.2.2 gX4_take_X3_hasWay rfl rfl rfl (by decide +kernel) ⟨Nat.le_of_ble_eq_true rfl, Nat.le_of_ble_eq_true rfl⟩) rfl rfl (Nat.le_of_ble_eq_true rfl) ⟨Nat.le_of_ble_eq_true rfl, Nat.le_of_ble_eq_true rfl⟩ dX4_take_5 (fun v hv => ?_)
  subst hv
  refine q_ifneB (tgt := 13) C dX4_take_8 (by decide) (fun c8 => ?_) (fun c8 => ?_)
  · obtain ⟨k0, hk0, rfl⟩ := ix_t (by omega) c8
    refine lv_iconst (v := nI 0) C.1 C.2.1 dX4_take_13 (by decide) ?_
    refine lv_istore_n (lv' := [(2, .int (nI 0)), (0, .ref hc), (1, .int (nI k0))]) C.1 C.2.1 dX4_take_14 rfl hl (by decide) rfl (fun ls hl => ?_)
    have lp15 : ∀ (n15 : Nat) (z : Nat) (B3 : Nat → Nat → Bool) (J3 : Nat → Nat → Int64), Is 1 - z < n15 → (z ≤ Is 1) → (B3 = (tkB Bn (fun j => Nn 1 (Ns 0 j)) z)) → (J3 = (tkJ Jn (fun j => Nn 1 (Ns 0 j)) (fun j => Js 4 (k0 * 8 + j)) z)) → ∀ (f : fw_F) (H : Heap) (locs : List Loc) (ls : Array Slot), fw_S G A s f H locs → CL G f0 f hc aC an ar as_ In Nn B3 J3 Ir Nr Br Jr Is Ns Bs Js Ic Nc kn K mn M → lv_has ls 3 [(2, .int (nI z)), (0, .ref hc), (1, .int (nI k0))] → W p l e ({ frames := 1, cells := 0, slots := 0, locals := 23 }) s m [.ref hc, .int (nI k0)].toArray below meth c H locs 0 0 (MQ below (va_Qi (fun (r : Int32) (f1 : fw_F) => ix (nI k0) (Is 2) = false ∧ r = bI false ∧ CL G f0 f1 hc aC an ar as_ In Nn Bn Jn Ir Nr Br Jr Is Ns Bs Js Ic Nc kn K mn M ∨ ∃ k, k < Is 2 ∧ (nI k0) = nI k ∧ r = bI true ∧ CL G f0 f1 hc aC an ar as_ In Nn (tkB Bn (fun j => Nn 1 (Ns 0 j)) (Is 1)) (tkJ Jn (fun j => Nn 1 (Ns 0 j)) (fun j => Js 4 (k * 8 + j)) (Is 1)) Ir Nr Br Jr (va_up (va_up Is 1 0) 2 0) Ns Bs Js Ic Nc kn K mn M) (fw_B G A) A) [.ref hc, .int (nI k0)].toArray s 0 0 A) (F0 m 15 ls []) := by
      intro n15
      induction n15 with
      | zero => intro z B3 J3 hme15; exact absurd hme15 (Nat.not_lt_zero _)
      | succ n15 ih15 =>
        intro z B3 J3 hme15 hz hB3 hJ3 f H locs ls S Z hl
        refine lv_iload_n C.1 C.2.1 dX4_take_15 rfl (lv_at hl 0 rfl) ?_
        refine lv_aload_n C.1 C.2.1 dX4_take_16 rfl (lv_at hl 1 rfl) ?_
        refine o_get (v := .ref (aC 3)) C S Z.2.1 rfl inX4_take_X4 3 (Nat.le_of_ble_eq_true rfl) lkX4_take_33 rfl dX4_take_17 ?_
        refine o_get (v := .int (nI (Is 1))) C S Z.2.2.2.2.1 rfl inX4_take_X3 1 (Nat.le_of_ble_eq_true rfl) lkX4_take_96 rfl dX4_take_20 ?_
        refine q_ge (tgt := 57) C (by omega) (by omega) dX4_take_23 (by decide) (fun c23 => ?_) (fun c23 => ?_)
        · refine lv_aload_n C.1 C.2.1 dX4_take_57 rfl (lv_at hl 1 rfl) ?_
          refine o_get (v := .ref (aC 3)) C S Z.2.1 rfl inX4_take_X4 3 (Nat.le_of_ble_eq_true rfl) lkX4_take_33 rfl dX4_take_58 ?_
          refine q_callQv (As := []) (rest := []) C S hl Z.2.2.2.2.1.1 rfl (c_endWays Z.2.2.2.2.1) (cwV 0 C.2.2.2.2 gX4_take_X3_endWays rfl rfl rfl (by decide +kernel) ⟨Nat.le_of_ble_eq_true rfl, Nat.le_of_ble_eq_true rfl⟩) rfl rfl (Nat.le_of_ble_eq_true rfl) ⟨Nat.le_of_ble_eq_true rfl, Nat.le_of_ble_eq_true rfl⟩ dX4_take_61 (fun f H locs hv S => ?_)
          obtain ⟨O1, F1⟩ := hv
          have Z := CL_s Z F1 O1
          refine lv_iconst (v := nI 1) C.1 C.2.1 dX4_take_64 (by decide) ?_
          exact q_retQz (b := true) C S hr hlk rfl (Or.inr ⟨k0, hk0, rfl, rfl, by rw [hB3, hJ3, show z = Is 1 by omega] at Z; exact Z⟩) dX4_take_65
        · refine lv_aload_n C.1 C.2.1 dX4_take_26 rfl (lv_at hl 1 rfl) ?_
          refine o_get (v := .ref (aC 0)) C S Z.2.1 rfl inX4_take_X4 0 (Nat.le_of_ble_eq_true rfl) lkX4_take_10 rfl dX4_take_27 ?_
          refine lv_aload_n C.1 C.2.1 dX4_take_30 rfl (lv_at hl 1 rfl) ?_
          refine o_get (v := .ref (aC 3)) C S Z.2.1 rfl inX4_take_X4 3 (Nat.le_of_ble_eq_true rfl) lkX4_take_33 rfl dX4_take_31 ?_
          refine o_get (v := .ref (as_ 0)) C S Z.2.2.2.2.1 rfl inX4_take_X3 0 (Nat.le_of_ble_eq_true rfl) lkX4_take_103 rfl dX4_take_34 ?_
          refine lv_iload_n C.1 C.2.1 dX4_take_37 rfl (lv_at hl 0 rfl) ?_
          refine o_nald (x := (Ns 0) z) C S Z.2.2.2.2.1 0 (Nat.le_of_ble_eq_true rfl) rfl z rfl (show z < 32 from by first | omega | exact hL _ | exact hP _ | exact hF _) (Nat.le_of_ble_eq_true rfl) rfl dX4_take_38 ?_
          refine lv_aload_n C.1 C.2.1 dX4_take_39 rfl (lv_at hl 1 rfl) ?_
          refine o_get (v := .ref (aC 3)) C S Z.2.1 rfl inX4_take_X4 3 (Nat.le_of_ble_eq_true rfl) lkX4_take_33 rfl dX4_take_40 ?_
          refine lv_iload_n C.1 C.2.1 dX4_take_43 rfl (lv_at hl 2 rfl) ?_
          refine lv_iload_n C.1 C.2.1 dX4_take_44 rfl (lv_at hl 0 rfl) ?_
          refine q_callSl (As := [.int (nI k0), .int (nI z)]) (rest := [.int (nI ((Ns 0) z)), .ref (aC 0)]) C S hl Z.2.2.2.2.1.1 rfl (c_numberIn Z.2.2.2.2.1 k0 z (by omega) (by omega)) (cwV 2 C.2.2.2.2 gX4_take_X3_numberIn rfl rfl rfl (by decide +kernel) ⟨Nat.le_of_ble_eq_true rfl, Nat.le_of_ble_eq_true rfl⟩) rfl rfl (Nat.le_of_ble_eq_true rfl) ⟨Nat.le_of_ble_eq_true rfl, Nat.le_of_ble_eq_true rfl⟩ dX4_take_45 (fun v hv => ?_)
          subst hv
          refine q_callQv (As := [.int (nI ((Ns 0) z)), .long ((Js 4) (k0 * 8 + z))]) (rest := []) C S hl Z.2.2.1.1 rfl (c_setNumber Z.2.2.1 ((Ns 0) z) (by first | omega | exact hL _ | exact hP _ | exact hF _) hL ((Js 4) (k0 * 8 + z))) (cwV 2 C.2.2.2.2 gX4_take_X1_setNumber rfl rfl rfl (by decide +kernel) ⟨Nat.le_of_ble_eq_true rfl, Nat.le_of_ble_eq_true rfl⟩) rfl rfl (Nat.le_of_ble_eq_true rfl) ⟨Nat.le_of_ble_eq_true rfl, Nat.le_of_ble_eq_true rfl⟩ dX4_take_48 (fun f H locs hv S => ?_)
          obtain ⟨O1, F1⟩ := hv
          have Z := CL_n Z F1 O1
          refine q_iinc (d := 1) (lv' := [(2, .int (nI (z + 1))), (0, .ref hc), (1, .int (nI k0))]) C dX4_take_51 hl (k := 0) rfl (by decide) (by decide) rfl (fun ls hl => ?_)
          refine lv_goto (tgt := 15) C.1 C.2.1 dX4_take_54 (by decide) ?_
          exact ih15 (z + 1) (setB B3 ((Nn 1) ((Ns 0) z))) (setJ J3 ((Nn 1) ((Ns 0) z)) ((Js 4) (k0 * 8 + z))) (by omega) (by omega) (by rw [hB3]; rfl) (by rw [hJ3]; rfl) _ _ _ _ S Z (lv_sub hl [0, 1, 2] rfl)
    exact lp15 (Is 1 + 1) 0 Bn Jn (by omega) (by omega) rfl rfl _ _ _ _ S Z (lv_sub hl [0, 1, 2] rfl)
  · refine lv_iconst (v := nI 0) C.1 C.2.1 dX4_take_11 (by decide) ?_
    exact q_retQz (b := false) C S hr hlk rfl (Or.inl ⟨c8, rfl, Z⟩) dX4_take_12
theorem inX4_about_X4 : ∀ w ∈ u_ws RX4 TX4 7, w ∈ wsX4_about := (fun _ h => (List.mem_cons_of_mem _ (List.mem_append_left _ (List.mem_append_left _ (List.mem_append_left _ (List.mem_append_left _ (List.mem_append_right _ h)))))))
theorem lkX4_about_10 : Cond.fieldLink RX4 10 (TX4 0).1 (TX4 0).2.1 (TX4 0).2.2.1 ∈ wsX4_about := List.mem_of_getElem? (i := 1) rfl
theorem lkX4_about_33 : Cond.fieldLink RX4 33 (TX4 3).1 (TX4 3).2.1 (TX4 3).2.2.1 ∈ wsX4_about := List.mem_of_getElem? (i := 2) rfl
set_option maxHeartbeats 4000000 in
set_option maxRecDepth 100000 in
theorem p_about {l : Launch} {G : fw_G} {A : Nat → Prop} {f0 : fw_F} {hc : Nat} {aC an ar as_ : Nat → Nat} {In : Nat → Nat} {Nn : Nat → Nat → Nat} {Bn : Nat → Nat → Bool} {Jn : Nat → Nat → Int64} {Ir : Nat → Nat} {Nr : Nat → Nat → Nat} {Br : Nat → Nat → Bool} {Jr : Nat → Nat → Int64} {Is : Nat → Nat} {Ns : Nat → Nat → Nat} {Bs : Nat → Nat → Bool} {Js : Nat → Nat → Int64} {Ic : Nat → Nat} {Nc : Nat → Nat → Nat} {kn : Nat} {K : Nat → kRT} {mn : Nat} {M : Nat → sNT} (Z : CL G f0 f0 hc aC an ar as_ In Nn Bn Jn Ir Nr Br Jr Is Ns Bs Js Ic Nc kn K mn M) (x y : Int32) (hn : In 0 ≤ 64) (hL : ∀ i, Nn 1 i < 64) (hF : ∀ i, Ns 0 i < 64) (h1 : Is 1 ≤ 8)  : Met l yX4_about wsX4_about ({ frames := 4, cells := 0, slots := 0, locals := 87 }) (va_Pc [.ref hc, .int x, .int y] (fw_P G A f0)) (vp_Si (fun (r : Int32) => ix x (In 0) = false ∧ r = -1 ∨ ∃ k, k < In 0 ∧ x = nI k ∧ r = abV y (if Bn 2 (Nn 1 k) = true then 2 else if Bn 4 (Nn 1 k) = true then 1 else 0) (Nn 1 k) (cnt (fun i => decide (Nn 1 i = Nn 1 k)) (In 0)) (cnt (fun i => krH (Nn 1) k (K i)) kn) (if levF (Ns 0) (Is 1) (Nn 1 k) ≠ 0 then 1 else 0))) 0 0 (fun _ => False) := by
  refine q_head rfl (by decide) (Nat.le_of_ble_eq_true rfl) ?_
  intro p e s m below meth c ls C hr hlk hnm P hl
  have S := P.start
  have hl : lv_has ls 3 [(0, .ref hc), (1, .int x), (2, .int y)] := hl
  refine lv_aload_n C.1 C.2.1 dX4_about_0 rfl (lv_at hl 0 rfl) ?_
  refine o_get (v := .ref (aC 0)) C S Z.2.1 rfl inX4_about_X4 0 (Nat.le_of_ble_eq_true rfl) lkX4_about_10 rfl dX4_about_1 ?_
  refine lv_iload_n C.1 C.2.1 dX4_about_4 rfl (lv_at hl 1 rfl) ?_
  refine q_callSi (As := [.int x]) (rest := []) C S hl Z.2.2.1.1 rfl (c_has Z.2.2.1 x) (cwV 1 C.2.2.2.2 gX4_about_X1_has rfl rfl rfl (by decide +kernel) ⟨Nat.le_of_ble_eq_true rfl, Nat.le_of_ble_eq_true rfl⟩) rfl rfl (Nat.le_of_ble_eq_true rfl) ⟨Nat.le_of_ble_eq_true rfl, Nat.le_of_ble_eq_true rfl⟩ dX4_about_5 (fun v hv => ?_)
  subst hv
  refine q_ifneB (tgt := 13) C dX4_about_8 (by decide) (fun c8 => ?_) (fun c8 => ?_)
  · obtain ⟨k0, hk0, rfl⟩ := ix_t (by omega) c8
    refine lv_iload_n C.1 C.2.1 dX4_about_13 rfl (lv_at hl 2 rfl) ?_
    by_cases w0 : y = nI 0
    · refine lv_tableIn (off := 34) (tgt := 48) C.1 C.2.1 dX4_about_14 (by rw [w0]; decide) (by rw [w0]; decide) (by rw [w0]; decide) (by decide) ?_
      refine lv_aload_n C.1 C.2.1 dX4_about_48 rfl (lv_at hl 0 rfl) ?_
      refine o_get (v := .ref (aC 0)) C S Z.2.1 rfl inX4_about_X4 0 (Nat.le_of_ble_eq_true rfl) lkX4_about_10 rfl dX4_about_49 ?_
      refine lv_iload_n C.1 C.2.1 dX4_about_52 rfl (lv_at hl 1 rfl) ?_
      refine q_callSi (As := [.int (nI k0)]) (rest := []) C S hl Z.2.2.1.1 rfl (c_freedom Z.2.2.1 k0 (by first | omega | exact hL _ | exact hP _ | exact hF _) hL) (cwV 1 C.2.2.2.2 gX4_about_X1_freedom rfl rfl rfl (by decide +kernel) ⟨Nat.le_of_ble_eq_true rfl, Nat.le_of_ble_eq_true rfl⟩) rfl rfl (Nat.le_of_ble_eq_true rfl) ⟨Nat.le_of_ble_eq_true rfl, Nat.le_of_ble_eq_true rfl⟩ dX4_about_53 (fun v hv => ?_)
      subst hv
      exact q_retSi C hr hlk (Or.inr ⟨k0, hk0, rfl, by rw [abV, if_pos w0]⟩) dX4_about_56
    by_cases w1 : y = nI 1
    · refine lv_tableIn (off := 43) (tgt := 57) C.1 C.2.1 dX4_about_14 (by rw [w1]; decide) (by rw [w1]; decide) (by rw [w1]; decide) (by decide) ?_
      refine lv_aload_n C.1 C.2.1 dX4_about_57 rfl (lv_at hl 0 rfl) ?_
      refine o_get (v := .ref (aC 0)) C S Z.2.1 rfl inX4_about_X4 0 (Nat.le_of_ble_eq_true rfl) lkX4_about_10 rfl dX4_about_58 ?_
      refine lv_iload_n C.1 C.2.1 dX4_about_61 rfl (lv_at hl 1 rfl) ?_
      refine q_callSi (As := [.int (nI k0)]) (rest := []) C S hl Z.2.2.1.1 rfl (c_leastOf Z.2.2.1 k0 (by first | omega | exact hL _ | exact hP _ | exact hF _) ) (cwV 1 C.2.2.2.2 gX4_about_X1_leastOf rfl rfl rfl (by decide +kernel) ⟨Nat.le_of_ble_eq_true rfl, Nat.le_of_ble_eq_true rfl⟩) rfl rfl (Nat.le_of_ble_eq_true rfl) ⟨Nat.le_of_ble_eq_true rfl, Nat.le_of_ble_eq_true rfl⟩ dX4_about_62 (fun v hv => ?_)
      subst hv
      exact q_retSi C hr hlk (Or.inr ⟨k0, hk0, rfl, by rw [abV, if_neg w0, if_pos w1]⟩) dX4_about_65
    by_cases w2 : y = nI 2
    · refine lv_tableIn (off := 52) (tgt := 66) C.1 C.2.1 dX4_about_14 (by rw [w2]; decide) (by rw [w2]; decide) (by rw [w2]; decide) (by decide) ?_
      refine lv_aload_n C.1 C.2.1 dX4_about_66 rfl (lv_at hl 0 rfl) ?_
      refine o_get (v := .ref (aC 0)) C S Z.2.1 rfl inX4_about_X4 0 (Nat.le_of_ble_eq_true rfl) lkX4_about_10 rfl dX4_about_67 ?_
      refine lv_iload_n C.1 C.2.1 dX4_about_70 rfl (lv_at hl 1 rfl) ?_
      refine q_callSi (As := [.int (nI k0)]) (rest := []) C S hl Z.2.2.1.1 rfl (c_countOnes Z.2.2.1 k0 (by first | omega | exact hL _ | exact hP _ | exact hF _) hL hn) (cwV 1 C.2.2.2.2 gX4_about_X1_countOnes rfl rfl rfl (by decide +kernel) ⟨Nat.le_of_ble_eq_true rfl, Nat.le_of_ble_eq_true rfl⟩) rfl rfl (Nat.le_of_ble_eq_true rfl) ⟨Nat.le_of_ble_eq_true rfl, Nat.le_of_ble_eq_true rfl⟩ dX4_about_71 (fun v hv => ?_)
      subst hv
      exact q_retSi C hr hlk (Or.inr ⟨k0, hk0, rfl, by rw [abV, if_neg w0, if_neg w1, if_pos w2]⟩) dX4_about_74
    by_cases w3 : y = nI 3
    · refine lv_tableIn (off := 61) (tgt := 75) C.1 C.2.1 dX4_about_14 (by rw [w3]; decide) (by rw [w3]; decide) (by rw [w3]; decide) (by decide) ?_
      refine lv_aload_n C.1 C.2.1 dX4_about_75 rfl (lv_at hl 0 rfl) ?_
      refine lv_iload_n C.1 C.2.1 dX4_about_76 rfl (lv_at hl 1 rfl) ?_
      refine q_callSi (As := [.int (nI k0)]) (rest := []) C S hl Z.2.1.1 rfl (s_countRows (CL_rf Z) k0 (by first | omega | exact hL _ | exact hP _ | exact hF _) hL) (cwV 1 C.2.2.2.2 gX4_about_X4_countRowsWith rfl rfl rfl (by decide +kernel) ⟨Nat.le_of_ble_eq_true rfl, Nat.le_of_ble_eq_true rfl⟩) rfl rfl (Nat.le_of_ble_eq_true rfl) ⟨Nat.le_of_ble_eq_true rfl, Nat.le_of_ble_eq_true rfl⟩ dX4_about_77 (fun v hv => ?_)
      subst hv
      exact q_retSi C hr hlk (Or.inr ⟨k0, hk0, rfl, by rw [abV, if_neg w0, if_neg w1, if_neg w2, if_pos w3]⟩) dX4_about_80
    by_cases w4 : y = nI 4
    · refine lv_tableIn (off := 67) (tgt := 81) C.1 C.2.1 dX4_about_14 (by rw [w4]; decide) (by rw [w4]; decide) (by rw [w4]; decide) (by decide) ?_
      refine lv_aload_n C.1 C.2.1 dX4_about_81 rfl (lv_at hl 0 rfl) ?_
      refine o_get (v := .ref (aC 3)) C S Z.2.1 rfl inX4_about_X4 3 (Nat.le_of_ble_eq_true rfl) lkX4_about_33 rfl dX4_about_82 ?_
      refine lv_aload_n C.1 C.2.1 dX4_about_85 rfl (lv_at hl 0 rfl) ?_
      refine o_get (v := .ref (aC 0)) C S Z.2.1 rfl inX4_about_X4 0 (Nat.le_of_ble_eq_true rfl) lkX4_about_10 rfl dX4_about_86 ?_
      refine lv_iload_n C.1 C.2.1 dX4_about_89 rfl (lv_at hl 1 rfl) ?_
      refine q_callSi (As := [.int (nI k0)]) (rest := [.ref (aC 3)]) C S hl Z.2.2.1.1 rfl (c_leastOf Z.2.2.1 k0 (by first | omega | exact hL _ | exact hP _ | exact hF _) ) (cwV 1 C.2.2.2.2 gX4_about_X1_leastOf rfl rfl rfl (by decide +kernel) ⟨Nat.le_of_ble_eq_true rfl, Nat.le_of_ble_eq_true rfl⟩) rfl rfl (Nat.le_of_ble_eq_true rfl) ⟨Nat.le_of_ble_eq_true rfl, Nat.le_of_ble_eq_true rfl⟩ dX4_about_90 (fun v hv => ?_)
      subst hv
      refine q_callSi (As := [.int (nI ((Nn 1) k0))]) (rest := []) C S hl Z.2.2.2.2.1.1 rfl (c_isFreeName Z.2.2.2.2.1 ((Nn 1) k0) (by first | omega | exact hL _ | exact hP _ | exact hF _) (by omega) hF) (cwV 1 C.2.2.2.2 gX4_about_X3_isFreeName rfl rfl rfl (by decide +kernel) ⟨Nat.le_of_ble_eq_true rfl, Nat.le_of_ble_eq_true rfl⟩) rfl rfl (Nat.le_of_ble_eq_true rfl) ⟨Nat.le_of_ble_eq_true rfl, Nat.le_of_ble_eq_true rfl⟩ dX4_about_93 (fun v hv => ?_)
      subst hv
      refine q_ifeqB (tgt := 103) C dX4_about_96 (by decide) (fun c96 => ?_) (fun c96 => ?_)
      · refine lv_iconst (v := nI 0) C.1 C.2.1 dX4_about_103 (by decide) ?_
        exact q_retSi C hr hlk (Or.inr ⟨k0, hk0, rfl, by rw [abV, if_neg w0, if_neg w1, if_neg w2, if_neg w3, if_pos w4]; rw [if_neg (of_decide_eq_false c96)]⟩) dX4_about_104
      · refine lv_iconst (v := nI 1) C.1 C.2.1 dX4_about_99 (by decide) ?_
        refine lv_goto (tgt := 104) C.1 C.2.1 dX4_about_100 (by decide) ?_
        exact q_retSi C hr hlk (Or.inr ⟨k0, hk0, rfl, by rw [abV, if_neg w0, if_neg w1, if_neg w2, if_neg w3, if_pos w4]; rw [if_pos (of_decide_eq_true c96)]⟩) dX4_about_104
    refine lv_tableOut (tgt := 105) C.1 C.2.1 dX4_about_14 (tb_out (n := 4) (by decide) (fun j hj => by rcases (show j = 0 ∨ j = 1 ∨ j = 2 ∨ j = 3 ∨ j = 4 by omega) with rfl | rfl | rfl | rfl | rfl <;> assumption)) (by decide) ?_
    refine lv_iconst (v := (-1)) C.1 C.2.1 dX4_about_105 (by decide) ?_
    exact q_retSi C hr hlk (Or.inr ⟨k0, hk0, rfl, by rw [abV, if_neg w0, if_neg w1, if_neg w2, if_neg w3, if_neg w4]⟩) dX4_about_106
  · refine lv_iconst (v := (-1)) C.1 C.2.1 dX4_about_11 (by decide) ?_
    exact q_retSi C hr hlk (Or.inl ⟨c8, rfl⟩) dX4_about_12
theorem inX4_bound_X4 : ∀ w ∈ u_ws RX4 TX4 7, w ∈ wsX4_bound := (fun _ h => (List.mem_cons_of_mem _ (List.mem_append_left _ (List.mem_append_right _ h))))
theorem lkX4_bound_10 : Cond.fieldLink RX4 10 (TX4 0).1 (TX4 0).2.1 (TX4 0).2.2.1 ∈ wsX4_bound := List.mem_of_getElem? (i := 1) rfl
set_option maxHeartbeats 4000000 in
set_option maxRecDepth 100000 in
theorem p_bound {l : Launch} {G : fw_G} {A : Nat → Prop} {f0 : fw_F} {hc : Nat} {aC an ar as_ : Nat → Nat} {In : Nat → Nat} {Nn : Nat → Nat → Nat} {Bn : Nat → Nat → Bool} {Jn : Nat → Nat → Int64} {Ir : Nat → Nat} {Nr : Nat → Nat → Nat} {Br : Nat → Nat → Bool} {Jr : Nat → Nat → Int64} {Is : Nat → Nat} {Ns : Nat → Nat → Nat} {Bs : Nat → Nat → Bool} {Js : Nat → Nat → Int64} {Ic : Nat → Nat} {Nc : Nat → Nat → Nat} {kn : Nat} {K : Nat → kRT} {mn : Nat} {M : Nat → sNT} (Z : CL G f0 f0 hc aC an ar as_ In Nn Bn Jn Ir Nr Br Jr Is Ns Bs Js Ic Nc kn K mn M) (x : Int32) (hb : Bool) (hn : In 0 ≤ 64) (hL : ∀ i, Nn 1 i < 64)  : Met l yX4_bound wsX4_bound ({ frames := 1, cells := 0, slots := 0, locals := 21 }) (va_Pc [.ref hc, .int x, .int (bI hb)] (fw_P G A f0)) (vp_Sl (fun (r : Int64) => ix x (In 0) = false ∧ r = 0 ∨ ∃ k, k < In 0 ∧ x = nI k ∧ r = (if Bn 2 (Nn 1 k) = true then Jn 3 (Nn 1 k) else if hb = true then Jn 6 (Nn 1 k) else Jn 5 (Nn 1 k)))) 0 0 (fun _ => False) := by
  refine q_head rfl (by decide) (Nat.le_of_ble_eq_true rfl) ?_
  intro p e s m below meth c ls C hr hlk hnm P hl
  have S := P.start
  have hl : lv_has ls 3 [(0, .ref hc), (1, .int x), (2, .int (bI hb))] := hl
  refine lv_aload_n C.1 C.2.1 dX4_bound_0 rfl (lv_at hl 0 rfl) ?_
  refine o_get (v := .ref (aC 0)) C S Z.2.1 rfl inX4_bound_X4 0 (Nat.le_of_ble_eq_true rfl) lkX4_bound_10 rfl dX4_bound_1 ?_
  refine lv_iload_n C.1 C.2.1 dX4_bound_4 rfl (lv_at hl 1 rfl) ?_
  refine q_callSi (As := [.int x]) (rest := []) C S hl Z.2.2.1.1 rfl (c_has Z.2.2.1 x) (cwV 1 C.2.2.2.2 gX4_bound_X1_has rfl rfl rfl (by decide +kernel) ⟨Nat.le_of_ble_eq_true rfl, Nat.le_of_ble_eq_true rfl⟩) rfl rfl (Nat.le_of_ble_eq_true rfl) ⟨Nat.le_of_ble_eq_true rfl, Nat.le_of_ble_eq_true rfl⟩ dX4_bound_5 (fun v hv => ?_)
  subst hv
  refine q_ifneB (tgt := 13) C dX4_bound_8 (by decide) (fun c8 => ?_) (fun c8 => ?_)
  · obtain ⟨k, hk, rfl⟩ := ix_t (by omega) c8
    refine lv_aload_n C.1 C.2.1 dX4_bound_13 rfl (lv_at hl 0 rfl) ?_
    refine o_get (v := .ref (aC 0)) C S Z.2.1 rfl inX4_bound_X4 0 (Nat.le_of_ble_eq_true rfl) lkX4_bound_10 rfl dX4_bound_14 ?_
    refine lv_iload_n C.1 C.2.1 dX4_bound_17 rfl (lv_at hl 1 rfl) ?_
    refine q_callSi (As := [.int (nI k)]) (rest := []) C S hl Z.2.2.1.1 rfl (c_isKnown Z.2.2.1 k (by first | omega | exact hL _ | exact hP _ | exact hF _) hL) (cwV 1 C.2.2.2.2 gX4_bound_X1_isKnown rfl rfl rfl (by decide +kernel) ⟨Nat.le_of_ble_eq_true rfl, Nat.le_of_ble_eq_true rfl⟩) rfl rfl (Nat.le_of_ble_eq_true rfl) ⟨Nat.le_of_ble_eq_true rfl, Nat.le_of_ble_eq_true rfl⟩ dX4_bound_18 (fun v hv => ?_)
    subst hv
    refine q_ifeqB (tgt := 33) C dX4_bound_21 (by decide) (fun c21 => ?_) (fun c21 => ?_)
    · refine lv_iload_n C.1 C.2.1 dX4_bound_33 rfl (lv_at hl 2 rfl) ?_
      refine q_ifeqB (tgt := 48) C dX4_bound_34 (by decide) (fun c34 => ?_) (fun c34 => ?_)
      · refine lv_aload_n C.1 C.2.1 dX4_bound_48 rfl (lv_at hl 0 rfl) ?_
        refine o_get (v := .ref (aC 0)) C S Z.2.1 rfl inX4_bound_X4 0 (Nat.le_of_ble_eq_true rfl) lkX4_bound_10 rfl dX4_bound_49 ?_
        refine lv_iload_n C.1 C.2.1 dX4_bound_52 rfl (lv_at hl 1 rfl) ?_
        refine q_callSl (As := [.int (nI k)]) (rest := []) C S hl Z.2.2.1.1 rfl (c_lowOf Z.2.2.1 k (by first | omega | exact hL _ | exact hP _ | exact hF _) hL) (cwV 1 C.2.2.2.2 gX4_bound_X1_lowOf rfl rfl rfl (by decide +kernel) ⟨Nat.le_of_ble_eq_true rfl, Nat.le_of_ble_eq_true rfl⟩) rfl rfl (Nat.le_of_ble_eq_true rfl) ⟨Nat.le_of_ble_eq_true rfl, Nat.le_of_ble_eq_true rfl⟩ dX4_bound_53 (fun v hv => ?_)
        subst hv
        exact q_retSl C hr hlk (Or.inr ⟨k, hk, rfl, by rw [if_neg (by rw [c21]; decide), if_neg (by rw [c34]; decide)]⟩) dX4_bound_56
      · refine lv_aload_n C.1 C.2.1 dX4_bound_37 rfl (lv_at hl 0 rfl) ?_
        refine o_get (v := .ref (aC 0)) C S Z.2.1 rfl inX4_bound_X4 0 (Nat.le_of_ble_eq_true rfl) lkX4_bound_10 rfl dX4_bound_38 ?_
        refine lv_iload_n C.1 C.2.1 dX4_bound_41 rfl (lv_at hl 1 rfl) ?_
        refine q_callSl (As := [.int (nI k)]) (rest := []) C S hl Z.2.2.1.1 rfl (c_highOf Z.2.2.1 k (by first | omega | exact hL _ | exact hP _ | exact hF _) hL) (cwV 1 C.2.2.2.2 gX4_bound_X1_highOf rfl rfl rfl (by decide +kernel) ⟨Nat.le_of_ble_eq_true rfl, Nat.le_of_ble_eq_true rfl⟩) rfl rfl (Nat.le_of_ble_eq_true rfl) ⟨Nat.le_of_ble_eq_true rfl, Nat.le_of_ble_eq_true rfl⟩ dX4_bound_42 (fun v hv => ?_)
        subst hv
        refine lv_goto (tgt := 56) C.1 C.2.1 dX4_bound_45 (by decide) ?_
        exact q_retSl C hr hlk (Or.inr ⟨k, hk, rfl, by rw [if_neg (by rw [c21]; decide), if_pos c34]⟩) dX4_bound_56
    · refine lv_aload_n C.1 C.2.1 dX4_bound_24 rfl (lv_at hl 0 rfl) ?_
      refine o_get (v := .ref (aC 0)) C S Z.2.1 rfl inX4_bound_X4 0 (Nat.le_of_ble_eq_true rfl) lkX4_bound_10 rfl dX4_bound_25 ?_
      refine lv_iload_n C.1 C.2.1 dX4_bound_28 rfl (lv_at hl 1 rfl) ?_
      refine q_callSl (As := [.int (nI k)]) (rest := []) C S hl Z.2.2.1.1 rfl (c_numberOf Z.2.2.1 k (by first | omega | exact hL _ | exact hP _ | exact hF _) hL) (cwV 1 C.2.2.2.2 gX4_bound_X1_numberOf rfl rfl rfl (by decide +kernel) ⟨Nat.le_of_ble_eq_true rfl, Nat.le_of_ble_eq_true rfl⟩) rfl rfl (Nat.le_of_ble_eq_true rfl) ⟨Nat.le_of_ble_eq_true rfl, Nat.le_of_ble_eq_true rfl⟩ dX4_bound_29 (fun v hv => ?_)
      subst hv
      exact q_retSl C hr hlk (Or.inr ⟨k, hk, rfl, by rw [if_pos c21]⟩) dX4_bound_32
  · refine lv_lconst (v := 0) C.1 C.2.1 dX4_bound_11 (by decide) ?_
    exact q_retSl C hr hlk (Or.inl ⟨c8, rfl⟩) dX4_bound_12
theorem inX4_kept_X4 : ∀ w ∈ u_ws RX4 TX4 7, w ∈ wsX4_kept := (fun _ h => (List.mem_cons_of_mem _ (List.mem_append_left _ (List.mem_append_left _ (List.mem_append_left _ (List.mem_append_right _ h))))))
theorem lkX4_kept_26 : Cond.fieldLink RX4 26 (TX4 2).1 (TX4 2).2.1 (TX4 2).2.2.1 ∈ wsX4_kept := List.mem_of_getElem? (i := 1) rfl
theorem inX4_kept_X0 : ∀ w ∈ u_ws RX0 TX0 4, w ∈ wsX4_kept := (fun _ h => (List.mem_cons_of_mem _ (List.mem_append_left _ (List.mem_append_left _ (List.mem_append_right _ h)))))
theorem lkX4_kept_160 : Cond.fieldLink RX4 160 (TX0 0).1 (TX0 0).2.1 (TX0 0).2.2.1 ∈ wsX4_kept := List.mem_of_getElem? (i := 3) rfl
theorem lkX4_kept_163 : Cond.fieldLink RX4 163 (TX0 1).1 (TX0 1).2.1 (TX0 1).2.2.1 ∈ wsX4_kept := List.mem_of_getElem? (i := 4) rfl
theorem lkX4_kept_10 : Cond.fieldLink RX4 10 (TX4 0).1 (TX4 0).2.1 (TX4 0).2.2.1 ∈ wsX4_kept := List.mem_of_getElem? (i := 5) rfl
set_option maxHeartbeats 4000000 in
set_option maxRecDepth 100000 in
theorem p_kept {l : Launch} {G : fw_G} {A : Nat → Prop} {f0 : fw_F} {hc : Nat} {aC an ar as_ : Nat → Nat} {In : Nat → Nat} {Nn : Nat → Nat → Nat} {Bn : Nat → Nat → Bool} {Jn : Nat → Nat → Int64} {Ir : Nat → Nat} {Nr : Nat → Nat → Nat} {Br : Nat → Nat → Bool} {Jr : Nat → Nat → Int64} {Is : Nat → Nat} {Ns : Nat → Nat → Nat} {Bs : Nat → Nat → Bool} {Js : Nat → Nat → Int64} {Ic : Nat → Nat} {Nc : Nat → Nat → Nat} {kn : Nat} {K : Nat → kRT} {mn : Nat} {M : Nat → sNT} (Z : CL G f0 f0 hc aC an ar as_ In Nn Bn Jn Ir Nr Br Jr Is Ns Bs Js Ic Nc kn K mn M) (x y : Int32) (hL : ∀ i, Nn 1 i < 64)  : Met l yX4_kept wsX4_kept ({ frames := 3, cells := 0, slots := 0, locals := 64 }) (va_Pc [.ref hc, .int x, .int y] (fw_P G A f0)) (vp_Si (fun (r : Int32) => ix x kn = false ∧ r = -1 ∨ ∃ k, k < kn ∧ x = nI k ∧ r = kpV y (K k).2.2.1 (K k).2.1 (krF (Nn 1) (Bn 2) (K k)))) 0 0 (fun _ => False) := by
  refine q_head rfl (by decide) (Nat.le_of_ble_eq_true rfl) ?_
  intro p e s m below meth c ls C hr hlk hnm P hl
  have S := P.start
  have hl : lv_has ls 4 [(0, .ref hc), (1, .int x), (2, .int y)] := hl
  have hkn := Z.2.2.2.2.2.1.2.2
  refine lv_iload_n C.1 C.2.1 dX4_kept_0 rfl (lv_at hl 1 rfl) ?_
  refine lv_if_lt (tgt := 15) C.1 C.2.1 dX4_kept_1 (by decide) (fun c1 => ?_) (fun c1 => ?_)
  · refine lv_iconst (v := (-1)) C.1 C.2.1 dX4_kept_15 (by decide) ?_
    exact q_retSi C hr hlk (Or.inl ⟨ix_f (Or.inl c1), rfl⟩) dX4_kept_16
  · refine lv_iload_n C.1 C.2.1 dX4_kept_4 rfl (lv_at hl 1 rfl) ?_
    refine lv_aload_n C.1 C.2.1 dX4_kept_5 rfl (lv_at hl 0 rfl) ?_
    refine o_get (v := .ref (aC 2)) C S Z.2.1 rfl inX4_kept_X4 2 (Nat.le_of_ble_eq_true rfl) lkX4_kept_26 rfl dX4_kept_6 ?_
    obtain ⟨fsL, eL⟩ := isL_sz Z.2.2.2.2.2.1.1
    refine q_callSi (As := []) (rest := [.int x]) C S hl eL rfl (L_size Z.2.2.2.2.2.1.1) (cwV 0 C.2.2.2.2 gX4_kept_Jx4a65c_size_8abf5 rfl rfl rfl (by decide +kernel) ⟨Nat.le_of_ble_eq_true rfl, Nat.le_of_ble_eq_true rfl⟩) rfl rfl (Nat.le_of_ble_eq_true rfl) ⟨Nat.le_of_ble_eq_true rfl, Nat.le_of_ble_eq_true rfl⟩ dX4_kept_9 (fun v hv => ?_)
    subst hv
    refine lv_icmp_lt (tgt := 17) C.1 C.2.1 dX4_kept_12 (by decide) (fun c12 => ?_) (fun c12 => ?_)
    · obtain ⟨k, hk, rfl⟩ := ix_of (by omega) c1 c12
      refine lv_aload_n C.1 C.2.1 dX4_kept_17 rfl (lv_at hl 0 rfl) ?_
      refine o_get (v := .ref (aC 2)) C S Z.2.1 rfl inX4_kept_X4 2 (Nat.le_of_ble_eq_true rfl) lkX4_kept_26 rfl dX4_kept_18 ?_
      refine lv_iload_n C.1 C.2.1 dX4_kept_21 rfl (lv_at hl 1 rfl) ?_
      obtain ⟨fsL, eL⟩ := isL_sz Z.2.2.2.2.2.1.1
      refine q_callSq (As := [.int (nI k)]) (rest := []) C S hl eL rfl (L_get Z.2.2.2.2.2.1.1 k (by omega)) (cwV 1 C.2.2.2.2 gX4_kept_Jx4a65c_get_915e3 rfl rfl rfl (by decide +kernel) ⟨Nat.le_of_ble_eq_true rfl, Nat.le_of_ble_eq_true rfl⟩) rfl rfl (Nat.le_of_ble_eq_true rfl) ⟨Nat.le_of_ble_eq_true rfl, Nat.le_of_ble_eq_true rfl⟩ dX4_kept_22 (fun v hv => ?_)
      subst hv
      show W _ _ _ _ _ _ _ _ _ _ _ _ _ _ _ (F0 _ _ _ (.ref (K k).1 :: _))
      obtain ⟨⟨ak, Nk, Bk, Jk, Ok, hN1, hJ2, hJ3⟩, hw, hk2, hP⟩ := Z.2.2.2.2.2.1.2.1 k (by omega)
      have hP : ∀ j, Nk 1 j < 64 := by rw [hN1]; exact hP
      refine va_castY C.1 C.2.1 C.2.2.2.1 (C.2.2.2.2 _ (List.mem_of_getElem? (i := 2) rfl)) S.2.2.2.1.2.2.2.1.1 (q_recv S Ok.1 rfl) dX4_kept_25 ?_
      refine lv_astore_n (lv' := [(3, .ref ((K k).1)), (0, .ref hc), (1, .int (nI k)), (2, .int y)]) C.1 C.2.1 dX4_kept_28 rfl hl (by decide) rfl (fun ls hl => ?_)
      refine lv_iload_n C.1 C.2.1 dX4_kept_29 rfl (lv_at hl 3 rfl) ?_
      by_cases w0 : y = nI 0
      · refine lv_tableIn (off := 26) (tgt := 56) C.1 C.2.1 dX4_kept_30 (by rw [w0]; decide) (by rw [w0]; decide) (by rw [w0]; decide) (by decide) ?_
        refine lv_aload_n C.1 C.2.1 dX4_kept_56 rfl (lv_at hl 0 rfl) ?_
        refine o_get (v := .int (nI ((fun _ => (K k).2.2.1) 0))) C S Ok rfl inX4_kept_X0 0 (Nat.le_of_ble_eq_true rfl) lkX4_kept_160 rfl dX4_kept_57 ?_
        exact q_retSi C hr hlk (Or.inr ⟨k, hk, rfl, (by rw [kpV, if_pos w0])⟩) dX4_kept_60
      by_cases w1 : y = nI 1
      · refine lv_tableIn (off := 31) (tgt := 61) C.1 C.2.1 dX4_kept_30 (by rw [w1]; decide) (by rw [w1]; decide) (by rw [w1]; decide) (by decide) ?_
        refine lv_aload_n C.1 C.2.1 dX4_kept_61 rfl (lv_at hl 0 rfl) ?_
        refine o_get (v := .ref (ak 1)) C S Ok rfl inX4_kept_X0 1 (Nat.le_of_ble_eq_true rfl) lkX4_kept_163 rfl dX4_kept_62 ?_
        refine q_alenN (n := (K k).2.1) C S ((Ok.2 1 (Nat.le_of_ble_eq_true rfl)).1 rfl) dX4_kept_65 ?_
        exact q_retSi C hr hlk (Or.inr ⟨k, hk, rfl, (by rw [kpV, if_neg w0, if_pos w1])⟩) dX4_kept_66
      by_cases w2 : y = nI 2
      · refine lv_tableIn (off := 37) (tgt := 67) C.1 C.2.1 dX4_kept_30 (by rw [w2]; decide) (by rw [w2]; decide) (by rw [w2]; decide) (by decide) ?_
        refine lv_aload_n C.1 C.2.1 dX4_kept_67 rfl (lv_at hl 0 rfl) ?_
        refine lv_aload_n C.1 C.2.1 dX4_kept_68 rfl (lv_at hl 1 rfl) ?_
        refine o_get (v := .ref (aC 0)) C S Z.2.1 rfl inX4_kept_X4 0 (Nat.le_of_ble_eq_true rfl) lkX4_kept_10 rfl dX4_kept_69 ?_
        refine q_callSi (As := [.ref (aC 0)]) (rest := []) C S hl Ok.1 rfl (c_countFree Ok Z.2.2.1 hw hP hL) (cwV 1 C.2.2.2.2 gX4_kept_X0_countFree rfl rfl rfl (by decide +kernel) ⟨Nat.le_of_ble_eq_true rfl, Nat.le_of_ble_eq_true rfl⟩) rfl rfl (Nat.le_of_ble_eq_true rfl) ⟨Nat.le_of_ble_eq_true rfl, Nat.le_of_ble_eq_true rfl⟩ dX4_kept_72 (fun v hv => ?_)
        rw [hN1] at hv
        have hv : v = nI (krF (Nn 1) (Bn 2) (K k)) := hv
        subst hv
        have hkF := krF_le (L := (Nn 1)) (B := (Bn 2)) (k := (K k))
        exact q_retSi C hr hlk (Or.inr ⟨k, hk, rfl, (by rw [kpV, if_neg w0, if_neg w1, if_pos w2])⟩) dX4_kept_75
      refine lv_tableOut (tgt := 76) C.1 C.2.1 dX4_kept_30 (tb_out (n := 2) (by decide) (fun j hj => by rcases (show j = 0 ∨ j = 1 ∨ j = 2 by omega) with rfl | rfl | rfl <;> assumption)) (by decide) ?_
      refine lv_iconst (v := (-1)) C.1 C.2.1 dX4_kept_76 (by decide) ?_
      exact q_retSi C hr hlk (Or.inr ⟨k, hk, rfl, (by rw [kpV, if_neg w0, if_neg w1, if_neg w2])⟩) dX4_kept_77
    · refine lv_iconst (v := (-1)) C.1 C.2.1 dX4_kept_15 (by decide) ?_
      exact q_retSi C hr hlk (Or.inl ⟨ix_f (Or.inr (Int32.not_lt.mp c12)), rfl⟩) dX4_kept_16
theorem inX4_count_X4 : ∀ w ∈ u_ws RX4 TX4 7, w ∈ wsX4_count := (fun _ h => (List.mem_cons_of_mem _ (List.mem_append_left _ (List.mem_append_left _ (List.mem_append_left _ (List.mem_append_left _ (List.mem_append_right _ h)))))))
theorem lkX4_count_10 : Cond.fieldLink RX4 10 (TX4 0).1 (TX4 0).2.1 (TX4 0).2.2.1 ∈ wsX4_count := List.mem_of_getElem? (i := 1) rfl
theorem inX4_count_X1 : ∀ w ∈ u_ws RX1 TX1 7, w ∈ wsX4_count := (fun _ h => (List.mem_cons_of_mem _ (List.mem_append_left _ (List.mem_append_left _ (List.mem_append_left _ (List.mem_append_right _ h))))))
theorem lkX4_count_48 : Cond.fieldLink RX4 48 (TX1 0).1 (TX1 0).2.1 (TX1 0).2.2.1 ∈ wsX4_count := List.mem_of_getElem? (i := 2) rfl
theorem lkX4_count_26 : Cond.fieldLink RX4 26 (TX4 2).1 (TX4 2).2.1 (TX4 2).2.2.1 ∈ wsX4_count := List.mem_of_getElem? (i := 3) rfl
theorem lkX4_count_44 : Cond.fieldLink RX4 44 (TX4 6).1 (TX4 6).2.1 (TX4 6).2.2.1 ∈ wsX4_count := List.mem_of_getElem? (i := 4) rfl
theorem lkX4_count_19 : Cond.fieldLink RX4 19 (TX4 1).1 (TX4 1).2.1 (TX4 1).2.2.1 ∈ wsX4_count := List.mem_of_getElem? (i := 5) rfl
theorem inX4_count_X2 : ∀ w ∈ u_ws RX2 TX2 3, w ∈ wsX4_count := (fun _ h => (List.mem_cons_of_mem _ (List.mem_append_left _ (List.mem_append_left _ (List.mem_append_right _ h)))))
theorem lkX4_count_78 : Cond.fieldLink RX4 78 (TX2 0).1 (TX2 0).2.1 (TX2 0).2.2.1 ∈ wsX4_count := List.mem_of_getElem? (i := 6) rfl
theorem lkX4_count_33 : Cond.fieldLink RX4 33 (TX4 3).1 (TX4 3).2.1 (TX4 3).2.2.1 ∈ wsX4_count := List.mem_of_getElem? (i := 7) rfl
theorem inX4_count_X3 : ∀ w ∈ u_ws RX3 TX3 6, w ∈ wsX4_count := (fun _ h => (List.mem_cons_of_mem _ (List.mem_append_left _ (List.mem_append_right _ h))))
theorem lkX4_count_170 : Cond.fieldLink RX4 170 (TX3 2).1 (TX3 2).2.1 (TX3 2).2.2.1 ∈ wsX4_count := List.mem_of_getElem? (i := 8) rfl
theorem lkX4_count_96 : Cond.fieldLink RX4 96 (TX3 1).1 (TX3 1).2.1 (TX3 1).2.2.1 ∈ wsX4_count := List.mem_of_getElem? (i := 9) rfl
theorem lkX4_count_173 : Cond.fieldLink RX4 173 (TX3 3).1 (TX3 3).2.1 (TX3 3).2.2.1 ∈ wsX4_count := List.mem_of_getElem? (i := 10) rfl
set_option maxHeartbeats 4000000 in
set_option maxRecDepth 100000 in
theorem p_count {l : Launch} {G : fw_G} {A : Nat → Prop} {f0 : fw_F} {hc : Nat} {aC an ar as_ : Nat → Nat} {In : Nat → Nat} {Nn : Nat → Nat → Nat} {Bn : Nat → Nat → Bool} {Jn : Nat → Nat → Int64} {Ir : Nat → Nat} {Nr : Nat → Nat → Nat} {Br : Nat → Nat → Bool} {Jr : Nat → Nat → Int64} {Is : Nat → Nat} {Ns : Nat → Nat → Nat} {Bs : Nat → Nat → Bool} {Js : Nat → Nat → Int64} {Ic : Nat → Nat} {Nc : Nat → Nat → Nat} {kn : Nat} {K : Nat → kRT} {mn : Nat} {M : Nat → sNT} (Z : CL G f0 f0 hc aC an ar as_ In Nn Bn Jn Ir Nr Br Jr Is Ns Bs Js Ic Nc kn K mn M) (x : Int32)  : Met l yX4_count wsX4_count ({ frames := 1, cells := 0, slots := 0, locals := 20 }) (va_Pc [.ref hc, .int x] (fw_P G A f0)) (vp_Si (fun (r : Int32) => r = ctF x (In 0) kn (Ic 6) (Ir 0) (Is 2) (Is 1) (Is 3))) 0 0 (fun _ => False) := by
  refine q_head rfl (by decide) (Nat.le_of_ble_eq_true rfl) ?_
  intro p e s m below meth c ls C hr hlk hnm P hl
  have S := P.start
  have hl : lv_has ls 2 [(0, .ref hc), (1, .int x)] := hl
  refine lv_iload_n C.1 C.2.1 dX4_count_0 rfl (lv_at hl 1 rfl) ?_
  by_cases w0 : x = nI 0
  · refine lv_tableIn (off := 43) (tgt := 44) C.1 C.2.1 dX4_count_1 (by rw [w0]; decide) (by rw [w0]; decide) (by rw [w0]; decide) (by decide) ?_
    refine lv_aload_n C.1 C.2.1 dX4_count_44 rfl (lv_at hl 0 rfl) ?_
    refine o_get (v := .ref (aC 0)) C S Z.2.1 rfl inX4_count_X4 0 (Nat.le_of_ble_eq_true rfl) lkX4_count_10 rfl dX4_count_45 ?_
    refine o_get (v := .int (nI (In 0))) C S Z.2.2.1 rfl inX4_count_X1 0 (Nat.le_of_ble_eq_true rfl) lkX4_count_48 rfl dX4_count_48 ?_
    exact q_retSi C hr hlk (by rw [ctF, if_pos w0]) dX4_count_51
  by_cases w1 : x = nI 1
  · refine lv_tableIn (off := 51) (tgt := 52) C.1 C.2.1 dX4_count_1 (by rw [w1]; decide) (by rw [w1]; decide) (by rw [w1]; decide) (by decide) ?_
    refine lv_aload_n C.1 C.2.1 dX4_count_52 rfl (lv_at hl 0 rfl) ?_
    refine o_get (v := .ref (aC 2)) C S Z.2.1 rfl inX4_count_X4 2 (Nat.le_of_ble_eq_true rfl) lkX4_count_26 rfl dX4_count_53 ?_
    obtain ⟨fsL, eL⟩ := isL_sz Z.2.2.2.2.2.1.1
    refine q_callSi (As := []) (rest := []) C S hl eL rfl (L_size Z.2.2.2.2.2.1.1) (cwV 0 C.2.2.2.2 gX4_count_Jx4a65c_size_8abf5 rfl rfl rfl (by decide +kernel) ⟨Nat.le_of_ble_eq_true rfl, Nat.le_of_ble_eq_true rfl⟩) rfl rfl (Nat.le_of_ble_eq_true rfl) ⟨Nat.le_of_ble_eq_true rfl, Nat.le_of_ble_eq_true rfl⟩ dX4_count_56 (fun v hv => ?_)
    subst hv
    exact q_retSi C hr hlk (by rw [ctF, if_neg w0, if_pos w1]) dX4_count_59
  by_cases w2 : x = nI 2
  · refine lv_tableIn (off := 59) (tgt := 60) C.1 C.2.1 dX4_count_1 (by rw [w2]; decide) (by rw [w2]; decide) (by rw [w2]; decide) (by decide) ?_
    refine lv_aload_n C.1 C.2.1 dX4_count_60 rfl (lv_at hl 0 rfl) ?_
    refine o_get (v := .int (nI (Ic 6))) C S Z.2.1 rfl inX4_count_X4 6 (Nat.le_of_ble_eq_true rfl) lkX4_count_44 rfl dX4_count_61 ?_
    exact q_retSi C hr hlk (by rw [ctF, if_neg w0, if_neg w1, if_pos w2]) dX4_count_64
  by_cases w3 : x = nI 3
  · refine lv_tableIn (off := 64) (tgt := 65) C.1 C.2.1 dX4_count_1 (by rw [w3]; decide) (by rw [w3]; decide) (by rw [w3]; decide) (by decide) ?_
    refine lv_aload_n C.1 C.2.1 dX4_count_65 rfl (lv_at hl 0 rfl) ?_
    refine o_get (v := .ref (aC 1)) C S Z.2.1 rfl inX4_count_X4 1 (Nat.le_of_ble_eq_true rfl) lkX4_count_19 rfl dX4_count_66 ?_
    refine o_get (v := .int (nI (Ir 0))) C S Z.2.2.2.1 rfl inX4_count_X2 0 (Nat.le_of_ble_eq_true rfl) lkX4_count_78 rfl dX4_count_69 ?_
    exact q_retSi C hr hlk (by rw [ctF, if_neg w0, if_neg w1, if_neg w2, if_pos w3]) dX4_count_72
  by_cases w4 : x = nI 4
  · refine lv_tableIn (off := 72) (tgt := 73) C.1 C.2.1 dX4_count_1 (by rw [w4]; decide) (by rw [w4]; decide) (by rw [w4]; decide) (by decide) ?_
    refine lv_aload_n C.1 C.2.1 dX4_count_73 rfl (lv_at hl 0 rfl) ?_
    refine o_get (v := .ref (aC 3)) C S Z.2.1 rfl inX4_count_X4 3 (Nat.le_of_ble_eq_true rfl) lkX4_count_33 rfl dX4_count_74 ?_
    refine o_get (v := .int (nI (Is 2))) C S Z.2.2.2.2.1 rfl inX4_count_X3 2 (Nat.le_of_ble_eq_true rfl) lkX4_count_170 rfl dX4_count_77 ?_
    exact q_retSi C hr hlk (by rw [ctF, if_neg w0, if_neg w1, if_neg w2, if_neg w3, if_pos w4]) dX4_count_80
  by_cases w5 : x = nI 5
  · refine lv_tableIn (off := 80) (tgt := 81) C.1 C.2.1 dX4_count_1 (by rw [w5]; decide) (by rw [w5]; decide) (by rw [w5]; decide) (by decide) ?_
    refine lv_aload_n C.1 C.2.1 dX4_count_81 rfl (lv_at hl 0 rfl) ?_
    refine o_get (v := .ref (aC 3)) C S Z.2.1 rfl inX4_count_X4 3 (Nat.le_of_ble_eq_true rfl) lkX4_count_33 rfl dX4_count_82 ?_
    refine o_get (v := .int (nI (Is 1))) C S Z.2.2.2.2.1 rfl inX4_count_X3 1 (Nat.le_of_ble_eq_true rfl) lkX4_count_96 rfl dX4_count_85 ?_
    exact q_retSi C hr hlk (by rw [ctF, if_neg w0, if_neg w1, if_neg w2, if_neg w3, if_neg w4, if_pos w5]) dX4_count_88
  by_cases w6 : x = nI 6
  · refine lv_tableIn (off := 88) (tgt := 89) C.1 C.2.1 dX4_count_1 (by rw [w6]; decide) (by rw [w6]; decide) (by rw [w6]; decide) (by decide) ?_
    refine lv_aload_n C.1 C.2.1 dX4_count_89 rfl (lv_at hl 0 rfl) ?_
    refine o_get (v := .ref (aC 3)) C S Z.2.1 rfl inX4_count_X4 3 (Nat.le_of_ble_eq_true rfl) lkX4_count_33 rfl dX4_count_90 ?_
    refine o_get (v := .int (nI (Is 3))) C S Z.2.2.2.2.1 rfl inX4_count_X3 3 (Nat.le_of_ble_eq_true rfl) lkX4_count_173 rfl dX4_count_93 ?_
    exact q_retSi C hr hlk (by rw [ctF, if_neg w0, if_neg w1, if_neg w2, if_neg w3, if_neg w4, if_neg w5, if_pos w6]) dX4_count_96
  refine lv_tableOut (tgt := 97) C.1 C.2.1 dX4_count_1 (tb_out (n := 6) (by decide) (fun j hj => by rcases (show j = 0 ∨ j = 1 ∨ j = 2 ∨ j = 3 ∨ j = 4 ∨ j = 5 ∨ j = 6 by omega) with rfl | rfl | rfl | rfl | rfl | rfl | rfl <;> assumption)) (by decide) ?_
  refine lv_iconst (v := (-1)) C.1 C.2.1 dX4_count_97 (by decide) ?_
  exact q_retSi C hr hlk (by rw [ctF, if_neg w0, if_neg w1, if_neg w2, if_neg w3, if_neg w4, if_neg w5, if_neg w6]) dX4_count_98
