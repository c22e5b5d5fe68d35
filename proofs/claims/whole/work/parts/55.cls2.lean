theorem inX3_planLooks_X3 : ∀ w ∈ u_ws RX3 TX3 6, w ∈ wsX3_planLooks := (fun _ h => (List.mem_cons_of_mem _ (List.mem_append_left _ (List.mem_append_left _ (List.mem_append_left _ (List.mem_append_right _ h))))))
theorem lkX3_planLooks_19 : Cond.fieldLink RX3 19 (TX3 5).1 (TX3 5).2.1 (TX3 5).2.2.1 ∈ wsX3_planLooks := List.mem_of_getElem? (i := 1) rfl
set_option maxHeartbeats 4000000 in
set_option maxRecDepth 100000 in
theorem s_planLooks {l : Launch} {G : fw_G} {A : Nat → Prop} {f0 : fw_F} {hc : Nat} {aC an ar as_ : Nat → Nat} {In : Nat → Nat} {Nn : Nat → Nat → Nat} {Bn : Nat → Nat → Bool} {Jn : Nat → Nat → Int64} {Ir : Nat → Nat} {Nr : Nat → Nat → Nat} {Br : Nat → Nat → Bool} {Jr : Nat → Nat → Int64} {Is : Nat → Nat} {Ns : Nat → Nat → Nat} {Bs : Nat → Nat → Bool} {Js : Nat → Nat → Int64} {Ic : Nat → Nat} {Nc : Nat → Nat → Nat} {kn : Nat} {K : Nat → kRT} {mn : Nat} {M : Nat → sNT} (Z : CL G f0 f0 hc aC an ar as_ In Nn Bn Jn Ir Nr Br Jr Is Ns Bs Js Ic Nc kn K mn M) (hL : ∀ i, Nn 1 i < 64) (hc1 : Is 1 ≤ 32) (hF : ∀ i, Ns 0 i < 64)  : Met l yX3_planLooks wsX3_planLooks ({ frames := 3, cells := 0, slots := 0, locals := 64 }) (va_Pc [.ref (aC 3), .ref (aC 0), .ref (aC 2)] (fw_P G A f0)) (va_Qv (fun (f1 : fw_F) => ∃ Js', CL G f0 f1 hc aC an ar as_ In Nn Bn Jn Ir Nr Br Jr Is Ns Bs Js' Ic Nc kn K mn M ∧ (∀ q, q ≠ 5 → Js' q = Js q) ∧ ∀ i, i < kn → (Js' 5 i).toInt32 = mI (lkC (Nn 1) (Bn 2) (Ns 0) (Is 1) (K i))) (fw_B G A) A) 0 0 A := by
  refine q_head rfl (by decide) (Nat.le_of_ble_eq_true rfl) ?_
  intro p e s m below meth c ls C hr hlk hnm P hl
  have S := P.start
  have hl : lv_has ls 4 [(0, .ref (aC 3)), (1, .ref (aC 0)), (2, .ref (aC 2))] := hl
  have hkn := Z.2.2.2.2.2.1.2.2
  refine lv_iconst (v := nI 0) C.1 C.2.1 dX3_planLooks_0 (by decide) ?_
  refine lv_istore_n (lv' := [(3, .int (nI 0)), (0, .ref (aC 3)), (1, .ref (aC 0)), (2, .ref (aC 2))]) C.1 C.2.1 dX3_planLooks_1 rfl hl (by decide) rfl (fun ls hl => ?_)
  have lp2 : ∀ (n2 : Nat) (z : Nat) (J3 : Nat → Nat → Int64), kn - z < n2 → (z ≤ kn) → (∀ q, q ≠ 5 → J3 q = Js q) → (∀ i, i < z → (J3 5 i).toInt32 = mI (lkC (Nn 1) (Bn 2) (Ns 0) (Is 1) (K i))) → ∀ (f : fw_F) (H : Heap) (locs : List Loc) (ls : Array Slot), fw_S G A s f H locs → CL G f0 f hc aC an ar as_ In Nn Bn Jn Ir Nr Br Jr Is Ns Bs J3 Ic Nc kn K mn M → lv_has ls 4 [(3, .int (nI z)), (0, .ref (aC 3)), (1, .ref (aC 0)), (2, .ref (aC 2))] → W p l e ({ frames := 3, cells := 0, slots := 0, locals := 64 }) s m [.ref (aC 3), .ref (aC 0), .ref (aC 2)].toArray below meth c H locs 0 0 (MQ below (va_Qv (fun (f1 : fw_F) => ∃ Js', CL G f0 f1 hc aC an ar as_ In Nn Bn Jn Ir Nr Br Jr Is Ns Bs Js' Ic Nc kn K mn M ∧ (∀ q, q ≠ 5 → Js' q = Js q) ∧ ∀ i, i < kn → (Js' 5 i).toInt32 = mI (lkC (Nn 1) (Bn 2) (Ns 0) (Is 1) (K i))) (fw_B G A) A) [.ref (aC 3), .ref (aC 0), .ref (aC 2)].toArray s 0 0 A) (F0 m 2 ls []) := by
    intro n2
    induction n2 with
    | zero => intro z J3 hme2; exact absurd hme2 (Nat.not_lt_zero _)
    | succ n2 ih2 =>
      intro z J3 hme2 hz hJ3q hz2 f H locs ls S Z hl
      refine lv_iload_n C.1 C.2.1 dX3_planLooks_2 rfl (lv_at hl 0 rfl) ?_
      refine lv_aload_n C.1 C.2.1 dX3_planLooks_3 rfl (lv_at hl 3 rfl) ?_
      obtain ⟨fsL, eL⟩ := isL_sz Z.2.2.2.2.2.1.1
      refine q_callSi (As := []) (rest := [.int (nI z)]) C S hl eL rfl (L_size Z.2.2.2.2.2.1.1) (cwV 0 C.2.2.2.2 gX3_planLooks_Jx4a65c_size_8abf5 rfl rfl rfl (by decide +kernel) ⟨Nat.le_of_ble_eq_true rfl, Nat.le_of_ble_eq_true rfl⟩) rfl rfl (Nat.le_of_ble_eq_true rfl) ⟨Nat.le_of_ble_eq_true rfl, Nat.le_of_ble_eq_true rfl⟩ dX3_planLooks_4 (fun v hv => ?_)
      subst hv
      refine q_ge (tgt := 41) C (by omega) (by omega) dX3_planLooks_7 (by decide) (fun c7 => ?_) (fun c7 => ?_)
      · exact q_retQv C S hr hlk ⟨J3, Z, hJ3q, fun i hi => hz2 i (by omega)⟩ dX3_planLooks_41
      · refine lv_iload_n C.1 C.2.1 dX3_planLooks_10 rfl (lv_at hl 0 rfl) ?_
        refine lv_bipush (v := nI 60) C.1 C.2.1 dX3_planLooks_11 (by decide) ?_
        refine q_ge (tgt := 41) C (by omega) (by decide) dX3_planLooks_13 (by decide) (fun c13 => ?_) (fun c13 => ?_)
        · exact absurd c13 (by omega)
        · refine lv_aload_n C.1 C.2.1 dX3_planLooks_16 rfl (lv_at hl 1 rfl) ?_
          refine o_get (v := .ref (as_ 5)) C S Z.2.2.2.2.1 rfl inX3_planLooks_X3 5 (Nat.le_of_ble_eq_true rfl) lkX3_planLooks_19 rfl dX3_planLooks_17 ?_
          refine lv_iload_n C.1 C.2.1 dX3_planLooks_20 rfl (lv_at hl 0 rfl) ?_
          refine lv_aload_n C.1 C.2.1 dX3_planLooks_21 rfl (lv_at hl 3 rfl) ?_
          refine lv_iload_n C.1 C.2.1 dX3_planLooks_22 rfl (lv_at hl 0 rfl) ?_
          obtain ⟨fsL, eL⟩ := isL_sz Z.2.2.2.2.2.1.1
          refine q_callSq (As := [.int (nI z)]) (rest := [.int (nI z), .ref (as_ 5)]) C S hl eL rfl (L_get Z.2.2.2.2.2.1.1 z (by omega)) (cwV 1 C.2.2.2.2 gX3_planLooks_Jx4a65c_get_915e3 rfl rfl rfl (by decide +kernel) ⟨Nat.le_of_ble_eq_true rfl, Nat.le_of_ble_eq_true rfl⟩) rfl rfl (Nat.le_of_ble_eq_true rfl) ⟨Nat.le_of_ble_eq_true rfl, Nat.le_of_ble_eq_true rfl⟩ dX3_planLooks_23 (fun v hv => ?_)
          subst hv
          show W _ _ _ _ _ _ _ _ _ _ _ _ _ _ _ (F0 _ _ _ (.ref (K z).1 :: _))
          obtain ⟨⟨ak, Nk, Bk, Jk, Ok, hN1, hJ2, hJ3⟩, hw, hk2, hP⟩ := Z.2.2.2.2.2.1.2.1 z (by omega)
          have hP : ∀ j, Nk 1 j < 64 := by rw [hN1]; exact hP
          refine va_castY C.1 C.2.1 C.2.2.2.1 (C.2.2.2.2 _ (List.mem_of_getElem? (i := 2) rfl)) S.2.2.2.1.2.2.2.1.1 (q_recv S Ok.1 rfl) dX3_planLooks_26 ?_
          refine lv_aload_n C.1 C.2.1 dX3_planLooks_29 rfl (lv_at hl 2 rfl) ?_
          refine lv_aload_n C.1 C.2.1 dX3_planLooks_30 rfl (lv_at hl 1 rfl) ?_
          refine q_callSi (As := [.ref (aC 0), .ref (aC 3)]) (rest := [.int (nI z), .ref (as_ 5)]) C S hl Ok.1 rfl (c_levelOfLast Ok Z.2.2.1 Z.2.2.2.2.1 hw hP hL hc1 hF) (cwV 2 C.2.2.2.2 gX3_planLooks_X0_levelOfLast rfl rfl rfl (by decide +kernel) ⟨Nat.le_of_ble_eq_true rfl, Nat.le_of_ble_eq_true rfl⟩) rfl rfl (Nat.le_of_ble_eq_true rfl) ⟨Nat.le_of_ble_eq_true rfl, Nat.le_of_ble_eq_true rfl⟩ dX3_planLooks_31 (fun v hv => ?_)
          rw [hN1] at hv
          have hv : v = mI (lkC (Nn 1) (Bn 2) (Ns 0) (Is 1) (K z)) := hv
          subst hv
          refine o_iast C S Z.2.2.2.2.1 (fw_fr_rf _ 3300 (3300 + 7)) 5 (Nat.le_of_ble_eq_true rfl) rfl z rfl (show z < 60 from by first | omega | exact hL _ | exact hP _ | exact hF _) (Nat.le_of_ble_eq_true rfl) ⟨by decide, by decide⟩ dX3_planLooks_34 (fun f H locs S O1 F1 => ?_)
          have Z := CL_s Z F1 O1
          refine q_iinc (d := 1) (lv' := [(3, .int (nI (z + 1))), (0, .ref (aC 3)), (1, .ref (aC 0)), (2, .ref (aC 2))]) C dX3_planLooks_35 hl (k := 0) rfl (by decide) (by decide) rfl (fun ls hl => ?_)
          refine lv_goto (tgt := 2) C.1 C.2.1 dX3_planLooks_38 (by decide) ?_
          exact ih2 (z + 1) (va_up J3 5 (va_up (J3 5) z (mI (lkC (Nn 1) (Bn 2) (Ns 0) (Is 1) (K z))).toInt64)) (by omega) (by omega) (fun q hq => by rw [up_n hq]; exact hJ3q q hq) (fun i hi => by rw [up_s]; rcases Nat.lt_or_ge i z with q | q; rw [up_n (by omega)]; exact hz2 i q; rw [show i = z by omega, up_s]; exact Int32.toInt32_toInt64 _) _ _ _ _ S Z (lv_sub hl [0, 1, 2, 3] rfl)
  exact lp2 (kn + 1) 0 Js (by omega) (by omega) (fun _ _ => rfl) (fun i hi => absurd hi (Nat.not_lt_zero i)) _ _ _ _ S Z (lv_sub hl [0, 1, 2, 3] rfl)
theorem inX4_settle_X4 : ∀ w ∈ u_ws RX4 TX4 7, w ∈ wsX4_settle := (fun _ h => (List.mem_cons_of_mem _ (List.mem_append_left _ (List.mem_append_left _ (List.mem_append_left _ (List.mem_append_right _ h))))))
theorem lkX4_settle_10 : Cond.fieldLink RX4 10 (TX4 0).1 (TX4 0).2.1 (TX4 0).2.2.1 ∈ wsX4_settle := List.mem_of_getElem? (i := 1) rfl
set_option maxHeartbeats 4000000 in
set_option maxRecDepth 100000 in
theorem s_settle {l : Launch} {G : fw_G} {A : Nat → Prop} {f0 : fw_F} {hc : Nat} {aC an ar as_ : Nat → Nat} {In : Nat → Nat} {Nn : Nat → Nat → Nat} {Bn : Nat → Nat → Bool} {Jn : Nat → Nat → Int64} {Ir : Nat → Nat} {Nr : Nat → Nat → Nat} {Br : Nat → Nat → Bool} {Jr : Nat → Nat → Int64} {Is : Nat → Nat} {Ns : Nat → Nat → Nat} {Bs : Nat → Nat → Bool} {Js : Nat → Nat → Int64} {Ic : Nat → Nat} {Nc : Nat → Nat → Nat} {kn : Nat} {K : Nat → kRT} {mn : Nat} {M : Nat → sNT} (Z : CL G f0 f0 hc aC an ar as_ In Nn Bn Jn Ir Nr Br Jr Is Ns Bs Js Ic Nc kn K mn M) (x : Nat) (hx : x < 64) (u : Int64) (hL : ∀ i, Nn 1 i < 64)  : Met l yX4_settle wsX4_settle ({ frames := 4, cells := 0, slots := 0, locals := 89 }) (va_Pc [.ref hc, .int (nI x), .long u] (fw_P G A f0)) (va_Qi (fun (r : Int32) (f1 : fw_F) => stP (Nn 1) Bn Jn K kn (Nn 1 x) u r (fun Bq Jq => CL G f0 f1 hc aC an ar as_ In Nn Bq Jq Ir Nr Br Jr Is Ns Bs Js Ic Nc kn K mn M)) (fw_B G A) A) 0 0 A := by
  refine q_head rfl (by decide) (Nat.le_of_ble_eq_true rfl) ?_
  intro p e s m below meth c ls C hr hlk hnm P hl
  have S := P.start
  have hl : lv_has ls 4 [(0, .ref hc), (1, .int (nI x)), (2, .long u)] := hl
  refine lv_aload_n C.1 C.2.1 dX4_settle_0 rfl (lv_at hl 0 rfl) ?_
  refine o_get (v := .ref (aC 0)) C S Z.2.1 rfl inX4_settle_X4 0 (Nat.le_of_ble_eq_true rfl) lkX4_settle_10 rfl dX4_settle_1 ?_
  refine lv_iload_n C.1 C.2.1 dX4_settle_4 rfl (lv_at hl 1 rfl) ?_
  refine q_callSi (As := [.int (nI x)]) (rest := []) C S hl Z.2.2.1.1 rfl (c_isKnown Z.2.2.1 x (by first | omega | exact hL _ | exact hP _ | exact hF _) hL) (cwV 1 C.2.2.2.2 gX4_settle_X1_isKnown rfl rfl rfl (by decide +kernel) ⟨Nat.le_of_ble_eq_true rfl, Nat.le_of_ble_eq_true rfl⟩) rfl rfl (Nat.le_of_ble_eq_true rfl) ⟨Nat.le_of_ble_eq_true rfl, Nat.le_of_ble_eq_true rfl⟩ dX4_settle_5 (fun v hv => ?_)
  subst hv
  refine q_ifeqB (tgt := 30) C dX4_settle_8 (by decide) (fun c8 => ?_) (fun c8 => ?_)
  · refine lv_aload_n C.1 C.2.1 dX4_settle_30 rfl (lv_at hl 0 rfl) ?_
    refine o_get (v := .ref (aC 0)) C S Z.2.1 rfl inX4_settle_X4 0 (Nat.le_of_ble_eq_true rfl) lkX4_settle_10 rfl dX4_settle_31 ?_
    refine lv_iload_n C.1 C.2.1 dX4_settle_34 rfl (lv_at hl 1 rfl) ?_
    refine lv_lload_n C.1 C.2.1 dX4_settle_35 rfl (lv_at hl 2 rfl) ?_
    refine q_callSi (As := [.int (nI x), .long u]) (rest := []) C S hl Z.2.2.1.1 rfl (c_liesInSpan Z.2.2.1 x (by first | omega | exact hL _ | exact hP _ | exact hF _) hL u) (cwV 2 C.2.2.2.2 gX4_settle_X1_liesInSpan rfl rfl rfl (by decide +kernel) ⟨Nat.le_of_ble_eq_true rfl, Nat.le_of_ble_eq_true rfl⟩) rfl rfl (Nat.le_of_ble_eq_true rfl) ⟨Nat.le_of_ble_eq_true rfl, Nat.le_of_ble_eq_true rfl⟩ dX4_settle_36 (fun v hv => ?_)
    have hv := hv
    subst hv
    refine q_ifneB (tgt := 44) C dX4_settle_39 (by decide) (fun c39 => ?_) (fun c39 => ?_)
    · refine lv_aload_n C.1 C.2.1 dX4_settle_44 rfl (lv_at hl 0 rfl) ?_
      refine o_get (v := .ref (aC 0)) C S Z.2.1 rfl inX4_settle_X4 0 (Nat.le_of_ble_eq_true rfl) lkX4_settle_10 rfl dX4_settle_45 ?_
      refine lv_iload_n C.1 C.2.1 dX4_settle_48 rfl (lv_at hl 1 rfl) ?_
      refine lv_lload_n C.1 C.2.1 dX4_settle_49 rfl (lv_at hl 2 rfl) ?_
      refine q_callQv (As := [.int (nI x), .long u]) (rest := []) C S hl Z.2.2.1.1 rfl (c_setNumber Z.2.2.1 x (by first | omega | exact hL _ | exact hP _ | exact hF _) hL u) (cwV 2 C.2.2.2.2 gX4_settle_X1_setNumber rfl rfl rfl (by decide +kernel) ⟨Nat.le_of_ble_eq_true rfl, Nat.le_of_ble_eq_true rfl⟩) rfl rfl (Nat.le_of_ble_eq_true rfl) ⟨Nat.le_of_ble_eq_true rfl, Nat.le_of_ble_eq_true rfl⟩ dX4_settle_50 (fun f H locs hv S => ?_)
      obtain ⟨O1, F1⟩ := hv
      have Z := CL_n Z F1 O1
      refine lv_aload_n C.1 C.2.1 dX4_settle_53 rfl (lv_at hl 0 rfl) ?_
      refine q_callSi (As := []) (rest := []) C S hl Z.2.1.1 rfl (s_allComplete (CL_rf Z) hL) (cwV 0 C.2.2.2.2 gX4_settle_X4_allCompleteAreSo rfl rfl rfl (by decide +kernel) ⟨Nat.le_of_ble_eq_true rfl, Nat.le_of_ble_eq_true rfl⟩) rfl rfl (Nat.le_of_ble_eq_true rfl) ⟨Nat.le_of_ble_eq_true rfl, Nat.le_of_ble_eq_true rfl⟩ dX4_settle_54 (fun v hv => ?_)
      subst hv
      refine q_ifeqB (tgt := 62) C dX4_settle_57 (by decide) (fun c57 => ?_) (fun c57 => ?_)
      · refine lv_aload_n C.1 C.2.1 dX4_settle_62 rfl (lv_at hl 0 rfl) ?_
        refine o_get (v := .ref (aC 0)) C S Z.2.1 rfl inX4_settle_X4 0 (Nat.le_of_ble_eq_true rfl) lkX4_settle_10 rfl dX4_settle_63 ?_
        refine lv_iload_n C.1 C.2.1 dX4_settle_66 rfl (lv_at hl 1 rfl) ?_
        refine q_callQv (As := [.int (nI x)]) (rest := []) C S hl Z.2.2.1.1 rfl (c_unsetNumber Z.2.2.1 x (by first | omega | exact hL _ | exact hP _ | exact hF _) hL) (cwV 1 C.2.2.2.2 gX4_settle_X1_unsetNumber rfl rfl rfl (by decide +kernel) ⟨Nat.le_of_ble_eq_true rfl, Nat.le_of_ble_eq_true rfl⟩) rfl rfl (Nat.le_of_ble_eq_true rfl) ⟨Nat.le_of_ble_eq_true rfl, Nat.le_of_ble_eq_true rfl⟩ dX4_settle_67 (fun f H locs hv S => ?_)
        obtain ⟨O1, F1⟩ := hv
        have Z := CL_n Z F1 O1
        refine lv_iconst (v := nI 0) C.1 C.2.1 dX4_settle_70 (by decide) ?_
        exact q_retQz (b := false) C S hr hlk rfl (Or.inr (Or.inr (Or.inr ⟨c8, c39, c57, rfl, unset_B c8 ▸ Z⟩))) dX4_settle_71
      · refine lv_iconst (v := nI 1) C.1 C.2.1 dX4_settle_60 (by decide) ?_
        exact q_retQz (b := true) C S hr hlk rfl (Or.inr (Or.inr (Or.inl ⟨c8, c39, c57, rfl, Z⟩))) dX4_settle_61
    · refine lv_iconst (v := nI 0) C.1 C.2.1 dX4_settle_42 (by decide) ?_
      exact q_retQz (b := false) C S hr hlk rfl (Or.inr (Or.inl ⟨c8, c39, rfl, Z⟩)) dX4_settle_43
  · refine lv_aload_n C.1 C.2.1 dX4_settle_11 rfl (lv_at hl 0 rfl) ?_
    refine o_get (v := .ref (aC 0)) C S Z.2.1 rfl inX4_settle_X4 0 (Nat.le_of_ble_eq_true rfl) lkX4_settle_10 rfl dX4_settle_12 ?_
    refine lv_iload_n C.1 C.2.1 dX4_settle_15 rfl (lv_at hl 1 rfl) ?_
    refine q_callSl (As := [.int (nI x)]) (rest := []) C S hl Z.2.2.1.1 rfl (c_numberOf Z.2.2.1 x (by first | omega | exact hL _ | exact hP _ | exact hF _) hL) (cwV 1 C.2.2.2.2 gX4_settle_X1_numberOf rfl rfl rfl (by decide +kernel) ⟨Nat.le_of_ble_eq_true rfl, Nat.le_of_ble_eq_true rfl⟩) rfl rfl (Nat.le_of_ble_eq_true rfl) ⟨Nat.le_of_ble_eq_true rfl, Nat.le_of_ble_eq_true rfl⟩ dX4_settle_16 (fun v hv => ?_)
    subst hv
    refine lv_lload_n C.1 C.2.1 dX4_settle_19 rfl (lv_at hl 2 rfl) ?_
    refine q_lcmp_ne (tgt := 28) C dX4_settle_20 dX4_settle_21 (by decide) (fun c20 => ?_) (fun c20 => ?_)
    · refine lv_iconst (v := nI 0) C.1 C.2.1 dX4_settle_28 (by decide) ?_
      exact q_retQz (b := false) C S hr hlk rfl (Or.inl ⟨c8, (by show bI _ = bI _; rw [decide_eq_false c20]), Z⟩) dX4_settle_29
    · refine lv_iconst (v := nI 1) C.1 C.2.1 dX4_settle_24 (by decide) ?_
      refine lv_goto (tgt := 29) C.1 C.2.1 dX4_settle_25 (by decide) ?_
      exact q_retQz (b := true) C S hr hlk rfl (Or.inl ⟨c8, (by show bI _ = bI _; rw [decide_eq_true c20]), Z⟩) dX4_settle_29
theorem inX4_agree_X4 : ∀ w ∈ u_ws RX4 TX4 7, w ∈ wsX4_agree := (fun _ h => (List.mem_cons_of_mem _ (List.mem_append_left _ (List.mem_append_left _ (List.mem_append_left _ (List.mem_append_right _ h))))))
theorem lkX4_agree_10 : Cond.fieldLink RX4 10 (TX4 0).1 (TX4 0).2.1 (TX4 0).2.2.1 ∈ wsX4_agree := List.mem_of_getElem? (i := 1) rfl
set_option maxHeartbeats 4000000 in
set_option maxRecDepth 100000 in
theorem s_agree {l : Launch} {G : fw_G} {A : Nat → Prop} {f0 : fw_F} {hc : Nat} {aC an ar as_ : Nat → Nat} {In : Nat → Nat} {Nn : Nat → Nat → Nat} {Bn : Nat → Nat → Bool} {Jn : Nat → Nat → Int64} {Ir : Nat → Nat} {Nr : Nat → Nat → Nat} {Br : Nat → Nat → Bool} {Jr : Nat → Nat → Int64} {Is : Nat → Nat} {Ns : Nat → Nat → Nat} {Bs : Nat → Nat → Bool} {Js : Nat → Nat → Int64} {Ic : Nat → Nat} {Nc : Nat → Nat → Nat} {kn : Nat} {K : Nat → kRT} {mn : Nat} {M : Nat → sNT} (Z : CL G f0 f0 hc aC an ar as_ In Nn Bn Jn Ir Nr Br Jr Is Ns Bs Js Ic Nc kn K mn M) (x y : Nat) (hx : x < 64) (hy : y < 64) (hL : ∀ i, Nn 1 i < 64)  : Met l yX4_agree wsX4_agree ({ frames := 5, cells := 0, slots := 0, locals := 112 }) (va_Pc [.ref hc, .int (nI x), .int (nI y)] (fw_P G A f0)) (va_Qi (fun (r : Int32) (f1 : fw_F) => agP (Nn 1) Bn Jn K kn x y r (fun Bq Jq => CL G f0 f1 hc aC an ar as_ In Nn Bq Jq Ir Nr Br Jr Is Ns Bs Js Ic Nc kn K mn M)) (fw_B G A) A) 0 0 A := by
  refine q_head rfl (by decide) (Nat.le_of_ble_eq_true rfl) ?_
  intro p e s m below meth c ls C hr hlk hnm P hl
  have S := P.start
  have hl : lv_has ls 3 [(0, .ref hc), (1, .int (nI x)), (2, .int (nI y))] := hl
  refine lv_aload_n C.1 C.2.1 dX4_agree_0 rfl (lv_at hl 0 rfl) ?_
  refine o_get (v := .ref (aC 0)) C S Z.2.1 rfl inX4_agree_X4 0 (Nat.le_of_ble_eq_true rfl) lkX4_agree_10 rfl dX4_agree_1 ?_
  refine lv_iload_n C.1 C.2.1 dX4_agree_4 rfl (lv_at hl 1 rfl) ?_
  refine q_callSi (As := [.int (nI x)]) (rest := []) C S hl Z.2.2.1.1 rfl (c_isKnown Z.2.2.1 x (by first | omega | exact hL _ | exact hP _ | exact hF _) hL) (cwV 1 C.2.2.2.2 gX4_agree_X1_isKnown rfl rfl rfl (by decide +kernel) ⟨Nat.le_of_ble_eq_true rfl, Nat.le_of_ble_eq_true rfl⟩) rfl rfl (Nat.le_of_ble_eq_true rfl) ⟨Nat.le_of_ble_eq_true rfl, Nat.le_of_ble_eq_true rfl⟩ dX4_agree_5 (fun v hv => ?_)
  subst hv
  refine q_ifeqB (tgt := 25) C dX4_agree_8 (by decide) (fun c8 => ?_) (fun c8 => ?_)
  · refine lv_aload_n C.1 C.2.1 dX4_agree_25 rfl (lv_at hl 0 rfl) ?_
    refine o_get (v := .ref (aC 0)) C S Z.2.1 rfl inX4_agree_X4 0 (Nat.le_of_ble_eq_true rfl) lkX4_agree_10 rfl dX4_agree_26 ?_
    refine lv_iload_n C.1 C.2.1 dX4_agree_29 rfl (lv_at hl 2 rfl) ?_
    refine q_callSi (As := [.int (nI y)]) (rest := []) C S hl Z.2.2.1.1 rfl (c_isKnown Z.2.2.1 y (by first | omega | exact hL _ | exact hP _ | exact hF _) hL) (cwV 1 C.2.2.2.2 gX4_agree_X1_isKnown rfl rfl rfl (by decide +kernel) ⟨Nat.le_of_ble_eq_true rfl, Nat.le_of_ble_eq_true rfl⟩) rfl rfl (Nat.le_of_ble_eq_true rfl) ⟨Nat.le_of_ble_eq_true rfl, Nat.le_of_ble_eq_true rfl⟩ dX4_agree_30 (fun v hv => ?_)
    subst hv
    refine q_ifeqB (tgt := 50) C dX4_agree_33 (by decide) (fun c33 => ?_) (fun c33 => ?_)
    · refine lv_aload_n C.1 C.2.1 dX4_agree_50 rfl (lv_at hl 0 rfl) ?_
      refine o_get (v := .ref (aC 0)) C S Z.2.1 rfl inX4_agree_X4 0 (Nat.le_of_ble_eq_true rfl) lkX4_agree_10 rfl dX4_agree_51 ?_
      refine lv_iload_n C.1 C.2.1 dX4_agree_54 rfl (lv_at hl 1 rfl) ?_
      refine lv_iload_n C.1 C.2.1 dX4_agree_55 rfl (lv_at hl 2 rfl) ?_
      refine q_callQi (As := [.int (nI x), .int (nI y)]) (rest := []) C S hl Z.2.2.1.1 rfl (c_shareSpans Z.2.2.1 x y (by first | omega | exact hL _ | exact hP _ | exact hF _) (by first | omega | exact hL _ | exact hP _ | exact hF _) hL) (cwV 2 C.2.2.2.2 gX4_agree_X1_shareSpans rfl rfl rfl (by decide +kernel) ⟨Nat.le_of_ble_eq_true rfl, Nat.le_of_ble_eq_true rfl⟩) rfl rfl (Nat.le_of_ble_eq_true rfl) ⟨Nat.le_of_ble_eq_true rfl, Nat.le_of_ble_eq_true rfl⟩ dX4_agree_56 (fun v f H locs hv S => ?_)
      obtain ⟨rfl, O1, F1⟩ := hv
      have Z := CL_n Z F1 O1
      exact q_retQz (b := (shOk Bn Jn ((Nn 1) x) ((Nn 1) y))) C S hr hlk rfl (Or.inr (Or.inr ⟨c8, c33, rfl, Z⟩)) dX4_agree_59
    · refine lv_aload_n C.1 C.2.1 dX4_agree_36 rfl (lv_at hl 0 rfl) ?_
      refine lv_iload_n C.1 C.2.1 dX4_agree_37 rfl (lv_at hl 1 rfl) ?_
      refine lv_aload_n C.1 C.2.1 dX4_agree_38 rfl (lv_at hl 0 rfl) ?_
      refine o_get (v := .ref (aC 0)) C S Z.2.1 rfl inX4_agree_X4 0 (Nat.le_of_ble_eq_true rfl) lkX4_agree_10 rfl dX4_agree_39 ?_
      refine lv_iload_n C.1 C.2.1 dX4_agree_42 rfl (lv_at hl 2 rfl) ?_
      refine q_callSl (As := [.int (nI y)]) (rest := [.int (nI x), .ref hc]) C S hl Z.2.2.1.1 rfl (c_numberOf Z.2.2.1 y (by first | omega | exact hL _ | exact hP _ | exact hF _) hL) (cwV 1 C.2.2.2.2 gX4_agree_X1_numberOf rfl rfl rfl (by decide +kernel) ⟨Nat.le_of_ble_eq_true rfl, Nat.le_of_ble_eq_true rfl⟩) rfl rfl (Nat.le_of_ble_eq_true rfl) ⟨Nat.le_of_ble_eq_true rfl, Nat.le_of_ble_eq_true rfl⟩ dX4_agree_43 (fun v hv => ?_)
      subst hv
      refine q_callQi (As := [.int (nI x), .long ((Jn 3) ((Nn 1) y))]) (rest := []) C S hl Z.2.1.1 rfl (s_settle (CL_rf Z) x (by first | omega | exact hL _ | exact hP _ | exact hF _) ((Jn 3) ((Nn 1) y)) hL) (cwV 2 C.2.2.2.2 gX4_agree_X4_settle rfl rfl rfl (by decide +kernel) ⟨Nat.le_of_ble_eq_true rfl, Nat.le_of_ble_eq_true rfl⟩) rfl rfl (Nat.le_of_ble_eq_true rfl) ⟨Nat.le_of_ble_eq_true rfl, Nat.le_of_ble_eq_true rfl⟩ dX4_agree_46 (fun v f H locs hv S => ?_)
      obtain ⟨b1, B1, J1, rfl, Z1, hback⟩ := stP_out hv
      have Z := CL_tr Z Z1
      exact q_retQz (b := b1) C S hr hlk rfl (Or.inr (Or.inl ⟨c8, c33, hback _ Z⟩)) dX4_agree_49
  · refine lv_aload_n C.1 C.2.1 dX4_agree_11 rfl (lv_at hl 0 rfl) ?_
    refine lv_iload_n C.1 C.2.1 dX4_agree_12 rfl (lv_at hl 2 rfl) ?_
    refine lv_aload_n C.1 C.2.1 dX4_agree_13 rfl (lv_at hl 0 rfl) ?_
    refine o_get (v := .ref (aC 0)) C S Z.2.1 rfl inX4_agree_X4 0 (Nat.le_of_ble_eq_true rfl) lkX4_agree_10 rfl dX4_agree_14 ?_
    refine lv_iload_n C.1 C.2.1 dX4_agree_17 rfl (lv_at hl 1 rfl) ?_
    refine q_callSl (As := [.int (nI x)]) (rest := [.int (nI y), .ref hc]) C S hl Z.2.2.1.1 rfl (c_numberOf Z.2.2.1 x (by first | omega | exact hL _ | exact hP _ | exact hF _) hL) (cwV 1 C.2.2.2.2 gX4_agree_X1_numberOf rfl rfl rfl (by decide +kernel) ⟨Nat.le_of_ble_eq_true rfl, Nat.le_of_ble_eq_true rfl⟩) rfl rfl (Nat.le_of_ble_eq_true rfl) ⟨Nat.le_of_ble_eq_true rfl, Nat.le_of_ble_eq_true rfl⟩ dX4_agree_18 (fun v hv => ?_)
    subst hv
    refine q_callQi (As := [.int (nI y), .long ((Jn 3) ((Nn 1) x))]) (rest := []) C S hl Z.2.1.1 rfl (s_settle (CL_rf Z) y (by first | omega | exact hL _ | exact hP _ | exact hF _) ((Jn 3) ((Nn 1) x)) hL) (cwV 2 C.2.2.2.2 gX4_agree_X4_settle rfl rfl rfl (by decide +kernel) ⟨Nat.le_of_ble_eq_true rfl, Nat.le_of_ble_eq_true rfl⟩) rfl rfl (Nat.le_of_ble_eq_true rfl) ⟨Nat.le_of_ble_eq_true rfl, Nat.le_of_ble_eq_true rfl⟩ dX4_agree_21 (fun v f H locs hv S => ?_)
    obtain ⟨b1, B1, J1, rfl, Z1, hback⟩ := stP_out hv
    have Z := CL_tr Z Z1
    exact q_retQz (b := b1) C S hr hlk rfl (Or.inl ⟨c8, hback _ Z⟩) dX4_agree_24
