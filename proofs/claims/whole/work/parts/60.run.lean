theorem inX3_run_X3 : ∀ w ∈ u_ws RX3 TX3 6, w ∈ wsX3_run := (fun _ h => (List.mem_cons_of_mem _ (List.mem_append_left _ (List.mem_append_left _ (List.mem_append_left _ (List.mem_append_left _ (List.mem_append_right _ h)))))))
theorem lkX3_run_36 : Cond.fieldLink RX3 36 (TX3 3).1 (TX3 3).2.1 (TX3 3).2.2.1 ∈ wsX3_run := List.mem_of_getElem? (i := 1) rfl
theorem lkX3_run_26 : Cond.fieldLink RX3 26 (TX3 2).1 (TX3 2).2.1 (TX3 2).2.2.1 ∈ wsX3_run := List.mem_of_getElem? (i := 2) rfl
set_option maxHeartbeats 4000000 in
set_option maxRecDepth 100000 in
theorem s_run {l : Launch} {G : fw_G} {A : Nat → Prop} {f0 : fw_F} {hc : Nat} {aC an ar as_ : Nat → Nat} {In : Nat → Nat} {Nn : Nat → Nat → Nat} {Bn : Nat → Nat → Bool} {Jn : Nat → Nat → Int64} {Ir : Nat → Nat} {Nr : Nat → Nat → Nat} {Br : Nat → Nat → Bool} {Jr : Nat → Nat → Int64} {Is : Nat → Nat} {Ns : Nat → Nat → Nat} {Bs : Nat → Nat → Bool} {Js : Nat → Nat → Int64} {Ic : Nat → Nat} {Nc : Nat → Nat → Nat} {kn : Nat} {K : Nat → kRT} {mn : Nat} {M : Nat → sNT} (Z : CL G f0 f0 hc aC an ar as_ In Nn Bn Jn Ir Nr Br Jr Is Ns Bs Js Ic Nc kn K mn M) (hL : ∀ i, Nn 1 i < 64) (hm : Ir 0 ≤ 32) (hPr : ∀ i, Nr 1 i < 64) (hF : ∀ i, Ns 0 i < 64) (hroot : ∀ i, i < Ir 0 → Nn 1 (Nn 1 (Nr 1 i)) = Nn 1 (Nr 1 i)) (hcs : ∀ i, i < kn → krC (Nn 1) (Bn 2) (Jn 3) (K i) = true)  : Met l yX3_run wsX3_run ({ frames := 12, cells := 0, slots := 0, locals := 331 }) (va_Pc [.ref (aC 3), .ref (aC 1), .ref (aC 0), .ref (aC 2)] (fw_P G A f0)) (va_Qi (fun (r : Int32) (f1 : fw_F) => ∃ J' I' N' S' th, CL G f0 f1 hc aC an ar as_ In Nn Bn J' Ir Nr Br Jr I' N' Bs S' Ic Nc kn K mn M ∧ N' 0 = (gth (Nr 1) (Nn 1) (Bn 2) 0 (Ns 0) (Ir 0)).2 ∧ (∀ q, q ≠ 3 → J' q = Jn q) ∧ (∀ r, levF (gth (Nr 1) (Nn 1) (Bn 2) 0 (Ns 0) (Ir 0)).2 (gth (Nr 1) (Nn 1) (Bn 2) 0 (Ns 0) (Ir 0)).1 r = 0 → J' 3 r = Jn 3 r) ∧ lbC (allb (fun i => Bn 4 (Nn 1 ((gth (Nr 1) (Nn 1) (Bn 2) 0 (Ns 0) (Ir 0)).2 i))) (gth (Nr 1) (Nn 1) (Bn 2) 0 (Ns 0) (Ir 0)).1) (gth (Nr 1) (Nn 1) (Bn 2) 0 (Ns 0) (Ir 0)).1 (rsC (Nn 1) Bn Jn (gth (Nr 1) (Nn 1) (Bn 2) 0 (Ns 0) (Ir 0)).2 (gth (Nr 1) (Nn 1) (Bn 2) 0 (Ns 0) (Ir 0)).1 K kn) r (I' 1) (I' 2) (I' 3) th (fun i j => S' 4 (i * 8 + j))) (fw_B G A) A) 0 0 A := by
  refine q_head rfl (by decide) (Nat.le_of_ble_eq_true rfl) ?_
  intro p e s m below meth c ls C hr hlk hnm P hl
  have S := P.start
  have hl : lv_has ls 5 [(0, .ref (aC 3)), (1, .ref (aC 1)), (2, .ref (aC 0)), (3, .ref (aC 2))] := hl
  refine lv_aload_n C.1 C.2.1 dX3_run_0 rfl (lv_at hl 0 rfl) ?_
  refine q_callQv (As := []) (rest := []) C S hl Z.2.2.2.2.1.1 rfl (c_endWays Z.2.2.2.2.1) (cwV 0 C.2.2.2.2 gX3_run_X3_endWays rfl rfl rfl (by decide +kernel) ⟨Nat.le_of_ble_eq_true rfl, Nat.le_of_ble_eq_true rfl⟩) rfl rfl (Nat.le_of_ble_eq_true rfl) ⟨Nat.le_of_ble_eq_true rfl, Nat.le_of_ble_eq_true rfl⟩ dX3_run_1 (fun f H locs hv S => ?_)
  obtain ⟨O1, F1⟩ := hv
  have Z := CL_s Z F1 O1
  refine lv_aload_n C.1 C.2.1 dX3_run_4 rfl (lv_at hl 0 rfl) ?_
  refine lv_iconst (v := nI 0) C.1 C.2.1 dX3_run_5 (by decide) ?_
  refine o_puti C S Z.2.2.2.2.1 (fw_fr_rf _ 3300 (3300 + 7)) rfl inX3_run_X3 tyX3 tyX3_ok nmX3 3 (Nat.le_of_ble_eq_true rfl) rfl lkX3_run_36 rfl rfl ⟨by decide, by decide⟩ dX3_run_6 (fun f H locs S O1 F1 => ?_)
  have Z := CL_s Z F1 O1
  refine lv_aload_n C.1 C.2.1 dX3_run_9 rfl (lv_at hl 0 rfl) ?_
  refine lv_aload_n C.1 C.2.1 dX3_run_10 rfl (lv_at hl 1 rfl) ?_
  refine lv_aload_n C.1 C.2.1 dX3_run_11 rfl (lv_at hl 2 rfl) ?_
  refine q_callQv (As := [.ref (aC 1), .ref (aC 0)]) (rest := []) C S hl Z.2.2.2.2.1.1 rfl (c_gatherFree Z.2.2.2.2.1 Z.2.2.2.1 Z.2.2.1 (by decide) (by decide) rfl hm hPr hF hL) (cwV 2 C.2.2.2.2 gX3_run_X3_gatherFree rfl rfl rfl (by decide +kernel) ⟨Nat.le_of_ble_eq_true rfl, Nat.le_of_ble_eq_true rfl⟩) rfl rfl (Nat.le_of_ble_eq_true rfl) ⟨Nat.le_of_ble_eq_true rfl, Nat.le_of_ble_eq_true rfl⟩ dX3_run_12 (fun f H locs hv S => ?_)
  obtain ⟨O1, F1⟩ := hv
  have Z := CL_s Z F1 O1
  obtain ⟨I4, N4, Z, hI41, hI42, hI43, hN4⟩ : ∃ I4 N4, CL G f0 f hc aC an ar as_ In Nn Bn Jn Ir Nr Br Jr I4 N4 Bs Js Ic Nc kn K mn M ∧ I4 1 = (gth (Nr 1) (Nn 1) (Bn 2) 0 (Ns 0) (Ir 0)).1 ∧ I4 2 = 0 ∧ I4 3 = 0 ∧ N4 0 = (gth (Nr 1) (Nn 1) (Bn 2) 0 (Ns 0) (Ir 0)).2 := ⟨_, _, Z, rfl, rfl, rfl, rfl⟩
  have hc32 : I4 1 ≤ 32 := by rw [hI41]; exact Nat.le_trans (gth_le _ _ _ _ _) hm
  have hF4 : ∀ i, N4 0 i < 64 := by rw [hN4]; exact gth_lt hF hL _
  refine lv_aload_n C.1 C.2.1 dX3_run_15 rfl (lv_at hl 0 rfl) ?_
  refine lv_aload_n C.1 C.2.1 dX3_run_16 rfl (lv_at hl 2 rfl) ?_
  refine q_callSi (As := [.ref (aC 0)]) (rest := []) C S hl Z.2.2.2.2.1.1 rfl (c_reason Z.2.2.2.2.1 Z.2.2.1 hc32 hF4 hL) (cwV 1 C.2.2.2.2 gX3_run_X3_reasonNotToStart rfl rfl rfl (by decide +kernel) ⟨Nat.le_of_ble_eq_true rfl, Nat.le_of_ble_eq_true rfl⟩) rfl rfl (Nat.le_of_ble_eq_true rfl) ⟨Nat.le_of_ble_eq_true rfl, Nat.le_of_ble_eq_true rfl⟩ dX3_run_17 (fun v hv => ?_)
  obtain ⟨rs, hrs⟩ : ∃ rs, rs = v := ⟨v, rfl⟩
  subst hrs
  have hrs := hv
  refine lv_istore (lv' := [(4, .int rs), (0, .ref (aC 3)), (1, .ref (aC 1)), (2, .ref (aC 0)), (3, .ref (aC 2))]) C.1 C.2.1 dX3_run_20 hl (by decide) rfl (fun ls hl => ?_)
  refine lv_iload C.1 C.2.1 dX3_run_22 (lv_at hl 0 rfl) ?_
  refine lv_if_ne (tgt := 42) C.1 C.2.1 dX3_run_24 (by decide) (fun c24 => ?_) (fun c24 => ?_)
  · refine lv_iload C.1 C.2.1 dX3_run_42 (lv_at hl 0 rfl) ?_
    refine lv_if_eq (tgt := 54) C.1 C.2.1 dX3_run_44 (by decide) (fun c44 => ?_) (fun c44 => ?_)
    · exact absurd c44 c24
    · refine lv_aload_n C.1 C.2.1 dX3_run_47 rfl (lv_at hl 1 rfl) ?_
      refine q_callQv (As := []) (rest := []) C S hl Z.2.2.2.2.1.1 rfl (c_endWays Z.2.2.2.2.1) (cwV 0 C.2.2.2.2 gX3_run_X3_endWays rfl rfl rfl (by decide +kernel) ⟨Nat.le_of_ble_eq_true rfl, Nat.le_of_ble_eq_true rfl⟩) rfl rfl (Nat.le_of_ble_eq_true rfl) ⟨Nat.le_of_ble_eq_true rfl, Nat.le_of_ble_eq_true rfl⟩ dX3_run_48 (fun f H locs hv S => ?_)
      obtain ⟨O1, F1⟩ := hv
      have Z := CL_s Z F1 O1
      refine lv_iload C.1 C.2.1 dX3_run_51 (lv_at hl 0 rfl) ?_
      exact q_retQi C S hr hlk ⟨_, _, _, _, false, Z, hN4, fun _ _ => rfl, fun _ _ => rfl, (by rw [← hN4, ← hI41]; rw [hrs]; split; split; rename_i q1 q2; exact Or.inr (Or.inl ⟨q1, q2, rfl, rfl, rfl, hI43, rfl⟩); rename_i q1 q2; exact absurd (hrs.trans (by rw [if_pos q1, if_neg q2])) c24; rename_i q1; exact Or.inl ⟨Bool.eq_false_iff.mpr q1, rfl, rfl, rfl, hI43, rfl⟩)⟩ dX3_run_53
  · refine lv_aload_n C.1 C.2.1 dX3_run_27 rfl (lv_at hl 1 rfl) ?_
    refine lv_aload_n C.1 C.2.1 dX3_run_28 rfl (lv_at hl 3 rfl) ?_
    refine lv_aload_n C.1 C.2.1 dX3_run_29 rfl (lv_at hl 4 rfl) ?_
    obtain ⟨hga, h8⟩ : allb (fun i => Bn 4 (Nn 1 (N4 0 i))) (I4 1) = true ∧ I4 1 ≤ 8 := by rw [hrs] at c24; split at c24; split at c24; exact absurd c24 (by decide); rename_i q1 q2; exact ⟨q1, by omega⟩; exact absurd c24 (by decide)
    refine q_callQv (As := [.ref (aC 0), .ref (aC 2)]) (rest := []) C S hl Z.2.2.2.2.1.1 rfl (s_planLooks (CL_rf Z) hL hc32 hF4) (cwV 2 C.2.2.2.2 gX3_run_X3_planLooks rfl rfl rfl (by decide +kernel) ⟨Nat.le_of_ble_eq_true rfl, Nat.le_of_ble_eq_true rfl⟩) rfl rfl (Nat.le_of_ble_eq_true rfl) ⟨Nat.le_of_ble_eq_true rfl, Nat.le_of_ble_eq_true rfl⟩ dX3_run_30 (fun f H locs hv S => ?_)
    obtain ⟨S4, Z1, hS4, hlk4⟩ := hv
    have Z := CL_tr Z Z1
    refine lv_aload_n C.1 C.2.1 dX3_run_33 rfl (lv_at hl 1 rfl) ?_
    refine lv_iconst (v := nI 0) C.1 C.2.1 dX3_run_34 (by decide) ?_
    refine lv_aload_n C.1 C.2.1 dX3_run_35 rfl (lv_at hl 3 rfl) ?_
    refine lv_aload_n C.1 C.2.1 dX3_run_36 rfl (lv_at hl 4 rfl) ?_
    have C0 : tvC (Nn 1) Bn S4 (N4 0) (I4 1) K kn := ⟨by rw [hN4, hI41]; exact gth_dst _ _ _ _ _, h8, by rw [hN4, hI41]; exact gth_ok _ hroot, hlk4⟩
    refine q_callQi (As := [.int (nI 0), .ref (aC 0), .ref (aC 2)]) (rest := []) C S hl Z.2.2.2.2.1.1 rfl (s_try0 (CL_rf Z) (B0 := Bn) (J0 := Jn) (I0 := I4) (S0 := S4) (fun _ => 0) 5000 0 (fun _ _ => 0) C0 (Nat.zero_le _) (fun r => (knL_0 _ _ r).symm) ⟨fun _ _ => rfl, fun _ _ => rfl, fun _ _ => rfl, fun j hj => absurd hj (Nat.not_lt_zero j), fun _ _ _ => rfl, hI42, by omega, Nat.zero_le _, fun _ _ => rfl, fun i j hi => absurd hi (Nat.not_lt_zero i)⟩ (gd_0 hcs) hL hF4) (cwV 3 C.2.2.2.2 gX3_run_X3_tryLevel rfl rfl rfl (by decide +kernel) ⟨Nat.le_of_ble_eq_true rfl, Nat.le_of_ble_eq_true rfl⟩) rfl rfl (Nat.le_of_ble_eq_true rfl) ⟨Nat.le_of_ble_eq_true rfl, Nat.le_of_ble_eq_true rfl⟩ dX3_run_37 (fun v f H locs hv S => ?_)
    obtain ⟨B5, J5, I5, S5, cu2, k2, wq2, ac2, Z1, TB5, T5, hcu2, hk2, hs5⟩ := hv
    rw [tb_0 T5.1 TB5] at Z1
    have Z := CL_tr Z Z1
    have hw5 := T5.2.2.2.2.2.2.2.1
    have h52 : I5 2 = wq2 := T5.2.2.2.2.2.1
    obtain ⟨rs, hrs2⟩ : ∃ rs, rs = v := ⟨v, rfl⟩
    subst hrs2
    refine lv_istore (lv' := [(4, .int rs), (0, .ref (aC 3)), (1, .ref (aC 1)), (2, .ref (aC 0)), (3, .ref (aC 2))]) C.1 C.2.1 dX3_run_40 hl (by decide) rfl (fun ls hl => ?_)
    refine lv_iload C.1 C.2.1 dX3_run_42 (lv_at hl 0 rfl) ?_
    refine lv_if_eq (tgt := 54) C.1 C.2.1 dX3_run_44 (by decide) (fun c44 => ?_) (fun c44 => ?_)
    · refine lv_aload_n C.1 C.2.1 dX3_run_54 rfl (lv_at hl 1 rfl) ?_
      refine o_get (v := .int (nI (I5 2))) C S Z.2.2.2.2.1 rfl inX3_run_X3 2 (Nat.le_of_ble_eq_true rfl) lkX3_run_26 rfl dX3_run_55 ?_
      exact q_retQi C S hr hlk ⟨_, _, _, _, true, Z, hN4, T5.2.1, (by rw [← hN4, ← hI41]; exact T5.2.2.1), (by rw [← hN4, ← hI41, hga]; rw [h52, show I5 1 = I4 1 from T5.2.2.2.2.1 1 (by decide) (by decide)]; exact lb_ok h8 ((hs5.resolve_right (fun q => by rw [c44] at q; rcases q.1 with q | q <;> exact absurd q (by decide))).2) T5.2.2.2.2.2.2.1 hw5 T5.2.2.2.2.2.2.2.2.2)⟩ dX3_run_58
    · refine lv_aload_n C.1 C.2.1 dX3_run_47 rfl (lv_at hl 1 rfl) ?_
      refine q_callQv (As := []) (rest := []) C S hl Z.2.2.2.2.1.1 rfl (c_endWays Z.2.2.2.2.1) (cwV 0 C.2.2.2.2 gX3_run_X3_endWays rfl rfl rfl (by decide +kernel) ⟨Nat.le_of_ble_eq_true rfl, Nat.le_of_ble_eq_true rfl⟩) rfl rfl (Nat.le_of_ble_eq_true rfl) ⟨Nat.le_of_ble_eq_true rfl, Nat.le_of_ble_eq_true rfl⟩ dX3_run_48 (fun f H locs hv S => ?_)
      obtain ⟨O1, F1⟩ := hv
      have Z := CL_s Z F1 O1
      refine lv_iload C.1 C.2.1 dX3_run_51 (lv_at hl 0 rfl) ?_
      exact q_retQi C S hr hlk ⟨_, _, _, _, false, Z, hN4, T5.2.1, (by rw [← hN4, ← hI41]; exact T5.2.2.1), (by rw [← hN4, ← hI41, hga]; have q := hs5.resolve_left (fun q => c44 q.1); exact lb_bad h8 q.1 q.2 T5.2.2.2.2.2.2.1)⟩ dX3_run_53
theorem inX4_keepRow_X4 : ∀ w ∈ u_ws RX4 TX4 7, w ∈ wsX4_keepRow := (fun _ h => (List.mem_cons_of_mem _ (List.mem_append_left _ (List.mem_append_left _ (List.mem_append_left _ (List.mem_append_left _ (List.mem_append_right _ h)))))))
theorem lkX4_keepRow_26 : Cond.fieldLink RX4 26 (TX4 2).1 (TX4 2).2.1 (TX4 2).2.2.1 ∈ wsX4_keepRow := List.mem_of_getElem? (i := 1) rfl
theorem inX4_keepRow_X0 : ∀ w ∈ u_ws RX0 TX0 4, w ∈ wsX4_keepRow := (fun _ h => (List.mem_cons_of_mem _ (List.mem_append_left _ (List.mem_append_left _ (List.mem_append_left _ (List.mem_append_right _ h))))))
theorem lkX4_keepRow_19 : Cond.fieldLink RX4 19 (TX4 1).1 (TX4 1).2.1 (TX4 1).2.2.1 ∈ wsX4_keepRow := List.mem_of_getElem? (i := 5) rfl
theorem lkX4_keepRow_10 : Cond.fieldLink RX4 10 (TX4 0).1 (TX4 0).2.1 (TX4 0).2.2.1 ∈ wsX4_keepRow := List.mem_of_getElem? (i := 6) rfl
set_option maxHeartbeats 4000000 in
set_option maxRecDepth 100000 in
theorem s_keepRow {l : Launch} {G : fw_G} {A : Nat → Prop} {f0 : fw_F} {hc : Nat} {aC an ar as_ : Nat → Nat} {In : Nat → Nat} {Nn : Nat → Nat → Nat} {Bn : Nat → Nat → Bool} {Jn : Nat → Nat → Int64} {Ir : Nat → Nat} {Nr : Nat → Nat → Nat} {Br : Nat → Nat → Bool} {Jr : Nat → Nat → Int64} {Is : Nat → Nat} {Ns : Nat → Nat → Nat} {Bs : Nat → Nat → Bool} {Js : Nat → Nat → Int64} {Ic : Nat → Nat} {Nc : Nat → Nat → Nat} {kn : Nat} {K : Nat → kRT} {mn : Nat} {M : Nat → sNT} (Z : CL G f0 f0 hc aC an ar as_ In Nn Bn Jn Ir Nr Br Jr Is Ns Bs Js Ic Nc kn K mn M) (x : Int32) (g : Int64) (hL : ∀ i, Nn 1 i < 64) (hm : Ir 0 ≤ 32) (hPr : ∀ i, Nr 1 i < 64)  : Met l yX4_keepRow wsX4_keepRow ({ frames := 7, cells := 4, slots := 196, locals := 187 }) (va_Pc [.ref hc, .int x, .long g] (fw_P G A f0)) (va_Qi (fun (r : Int32) (f1 : fw_F) => (x < 0 ∨ nI 2 < x ∨ kn = 60) ∧ r = -1 ∧ CL G f0 f1 hc aC an ar as_ In Nn Bn Jn Ir Nr Br Jr Is Ns Bs Js Ic Nc kn K mn M ∨ ∃ u, u ≤ 2 ∧ x = nI u ∧ kn < 60 ∧ ∃ k : kRT, kNew k u g (Ir 0) (Nr 1) (Jr 2) ∧ (krC (Nn 1) (Bn 2) (Jn 3) k = false ∧ r = nI 0 ∧ CL G f0 f1 hc aC an ar as_ In Nn Bn Jn Ir Nr Br Jr Is Ns Bs Js Ic Nc kn K mn M ∨ krC (Nn 1) (Bn 2) (Jn 3) k = true ∧ r = nI 1 ∧ CL G f0 f1 hc aC an ar as_ In Nn Bn Jn Ir Nr Br Jr Is Ns Bs Js Ic Nc (kn + 1) (va_up K kn k) mn M)) (fw_B G A) A) 4 196 A := by
  refine q_head rfl (by decide) (Nat.le_of_ble_eq_true rfl) ?_
  intro p e s m below meth c ls C hr hlk hnm P hl
  have S := P.start
  have hl : lv_has ls 5 [(0, .ref hc), (1, .int x), (2, .long g)] := hl
  have hkn := Z.2.2.2.2.2.1.2.2
  refine lv_iload_n C.1 C.2.1 dX4_keepRow_0 rfl (lv_at hl 1 rfl) ?_
  refine lv_if_lt (tgt := 21) C.1 C.2.1 dX4_keepRow_1 (by decide) (fun c1 => ?_) (fun c1 => ?_)
  · refine lv_iconst (v := (-1)) C.1 C.2.1 dX4_keepRow_21 (by decide) ?_
    refine W.widen (k := 4) (n := 196) (Nat.le_of_ble_eq_true rfl) (Nat.le_of_ble_eq_true rfl) ?_
    exact q_retQi C S hr hlk (Or.inl ⟨Or.inl c1, rfl, Z⟩) dX4_keepRow_22
  · refine lv_iload_n C.1 C.2.1 dX4_keepRow_4 rfl (lv_at hl 1 rfl) ?_
    refine lv_iconst (v := nI 2) C.1 C.2.1 dX4_keepRow_5 (by decide) ?_
    refine lv_icmp_gt (tgt := 21) C.1 C.2.1 dX4_keepRow_6 (by decide) (fun c6 => ?_) (fun c6 => ?_)
    · refine lv_iconst (v := (-1)) C.1 C.2.1 dX4_keepRow_21 (by decide) ?_
      refine W.widen (k := 4) (n := 196) (Nat.le_of_ble_eq_true rfl) (Nat.le_of_ble_eq_true rfl) ?_
      exact q_retQi C S hr hlk (Or.inl ⟨Or.inr (Or.inl c6), rfl, Z⟩) dX4_keepRow_22
    · refine lv_aload_n C.1 C.2.1 dX4_keepRow_9 rfl (lv_at hl 0 rfl) ?_
      refine o_get (v := .ref (aC 2)) C S Z.2.1 rfl inX4_keepRow_X4 2 (Nat.le_of_ble_eq_true rfl) lkX4_keepRow_26 rfl dX4_keepRow_10 ?_
      obtain ⟨fsL, eL⟩ := isL_sz Z.2.2.2.2.2.1.1
      refine q_callSi (As := []) (rest := []) C S hl eL rfl (L_size Z.2.2.2.2.2.1.1) (cwV 0 C.2.2.2.2 gX4_keepRow_Jx4a65c_size_8abf5 rfl rfl rfl (by decide +kernel) ⟨Nat.le_of_ble_eq_true rfl, Nat.le_of_ble_eq_true rfl⟩) rfl rfl (Nat.le_of_ble_eq_true rfl) ⟨Nat.le_of_ble_eq_true rfl, Nat.le_of_ble_eq_true rfl⟩ dX4_keepRow_13 (fun v hv => ?_)
      subst hv
      refine lv_bipush (v := nI 60) C.1 C.2.1 dX4_keepRow_16 (by decide) ?_
      refine q_lt (tgt := 23) C (by omega) (by decide) dX4_keepRow_18 (by decide) (fun c18 => ?_) (fun c18 => ?_)
      · obtain ⟨u, hu, rfl⟩ : ∃ u, u < 3 ∧ x = nI u := ix_of (by decide) c1 (by rw [Int32.lt_iff_toInt_lt]; have q := Int32.not_lt.mp c6; rw [Int32.le_iff_toInt_le] at q; have a : (nI 2).toInt = 2 := rfl; have b : (nI 3).toInt = 3 := rfl; omega)
        refine q_new C S (ci := 1) rfl inX4_keepRow_X0 tyX0 tyX0_ok (List.mem_of_getElem? (i := 2) rfl) (List.mem_of_getElem? (i := 3) rfl) (List.mem_of_getElem? (i := 4) rfl) (10000 + 10 * kn) (fs := [.int 0, .null, .long 0, .null]) (fun j hj => match j, hj with | 0, _ => rfl | 1, _ => rfl | 2, _ => rfl | 3, _ => rfl | n + 4, h => absurd h (Nat.not_lt.mpr (Nat.le_add_left _ _))) (Nat.le_of_ble_eq_true rfl) (Nat.le_of_ble_eq_true rfl) dX4_keepRow_23 (fun q1 H hq S => ?_)
        obtain ⟨f, S, Z, hO⟩ : ∃ f, fw_S G A s f H _ ∧ CL G f0 f hc aC an ar as_ In Nn Bn Jn Ir Nr Br Jr Is Ns Bs Js Ic Nc kn K mn M ∧ f q1 = some (10000 + 10 * kn, eB 1 [.int 0, .null, .long 0, .null]) := ⟨_, S, CL_ex Z (fun y z hy => fw_new hy hq), fw_eq _ _ _⟩
        refine lv_dup C.1 C.2.1 dX4_keepRow_26 rfl ?_
        refine lv_iload_n C.1 C.2.1 dX4_keepRow_27 rfl (lv_at hl 1 rfl) ?_
        refine lv_lload_n C.1 C.2.1 dX4_keepRow_28 rfl (lv_at hl 2 rfl) ?_
        refine lv_aload_n C.1 C.2.1 dX4_keepRow_29 rfl (lv_at hl 0 rfl) ?_
        refine o_get (v := .ref (aC 1)) C S Z.2.1 rfl inX4_keepRow_X4 1 (Nat.le_of_ble_eq_true rfl) lkX4_keepRow_19 rfl dX4_keepRow_30 ?_
        refine q_callIv (As := [.int (nI u), .long g, .ref (aC 1)]) (rest := [.ref q1]) C S hl (c_K_init (b := 10000 + 10 * kn) Z.2.2.2.1 u g hO (Or.inl (by omega)) hm hPr) (cwI 3 C.2.2.2.2 gX4_keepRow_X0_init rfl rfl rfl (C.2.2.2.2 _ (List.mem_of_getElem? (i := 4) rfl)) (C.2.2.2.2 _ (List.mem_of_getElem? (i := 13) rfl)) (C.2.2.2.2 _ (List.mem_of_getElem? (i := 14) rfl)) rfl (by decide +kernel) ⟨Nat.le_of_ble_eq_true rfl, Nat.le_of_ble_eq_true rfl⟩) rfl rfl (Nat.le_of_ble_eq_true rfl) ⟨Nat.le_of_ble_eq_true rfl, Nat.le_of_ble_eq_true rfl⟩ dX4_keepRow_33 (fun f H locs hv S => ?_)
        obtain ⟨a1, N1, J1, O1, hNr, hP, hJ2, hJr, F1⟩ := hv
        have Z := CL_kb Z F1
        have hN1 : N1 1 = N1 1 := rfl
        have hJ3 : J1 3 = J1 3 := rfl
        have hw := hm
        have hk2 : u ≤ 2 := by omega
        have hKR : isKR G f (10000 + 10 * kn) (q1, Ir 0, u, g, N1 1, J1 3) := ⟨a1, N1, _, J1, O1, rfl, hJ2, rfl⟩
        have hKO : kOK (q1, Ir 0, u, g, N1 1, J1 3) := ⟨hm, hk2, hP⟩
        have hKN : kNew (q1, Ir 0, u, g, N1 1, J1 3) u g (Ir 0) (Nr 1) (Jr 2) := ⟨rfl, rfl, rfl, hNr, hJr, hKO⟩
        refine lv_astore (lv' := [(4, .ref q1), (0, .ref hc), (1, .int (nI u)), (2, .long g)]) C.1 C.2.1 dX4_keepRow_36 hl (by decide) rfl (fun ls hl => ?_)
        refine lv_aload C.1 C.2.1 dX4_keepRow_38 (lv_at hl 0 rfl) ?_
        refine lv_aload_n C.1 C.2.1 dX4_keepRow_40 rfl (lv_at hl 1 rfl) ?_
        refine o_get (v := .ref (aC 0)) C S Z.2.1 rfl inX4_keepRow_X4 0 (Nat.le_of_ble_eq_true rfl) lkX4_keepRow_10 rfl dX4_keepRow_41 ?_
        refine q_callSi (As := [.ref (aC 0)]) (rest := []) C S hl O1.1 rfl (c_countFree O1 Z.2.2.1 hw hP hL) (cwV 1 C.2.2.2.2 gX4_keepRow_X0_countFree rfl rfl rfl (by decide +kernel) ⟨Nat.le_of_ble_eq_true rfl, Nat.le_of_ble_eq_true rfl⟩) rfl rfl (Nat.le_of_ble_eq_true rfl) ⟨Nat.le_of_ble_eq_true rfl, Nat.le_of_ble_eq_true rfl⟩ dX4_keepRow_44 (fun v hv => ?_)
        rw [hN1] at hv
        have hv : v = nI (krF (Nn 1) (Bn 2) (q1, Ir 0, u, g, N1 1, J1 3)) := hv
        subst hv
        have hkF := krF_le (L := (Nn 1)) (B := (Bn 2)) (k := (q1, Ir 0, u, g, N1 1, J1 3))
        refine q_ifneN (tgt := 64) C (Nat.lt_of_le_of_lt hkF (show Ir 0 < 2 ^ 31 by omega)) dX4_keepRow_47 (by decide) (fun c47 => ?_) (fun c47 => ?_)
        · refine lv_aload_n C.1 C.2.1 dX4_keepRow_64 rfl (lv_at hl 1 rfl) ?_
          refine o_get (v := .ref (aC 2)) C S Z.2.1 rfl inX4_keepRow_X4 2 (Nat.le_of_ble_eq_true rfl) lkX4_keepRow_26 rfl dX4_keepRow_65 ?_
          refine lv_aload C.1 C.2.1 dX4_keepRow_68 (lv_at hl 0 rfl) ?_
          obtain ⟨md, qL, cap, go, e0, D, hnc, hc96, hg1, hg2⟩ := Z.2.2.2.2.2.1.1
          refine q_callQi (As := [.ref q1]) (rest := []) C S hl e0 rfl (l_add e0 D (ci := 1) rfl (Or.inl rfl) (KS_el Z.2.2.2.2.2.1 hg1 hg2) O1.1 (Or.inr (by omega)) hnc (by omega) hc96) (cwV 1 C.2.2.2.2 gX4_keepRow_Jx4a65c_add_9ea2d rfl rfl rfl (by decide +kernel) ⟨Nat.le_of_ble_eq_true rfl, Nat.le_of_ble_eq_true rfl⟩) rfl rfl (Nat.le_of_ble_eq_true rfl) ⟨Nat.le_of_ble_eq_true rfl, Nat.le_of_ble_eq_true rfl⟩ dX4_keepRow_70 (fun v f H locs hv S => ?_)
          obtain ⟨rfl, q2, cap2, g2, h1, h2, h3, h4, h5, h6, h7, F1⟩ := hv
          have Z := CL_k Z F1 (KS_add Z.2.2.2.2.2.1 F1 (q1, Ir 0, u, g, N1 1, J1 3) hKR hKO (by omega) (L_ad h1 h2 h3 h4 hg1 hg2 h5 h6 h7))
          refine lv_pop C.1 C.2.1 dX4_keepRow_73 rfl ?_
          refine lv_iconst (v := nI 1) C.1 C.2.1 dX4_keepRow_74 (by decide) ?_
          refine W.widen (k := 4) (n := 196) (Nat.le_of_ble_eq_true rfl) (Nat.le_of_ble_eq_true rfl) ?_
          exact q_retQi C S hr hlk (Or.inr ⟨u, by omega, rfl, by omega, (q1, Ir 0, u, g, N1 1, J1 3), hKN, Or.inr ⟨krC_n c47, rfl, Z⟩⟩) dX4_keepRow_75
        · refine lv_aload C.1 C.2.1 dX4_keepRow_50 (lv_at hl 0 rfl) ?_
          refine lv_aload_n C.1 C.2.1 dX4_keepRow_52 rfl (lv_at hl 1 rfl) ?_
          refine o_get (v := .ref (aC 0)) C S Z.2.1 rfl inX4_keepRow_X4 0 (Nat.le_of_ble_eq_true rfl) lkX4_keepRow_10 rfl dX4_keepRow_53 ?_
          refine q_callSi (As := [.ref (aC 0)]) (rest := []) C S hl O1.1 rfl (c_isSo O1 Z.2.2.1 hw hP hL hk2) (cwV 1 C.2.2.2.2 gX4_keepRow_X0_isSo rfl rfl rfl (by decide +kernel) ⟨Nat.le_of_ble_eq_true rfl, Nat.le_of_ble_eq_true rfl⟩) rfl rfl (Nat.le_of_ble_eq_true rfl) ⟨Nat.le_of_ble_eq_true rfl, Nat.le_of_ble_eq_true rfl⟩ dX4_keepRow_56 (fun v hv => ?_)
          rw [hN1, hJ2, hJ3] at hv
          have hv : v = bI (krS (Nn 1) (Jn 3) (q1, Ir 0, u, g, N1 1, J1 3)) := hv
          subst hv
          refine q_ifneB (tgt := 64) C dX4_keepRow_59 (by decide) (fun c59 => ?_) (fun c59 => ?_)
          · refine lv_aload_n C.1 C.2.1 dX4_keepRow_64 rfl (lv_at hl 1 rfl) ?_
            refine o_get (v := .ref (aC 2)) C S Z.2.1 rfl inX4_keepRow_X4 2 (Nat.le_of_ble_eq_true rfl) lkX4_keepRow_26 rfl dX4_keepRow_65 ?_
            refine lv_aload C.1 C.2.1 dX4_keepRow_68 (lv_at hl 0 rfl) ?_
            obtain ⟨md, qL, cap, go, e0, D, hnc, hc96, hg1, hg2⟩ := Z.2.2.2.2.2.1.1
            refine q_callQi (As := [.ref q1]) (rest := []) C S hl e0 rfl (l_add e0 D (ci := 1) rfl (Or.inl rfl) (KS_el Z.2.2.2.2.2.1 hg1 hg2) O1.1 (Or.inr (by omega)) hnc (by omega) hc96) (cwV 1 C.2.2.2.2 gX4_keepRow_Jx4a65c_add_9ea2d rfl rfl rfl (by decide +kernel) ⟨Nat.le_of_ble_eq_true rfl, Nat.le_of_ble_eq_true rfl⟩) rfl rfl (Nat.le_of_ble_eq_true rfl) ⟨Nat.le_of_ble_eq_true rfl, Nat.le_of_ble_eq_true rfl⟩ dX4_keepRow_70 (fun v f H locs hv S => ?_)
            obtain ⟨rfl, q2, cap2, g2, h1, h2, h3, h4, h5, h6, h7, F1⟩ := hv
            have Z := CL_k Z F1 (KS_add Z.2.2.2.2.2.1 F1 (q1, Ir 0, u, g, N1 1, J1 3) hKR hKO (by omega) (L_ad h1 h2 h3 h4 hg1 hg2 h5 h6 h7))
            refine lv_pop C.1 C.2.1 dX4_keepRow_73 rfl ?_
            refine lv_iconst (v := nI 1) C.1 C.2.1 dX4_keepRow_74 (by decide) ?_
            refine W.widen (k := 4) (n := 196) (Nat.le_of_ble_eq_true rfl) (Nat.le_of_ble_eq_true rfl) ?_
            exact q_retQi C S hr hlk (Or.inr ⟨u, by omega, rfl, by omega, (q1, Ir 0, u, g, N1 1, J1 3), hKN, Or.inr ⟨by rw [krC_z c47]; exact c59, rfl, Z⟩⟩) dX4_keepRow_75
          · refine lv_iconst (v := nI 0) C.1 C.2.1 dX4_keepRow_62 (by decide) ?_
            refine W.widen (k := 4) (n := 196) (Nat.le_of_ble_eq_true rfl) (Nat.le_of_ble_eq_true rfl) ?_
            exact q_retQi C S hr hlk (Or.inr ⟨u, by omega, rfl, by omega, (q1, Ir 0, u, g, N1 1, J1 3), hKN, Or.inl ⟨by rw [krC_z c47]; exact c59, rfl, Z⟩⟩) dX4_keepRow_63
      · refine lv_iconst (v := (-1)) C.1 C.2.1 dX4_keepRow_21 (by decide) ?_
        refine W.widen (k := 4) (n := 196) (Nat.le_of_ble_eq_true rfl) (Nat.le_of_ble_eq_true rfl) ?_
        exact q_retQi C S hr hlk (Or.inl ⟨Or.inr (Or.inr (by omega)), rfl, Z⟩) dX4_keepRow_22
