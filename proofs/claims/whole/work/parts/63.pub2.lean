theorem inX4_mark_X4 : ∀ w ∈ u_ws RX4 TX4 7, w ∈ wsX4_mark := (fun _ h => (List.mem_cons_of_mem _ (List.mem_append_left _ (List.mem_append_left _ (List.mem_append_right _ h)))))
theorem lkX4_mark_44 : Cond.fieldLink RX4 44 (TX4 6).1 (TX4 6).2.1 (TX4 6).2.2.1 ∈ wsX4_mark := List.mem_of_getElem? (i := 1) rfl
theorem lkX4_mark_37 : Cond.fieldLink RX4 37 (TX4 4).1 (TX4 4).2.1 (TX4 4).2.2.1 ∈ wsX4_mark := List.mem_of_getElem? (i := 2) rfl
theorem lkX4_mark_10 : Cond.fieldLink RX4 10 (TX4 0).1 (TX4 0).2.1 (TX4 0).2.2.1 ∈ wsX4_mark := List.mem_of_getElem? (i := 7) rfl
theorem lkX4_mark_40 : Cond.fieldLink RX4 40 (TX4 5).1 (TX4 5).2.1 (TX4 5).2.2.1 ∈ wsX4_mark := List.mem_of_getElem? (i := 8) rfl
theorem lkX4_mark_26 : Cond.fieldLink RX4 26 (TX4 2).1 (TX4 2).2.1 (TX4 2).2.2.1 ∈ wsX4_mark := List.mem_of_getElem? (i := 9) rfl
theorem inX4_mark_X1 : ∀ w ∈ u_ws RX1 TX1 7, w ∈ wsX4_mark := (fun _ h => (List.mem_cons_of_mem _ (List.mem_append_left _ (List.mem_append_right _ h))))
set_option maxHeartbeats 4000000 in
set_option maxRecDepth 100000 in
theorem p_mark {l : Launch} {G : fw_G} {A : Nat → Prop} {f0 : fw_F} {hc : Nat} {aC an ar as_ : Nat → Nat} {In : Nat → Nat} {Nn : Nat → Nat → Nat} {Bn : Nat → Nat → Bool} {Jn : Nat → Nat → Int64} {Ir : Nat → Nat} {Nr : Nat → Nat → Nat} {Br : Nat → Nat → Bool} {Jr : Nat → Nat → Int64} {Is : Nat → Nat} {Ns : Nat → Nat → Nat} {Bs : Nat → Nat → Bool} {Js : Nat → Nat → Int64} {Ic : Nat → Nat} {Nc : Nat → Nat → Nat} {kn : Nat} {K : Nat → kRT} {mn : Nat} {M : Nat → sNT} (Z : CL G f0 f0 hc aC an ar as_ In Nn Bn Jn Ir Nr Br Jr Is Ns Bs Js Ic Nc kn K mn M) (hn : In 0 ≤ 64) (hL : ∀ i, Nn 1 i < 64) (h40 : Ic 6 ≤ 40) (hmm : Ic 6 ≤ mn)  : Met l yX4_mark wsX4_mark ({ frames := 7, cells := 8, slots := 519, locals := 187 }) (va_Pc [.ref hc] (fw_P G A f0)) (va_Qi (fun (r : Int32) (f1 : fw_F) => Ic 6 = 40 ∧ r = -1 ∧ CL G f0 f1 hc aC an ar as_ In Nn Bn Jn Ir Nr Br Jr Is Ns Bs Js Ic Nc kn K mn M ∨ Ic 6 < 40 ∧ r = nI (Ic 6 + 1) ∧ ∃ mn2 M2, Ic 6 < mn2 ∧ mn ≤ mn2 ∧ (∀ j, j < Ic 6 → M2 j = M j) ∧ (M2 (Ic 6)).2.2.1 0 = In 0 ∧ smN (In 0) (M2 (Ic 6)).2.2.2.1 (M2 (Ic 6)).2.2.2.2.1 (M2 (Ic 6)).2.2.2.2.2 Nn Bn Jn ∧ CL G f0 f1 hc aC an ar as_ In Nn Bn Jn Ir Nr Br Jr Is Ns Bs Js (va_up Ic 6 (Ic 6 + 1)) (va_up Nc 5 (va_up (Nc 5) (Ic 6) kn)) kn K mn2 M2) (fw_B G A) A) 8 519 A := by
  refine q_head rfl (by decide) (Nat.le_of_ble_eq_true rfl) ?_
  intro p e s m below meth c ls C hr hlk hnm P hl
  have S := P.start
  have hl : lv_has ls 1 [(0, .ref hc)] := hl
  have hmn := Z.2.2.2.2.2.2.2.2
  have hkn := Z.2.2.2.2.2.1.2.2
  refine lv_aload_n C.1 C.2.1 dX4_mark_0 rfl (lv_at hl 0 rfl) ?_
  refine o_get (v := .int (nI (Ic 6))) C S Z.2.1 rfl inX4_mark_X4 6 (Nat.le_of_ble_eq_true rfl) lkX4_mark_44 rfl dX4_mark_1 ?_
  refine lv_bipush (v := nI 40) C.1 C.2.1 dX4_mark_4 (by decide) ?_
  refine q_lt (tgt := 11) C (by omega) (by decide) dX4_mark_6 (by decide) (fun c6 => ?_) (fun c6 => ?_)
  · refine lv_aload_n C.1 C.2.1 dX4_mark_11 rfl (lv_at hl 0 rfl) ?_
    refine o_get (v := .int (nI (Ic 6))) C S Z.2.1 rfl inX4_mark_X4 6 (Nat.le_of_ble_eq_true rfl) lkX4_mark_44 rfl dX4_mark_12 ?_
    refine lv_aload_n C.1 C.2.1 dX4_mark_15 rfl (lv_at hl 0 rfl) ?_
    refine o_get (v := .ref (aC 4)) C S Z.2.1 rfl inX4_mark_X4 4 (Nat.le_of_ble_eq_true rfl) lkX4_mark_37 rfl dX4_mark_16 ?_
    obtain ⟨fsL, eL⟩ := isL_sz Z.2.2.2.2.2.2.1
    refine q_callSi (As := []) (rest := [.int (nI (Ic 6))]) C S hl eL rfl (L_size Z.2.2.2.2.2.2.1) (cwV 0 C.2.2.2.2 gX4_mark_Jx4a65c_size_8abf5 rfl rfl rfl (by decide +kernel) ⟨Nat.le_of_ble_eq_true rfl, Nat.le_of_ble_eq_true rfl⟩) rfl rfl (Nat.le_of_ble_eq_true rfl) ⟨Nat.le_of_ble_eq_true rfl, Nat.le_of_ble_eq_true rfl⟩ dX4_mark_19 (fun v hv => ?_)
    subst hv
    refine q_lt (tgt := 40) C (by omega) (by omega) dX4_mark_22 (by decide) (fun c22 => ?_) (fun c22 => ?_)
    · refine lv_aload_n C.1 C.2.1 dX4_mark_40 rfl (lv_at hl 0 rfl) ?_
      refine o_get (v := .ref (aC 4)) C S Z.2.1 rfl inX4_mark_X4 4 (Nat.le_of_ble_eq_true rfl) lkX4_mark_37 rfl dX4_mark_41 ?_
      refine lv_aload_n C.1 C.2.1 dX4_mark_44 rfl (lv_at hl 0 rfl) ?_
      refine o_get (v := .int (nI (Ic 6))) C S Z.2.1 rfl inX4_mark_X4 6 (Nat.le_of_ble_eq_true rfl) lkX4_mark_44 rfl dX4_mark_45 ?_
      obtain ⟨fsL, eL⟩ := isL_sz Z.2.2.2.2.2.2.1
      refine q_callSq (As := [.int (nI (Ic 6))]) (rest := []) C S hl eL rfl (L_get Z.2.2.2.2.2.2.1 (Ic 6) (by omega)) (cwV 1 C.2.2.2.2 gX4_mark_Jx4a65c_get_915e3 rfl rfl rfl (by decide +kernel) ⟨Nat.le_of_ble_eq_true rfl, Nat.le_of_ble_eq_true rfl⟩) rfl rfl (Nat.le_of_ble_eq_true rfl) ⟨Nat.le_of_ble_eq_true rfl, Nat.le_of_ble_eq_true rfl⟩ dX4_mark_48 (fun v hv => ?_)
      subst hv
      show W _ _ _ _ _ _ _ _ _ _ _ _ _ _ _ (F0 _ _ _ (.ref (M (Ic 6)).1 :: _))
      obtain ⟨Om, hm64, hmL⟩ := Z.2.2.2.2.2.2.2.1 (Ic 6) (by omega)
      refine va_castY C.1 C.2.1 C.2.2.2.1 (C.2.2.2.2 _ (List.mem_of_getElem? (i := 6) rfl)) S.2.2.2.1.2.2.2.1.2.2.1 (q_recv S Om.1 rfl) dX4_mark_51 ?_
      refine lv_aload_n C.1 C.2.1 dX4_mark_54 rfl (lv_at hl 0 rfl) ?_
      refine o_get (v := .ref (aC 0)) C S Z.2.1 rfl inX4_mark_X4 0 (Nat.le_of_ble_eq_true rfl) lkX4_mark_10 rfl dX4_mark_55 ?_
      refine q_callQv (As := [.ref (aC 0)]) (rest := []) C S hl Om.1 rfl (c_copyFrom Om Z.2.2.1 (Or.inl (by omega)) hn hmL hL) (cwV 1 C.2.2.2.2 gX4_mark_X1_copyFrom rfl rfl rfl (by decide +kernel) ⟨Nat.le_of_ble_eq_true rfl, Nat.le_of_ble_eq_true rfl⟩) rfl rfl (Nat.le_of_ble_eq_true rfl) ⟨Nat.le_of_ble_eq_true rfl, Nat.le_of_ble_eq_true rfl⟩ dX4_mark_58 (fun f H locs hv S => ?_)
      obtain ⟨N7, B7, J7, O7, hs7, hl7, F1⟩ := hv
      have Z := CL_mw Z (by omega) F1 (((M (Ic 6)).1, (M (Ic 6)).2.1, va_up (M (Ic 6)).2.2.1 0 (In 0), N7, B7, J7) : sNT) rfl O7 ⟨(show va_up (M (Ic 6)).2.2.1 0 (In 0) 0 ≤ 64 by rw [up_s]; exact hn), hl7⟩
      refine lv_aload_n C.1 C.2.1 dX4_mark_61 rfl (lv_at hl 0 rfl) ?_
      refine o_get (v := .ref (aC 5)) C S Z.2.1 rfl inX4_mark_X4 5 (Nat.le_of_ble_eq_true rfl) lkX4_mark_40 rfl dX4_mark_62 ?_
      refine lv_aload_n C.1 C.2.1 dX4_mark_65 rfl (lv_at hl 0 rfl) ?_
      refine o_get (v := .int (nI (Ic 6))) C S Z.2.1 rfl inX4_mark_X4 6 (Nat.le_of_ble_eq_true rfl) lkX4_mark_44 rfl dX4_mark_66 ?_
      refine lv_aload_n C.1 C.2.1 dX4_mark_69 rfl (lv_at hl 0 rfl) ?_
      refine o_get (v := .ref (aC 2)) C S Z.2.1 rfl inX4_mark_X4 2 (Nat.le_of_ble_eq_true rfl) lkX4_mark_26 rfl dX4_mark_70 ?_
      obtain ⟨fsL, eL⟩ := isL_sz Z.2.2.2.2.2.1.1
      refine q_callSi (As := []) (rest := [.int (nI (Ic 6)), .ref (aC 5)]) C S hl eL rfl (L_size Z.2.2.2.2.2.1.1) (cwV 0 C.2.2.2.2 gX4_mark_Jx4a65c_size_8abf5 rfl rfl rfl (by decide +kernel) ⟨Nat.le_of_ble_eq_true rfl, Nat.le_of_ble_eq_true rfl⟩) rfl rfl (Nat.le_of_ble_eq_true rfl) ⟨Nat.le_of_ble_eq_true rfl, Nat.le_of_ble_eq_true rfl⟩ dX4_mark_73 (fun v hv => ?_)
      subst hv
      refine o_nast C S Z.2.1 (fw_fr_rf _ 3400 (3400 + 8)) 5 (Nat.le_of_ble_eq_true rfl) rfl (Ic 6) rfl (show (Ic 6) < 40 from by first | omega | exact hL _ | exact hP _ | exact hF _) (Nat.le_of_ble_eq_true rfl) ⟨by decide, by decide⟩ dX4_mark_76 (fun f H locs S O1 F1 => ?_)
      have Z := CL_c Z F1 O1
      refine lv_aload_n C.1 C.2.1 dX4_mark_77 rfl (lv_at hl 0 rfl) ?_
      refine lv_dup C.1 C.2.1 dX4_mark_78 rfl ?_
      refine o_get (v := .int (nI (Ic 6))) C S Z.2.1 rfl inX4_mark_X4 6 (Nat.le_of_ble_eq_true rfl) lkX4_mark_44 rfl dX4_mark_79 ?_
      refine lv_iconst (v := nI 1) C.1 C.2.1 dX4_mark_82 (by decide) ?_
      refine q_iadd C dX4_mark_83 ?_
      refine o_puti C S Z.2.1 (fw_fr_rf _ 3400 (3400 + 8)) rfl inX4_mark_X4 tyX4 tyX4_ok nmX4 6 (Nat.le_of_ble_eq_true rfl) rfl lkX4_mark_44 rfl rfl ⟨by decide, by decide⟩ dX4_mark_84 (fun f H locs S O1 F1 => ?_)
      have Z := CL_c Z F1 O1
      refine lv_aload_n C.1 C.2.1 dX4_mark_87 rfl (lv_at hl 0 rfl) ?_
      refine o_get (v := .int (nI ((Ic 6) + 1))) C S Z.2.1 rfl inX4_mark_X4 6 (Nat.le_of_ble_eq_true rfl) lkX4_mark_44 rfl dX4_mark_88 ?_
      refine W.widen (k := 8) (n := 519) (Nat.le_of_ble_eq_true rfl) (Nat.le_of_ble_eq_true rfl) ?_
      exact q_retQi C S hr hlk (Or.inr ⟨by omega, rfl, mn, _, by omega, Nat.le_refl _, fun j hj => up_n (by omega), by rw [up_s]; exact up_s (M (Ic 6)).2.2.1 0 (In 0), by rw [up_s]; exact hs7, Z⟩) dX4_mark_91
    · refine lv_aload_n C.1 C.2.1 dX4_mark_25 rfl (lv_at hl 0 rfl) ?_
      refine o_get (v := .ref (aC 4)) C S Z.2.1 rfl inX4_mark_X4 4 (Nat.le_of_ble_eq_true rfl) lkX4_mark_37 rfl dX4_mark_26 ?_
      refine q_new C S (ci := 2) rfl inX4_mark_X1 tyX1 tyX1_ok (List.mem_of_getElem? (i := 3) rfl) (List.mem_of_getElem? (i := 4) rfl) (List.mem_of_getElem? (i := 5) rfl) (20000 + 10 * mn) (fs := [.int 0, .null, .null, .null, .null, .null, .null]) (fun j hj => match j, hj with | 0, _ => rfl | 1, _ => rfl | 2, _ => rfl | 3, _ => rfl | 4, _ => rfl | 5, _ => rfl | 6, _ => rfl | n + 7, h => absurd h (Nat.not_lt.mpr (Nat.le_add_left _ _))) (Nat.le_of_ble_eq_true rfl) (Nat.le_of_ble_eq_true rfl) dX4_mark_29 (fun q1 H hq S => ?_)
      obtain ⟨f, S, Z, hO⟩ : ∃ f, fw_S G A s f H _ ∧ CL G f0 f hc aC an ar as_ In Nn Bn Jn Ir Nr Br Jr Is Ns Bs Js Ic Nc kn K mn M ∧ f q1 = some (20000 + 10 * mn, eB 2 [.int 0, .null, .null, .null, .null, .null, .null]) := ⟨_, S, CL_ex Z (fun y z hy => fw_new hy hq), fw_eq _ _ _⟩
      refine lv_dup C.1 C.2.1 dX4_mark_32 rfl ?_
      refine q_callINv (As := []) (rest := [.ref q1, .ref (aC 4)]) C S hl (c_N_init (b := 20000 + 10 * mn) hO) ⟨va_cnB 0 C.2.2.2.2 ggX4_mark_X1_init rfl rfl rfl S.2.2.2.1.2.2.1.2.2 (C.2.2.2.2 _ (List.mem_of_getElem? (i := 5) rfl)) (by decide +kernel) ⟨Nat.le_of_ble_eq_true rfl, Nat.le_of_ble_eq_true rfl⟩, rfl, (C.2.2.2.2 _ (List.mem_of_getElem? (i := 16) rfl))⟩ rfl rfl (Nat.le_of_ble_eq_true rfl) ⟨Nat.le_of_ble_eq_true rfl, Nat.le_of_ble_eq_true rfl⟩ dX4_mark_33 (fun f H locs hv S => ?_)
      obtain ⟨a1, O1, F1⟩ := hv
      have Z := CL_mb Z F1
      have hSN : isSN G f (20000 + 10 * mn) ((q1, a1, (fun _ => 0), (fun _ _ => 0), (fun _ _ => false), (fun _ _ => 0)) : sNT) := O1
      have hSO : sOK ((q1, a1, (fun _ => 0), (fun _ _ => 0), (fun _ _ => false), (fun _ _ => 0)) : sNT) := ⟨Nat.zero_le _, fun _ => by show 0 < 64; decide⟩
      obtain ⟨md, qL, cap, go, e0, D, hnc, hc96, hg1, hg2⟩ := Z.2.2.2.2.2.2.1
      refine q_callQi (As := [.ref q1]) (rest := []) C S hl e0 rfl (l_add e0 D (ci := 2) rfl (Or.inr rfl) (MS_el Z.2.2.2.2.2.2 hg1 hg2) O1.1 (Or.inr (by omega)) hnc (by omega) hc96) (cwV 1 C.2.2.2.2 gX4_mark_Jx4a65c_add_9ea2d rfl rfl rfl (by decide +kernel) ⟨Nat.le_of_ble_eq_true rfl, Nat.le_of_ble_eq_true rfl⟩) rfl rfl (Nat.le_of_ble_eq_true rfl) ⟨Nat.le_of_ble_eq_true rfl, Nat.le_of_ble_eq_true rfl⟩ dX4_mark_36 (fun v f H locs hv S => ?_)
      obtain ⟨rfl, q2, cap2, g2, h1, h2, h3, h4, h5, h6, h7, F1⟩ := hv
      have Z := CL_m Z F1 (MS_add Z.2.2.2.2.2.2 F1 (q1, a1, (fun _ => 0), (fun _ _ => 0), (fun _ _ => false), (fun _ _ => 0)) hSN hSO (by omega) (L_ad h1 h2 h3 h4 hg1 hg2 h5 h6 h7))
      refine lv_pop C.1 C.2.1 dX4_mark_39 rfl ?_
      refine lv_aload_n C.1 C.2.1 dX4_mark_40 rfl (lv_at hl 0 rfl) ?_
      refine o_get (v := .ref (aC 4)) C S Z.2.1 rfl inX4_mark_X4 4 (Nat.le_of_ble_eq_true rfl) lkX4_mark_37 rfl dX4_mark_41 ?_
      refine lv_aload_n C.1 C.2.1 dX4_mark_44 rfl (lv_at hl 0 rfl) ?_
      refine o_get (v := .int (nI (Ic 6))) C S Z.2.1 rfl inX4_mark_X4 6 (Nat.le_of_ble_eq_true rfl) lkX4_mark_44 rfl dX4_mark_45 ?_
      obtain ⟨fsL, eL⟩ := isL_sz Z.2.2.2.2.2.2.1
      refine q_callSq (As := [.int (nI (Ic 6))]) (rest := []) C S hl eL rfl (L_get Z.2.2.2.2.2.2.1 (Ic 6) (by omega)) (cwV 1 C.2.2.2.2 gX4_mark_Jx4a65c_get_915e3 rfl rfl rfl (by decide +kernel) ⟨Nat.le_of_ble_eq_true rfl, Nat.le_of_ble_eq_true rfl⟩) rfl rfl (Nat.le_of_ble_eq_true rfl) ⟨Nat.le_of_ble_eq_true rfl, Nat.le_of_ble_eq_true rfl⟩ dX4_mark_48 (fun v hv => ?_)
      subst hv
      show W _ _ _ _ _ _ _ _ _ _ _ _ _ _ _ (F0 _ _ _ (.ref ((va_up M mn (q1, a1, (fun _ => 0), (fun _ _ => 0), (fun _ _ => false), (fun _ _ => 0))) (Ic 6)).1 :: _))
      obtain ⟨Om, hm64, hmL⟩ := Z.2.2.2.2.2.2.2.1 (Ic 6) (by omega)
      refine va_castY C.1 C.2.1 C.2.2.2.1 (C.2.2.2.2 _ (List.mem_of_getElem? (i := 6) rfl)) S.2.2.2.1.2.2.2.1.2.2.1 (q_recv S Om.1 rfl) dX4_mark_51 ?_
      refine lv_aload_n C.1 C.2.1 dX4_mark_54 rfl (lv_at hl 0 rfl) ?_
      refine o_get (v := .ref (aC 0)) C S Z.2.1 rfl inX4_mark_X4 0 (Nat.le_of_ble_eq_true rfl) lkX4_mark_10 rfl dX4_mark_55 ?_
      refine q_callQv (As := [.ref (aC 0)]) (rest := []) C S hl Om.1 rfl (c_copyFrom Om Z.2.2.1 (Or.inl (by omega)) hn hmL hL) (cwV 1 C.2.2.2.2 gX4_mark_X1_copyFrom rfl rfl rfl (by decide +kernel) ⟨Nat.le_of_ble_eq_true rfl, Nat.le_of_ble_eq_true rfl⟩) rfl rfl (Nat.le_of_ble_eq_true rfl) ⟨Nat.le_of_ble_eq_true rfl, Nat.le_of_ble_eq_true rfl⟩ dX4_mark_58 (fun f H locs hv S => ?_)
      obtain ⟨N7, B7, J7, O7, hs7, hl7, F1⟩ := hv
      have Z := CL_mw Z (by omega) F1 ((((va_up M mn (q1, a1, (fun _ => 0), (fun _ _ => 0), (fun _ _ => false), (fun _ _ => 0))) (Ic 6)).1, ((va_up M mn (q1, a1, (fun _ => 0), (fun _ _ => 0), (fun _ _ => false), (fun _ _ => 0))) (Ic 6)).2.1, va_up ((va_up M mn (q1, a1, (fun _ => 0), (fun _ _ => 0), (fun _ _ => false), (fun _ _ => 0))) (Ic 6)).2.2.1 0 (In 0), N7, B7, J7) : sNT) rfl O7 ⟨(show va_up ((va_up M mn (q1, a1, (fun _ => 0), (fun _ _ => 0), (fun _ _ => false), (fun _ _ => 0))) (Ic 6)).2.2.1 0 (In 0) 0 ≤ 64 by rw [up_s]; exact hn), hl7⟩
      refine lv_aload_n C.1 C.2.1 dX4_mark_61 rfl (lv_at hl 0 rfl) ?_
      refine o_get (v := .ref (aC 5)) C S Z.2.1 rfl inX4_mark_X4 5 (Nat.le_of_ble_eq_true rfl) lkX4_mark_40 rfl dX4_mark_62 ?_
      refine lv_aload_n C.1 C.2.1 dX4_mark_65 rfl (lv_at hl 0 rfl) ?_
      refine o_get (v := .int (nI (Ic 6))) C S Z.2.1 rfl inX4_mark_X4 6 (Nat.le_of_ble_eq_true rfl) lkX4_mark_44 rfl dX4_mark_66 ?_
      refine lv_aload_n C.1 C.2.1 dX4_mark_69 rfl (lv_at hl 0 rfl) ?_
      refine o_get (v := .ref (aC 2)) C S Z.2.1 rfl inX4_mark_X4 2 (Nat.le_of_ble_eq_true rfl) lkX4_mark_26 rfl dX4_mark_70 ?_
      obtain ⟨fsL, eL⟩ := isL_sz Z.2.2.2.2.2.1.1
      refine q_callSi (As := []) (rest := [.int (nI (Ic 6)), .ref (aC 5)]) C S hl eL rfl (L_size Z.2.2.2.2.2.1.1) (cwV 0 C.2.2.2.2 gX4_mark_Jx4a65c_size_8abf5 rfl rfl rfl (by decide +kernel) ⟨Nat.le_of_ble_eq_true rfl, Nat.le_of_ble_eq_true rfl⟩) rfl rfl (Nat.le_of_ble_eq_true rfl) ⟨Nat.le_of_ble_eq_true rfl, Nat.le_of_ble_eq_true rfl⟩ dX4_mark_73 (fun v hv => ?_)
      subst hv
      refine o_nast C S Z.2.1 (fw_fr_rf _ 3400 (3400 + 8)) 5 (Nat.le_of_ble_eq_true rfl) rfl (Ic 6) rfl (show (Ic 6) < 40 from by first | omega | exact hL _ | exact hP _ | exact hF _) (Nat.le_of_ble_eq_true rfl) ⟨by decide, by decide⟩ dX4_mark_76 (fun f H locs S O1 F1 => ?_)
      have Z := CL_c Z F1 O1
      refine lv_aload_n C.1 C.2.1 dX4_mark_77 rfl (lv_at hl 0 rfl) ?_
      refine lv_dup C.1 C.2.1 dX4_mark_78 rfl ?_
      refine o_get (v := .int (nI (Ic 6))) C S Z.2.1 rfl inX4_mark_X4 6 (Nat.le_of_ble_eq_true rfl) lkX4_mark_44 rfl dX4_mark_79 ?_
      refine lv_iconst (v := nI 1) C.1 C.2.1 dX4_mark_82 (by decide) ?_
      refine q_iadd C dX4_mark_83 ?_
      refine o_puti C S Z.2.1 (fw_fr_rf _ 3400 (3400 + 8)) rfl inX4_mark_X4 tyX4 tyX4_ok nmX4 6 (Nat.le_of_ble_eq_true rfl) rfl lkX4_mark_44 rfl rfl ⟨by decide, by decide⟩ dX4_mark_84 (fun f H locs S O1 F1 => ?_)
      have Z := CL_c Z F1 O1
      refine lv_aload_n C.1 C.2.1 dX4_mark_87 rfl (lv_at hl 0 rfl) ?_
      refine o_get (v := .int (nI ((Ic 6) + 1))) C S Z.2.1 rfl inX4_mark_X4 6 (Nat.le_of_ble_eq_true rfl) lkX4_mark_44 rfl dX4_mark_88 ?_
      refine W.widen (k := 8) (n := 519) (Nat.le_of_ble_eq_true rfl) (Nat.le_of_ble_eq_true rfl) ?_
      exact q_retQi C S hr hlk (Or.inr ⟨by omega, rfl, mn + 1, _, by omega, by omega, fun j hj => by rw [up_n (by omega), up_n (by omega)], by rw [up_s]; exact up_s ((va_up M mn (q1, a1, (fun _ => 0), (fun _ _ => 0), (fun _ _ => false), (fun _ _ => 0))) (Ic 6)).2.2.1 0 (In 0), by rw [up_s]; exact hs7, Z⟩) dX4_mark_91
  · refine lv_iconst (v := (-1)) C.1 C.2.1 dX4_mark_9 (by decide) ?_
    refine W.widen (k := 8) (n := 519) (Nat.le_of_ble_eq_true rfl) (Nat.le_of_ble_eq_true rfl) ?_
    exact q_retQi C S hr hlk (Or.inl ⟨by omega, rfl, Z⟩) dX4_mark_10
theorem inX4_back_X4 : ∀ w ∈ u_ws RX4 TX4 7, w ∈ wsX4_back := (fun _ h => (List.mem_cons_of_mem _ (List.mem_append_left _ (List.mem_append_left _ (List.mem_append_left _ (List.mem_append_left _ (List.mem_append_right _ h)))))))
theorem lkX4_back_44 : Cond.fieldLink RX4 44 (TX4 6).1 (TX4 6).2.1 (TX4 6).2.2.1 ∈ wsX4_back := List.mem_of_getElem? (i := 1) rfl
theorem lkX4_back_37 : Cond.fieldLink RX4 37 (TX4 4).1 (TX4 4).2.1 (TX4 4).2.2.1 ∈ wsX4_back := List.mem_of_getElem? (i := 2) rfl
theorem lkX4_back_10 : Cond.fieldLink RX4 10 (TX4 0).1 (TX4 0).2.1 (TX4 0).2.2.1 ∈ wsX4_back := List.mem_of_getElem? (i := 3) rfl
theorem lkX4_back_26 : Cond.fieldLink RX4 26 (TX4 2).1 (TX4 2).2.1 (TX4 2).2.2.1 ∈ wsX4_back := List.mem_of_getElem? (i := 5) rfl
theorem lkX4_back_40 : Cond.fieldLink RX4 40 (TX4 5).1 (TX4 5).2.1 (TX4 5).2.2.1 ∈ wsX4_back := List.mem_of_getElem? (i := 6) rfl
theorem lkX4_back_19 : Cond.fieldLink RX4 19 (TX4 1).1 (TX4 1).2.1 (TX4 1).2.2.1 ∈ wsX4_back := List.mem_of_getElem? (i := 7) rfl
theorem lkX4_back_33 : Cond.fieldLink RX4 33 (TX4 3).1 (TX4 3).2.1 (TX4 3).2.2.1 ∈ wsX4_back := List.mem_of_getElem? (i := 8) rfl
set_option maxHeartbeats 4000000 in
set_option maxRecDepth 100000 in
theorem p_back {l : Launch} {G : fw_G} {A : Nat → Prop} {f0 : fw_F} {hc : Nat} {aC an ar as_ : Nat → Nat} {In : Nat → Nat} {Nn : Nat → Nat → Nat} {Bn : Nat → Nat → Bool} {Jn : Nat → Nat → Int64} {Ir : Nat → Nat} {Nr : Nat → Nat → Nat} {Br : Nat → Nat → Bool} {Jr : Nat → Nat → Int64} {Is : Nat → Nat} {Ns : Nat → Nat → Nat} {Bs : Nat → Nat → Bool} {Js : Nat → Nat → Int64} {Ic : Nat → Nat} {Nc : Nat → Nat → Nat} {kn : Nat} {K : Nat → kRT} {mn : Nat} {M : Nat → sNT} (Z : CL G f0 f0 hc aC an ar as_ In Nn Bn Jn Ir Nr Br Jr Is Ns Bs Js Ic Nc kn K mn M) (hn : In 0 ≤ 64) (hL : ∀ i, Nn 1 i < 64) (h40 : Ic 6 ≤ 40) (hmm : Ic 6 ≤ mn) (hsk : ∀ j, j < Ic 6 → Nc 5 j ≤ kn) (hm : Ir 0 ≤ 32) (hPr : ∀ i, Nr 1 i < 64)  : Met l yX4_back wsX4_back ({ frames := 3, cells := 0, slots := 0, locals := 66 }) (va_Pc [.ref hc] (fw_P G A f0)) (va_Qi (fun (r : Int32) (f1 : fw_F) => Ic 6 = 0 ∧ r = -1 ∧ CL G f0 f1 hc aC an ar as_ In Nn Bn Jn Ir Nr Br Jr Is Ns Bs Js Ic Nc kn K mn M ∨ 0 < Ic 6 ∧ r = nI (Ic 6 - 1) ∧ ∃ N7 B7 J7 c, smN ((M (Ic 6 - 1)).2.2.1 0) N7 B7 J7 (M (Ic 6 - 1)).2.2.2.1 (M (Ic 6 - 1)).2.2.2.2.1 (M (Ic 6 - 1)).2.2.2.2.2 ∧ (∀ i, N7 1 i < 64) ∧ c ≤ Ir 0 ∧ (∀ i, i < c → Nr 1 i < (M (Ic 6 - 1)).2.2.1 0) ∧ (c < Ir 0 → (M (Ic 6 - 1)).2.2.1 0 ≤ Nr 1 c) ∧ CL G f0 f1 hc aC an ar as_ (va_up In 0 ((M (Ic 6 - 1)).2.2.1 0)) N7 B7 J7 (va_up Ir 0 c) Nr Br Jr (va_up (va_up Is 1 0) 2 0) Ns Bs Js (va_up Ic 6 (Ic 6 - 1)) Nc (Nc 5 (Ic 6 - 1)) K mn M) (fw_B G A) A) 0 0 A := by
  refine q_head rfl (by decide) (Nat.le_of_ble_eq_true rfl) ?_
  intro p e s m below meth c ls C hr hlk hnm P hl
  have S := P.start
  have hl : lv_has ls 2 [(0, .ref hc)] := hl
  have hmn := Z.2.2.2.2.2.2.2.2
  have hkn := Z.2.2.2.2.2.1.2.2
  refine lv_aload_n C.1 C.2.1 dX4_back_0 rfl (lv_at hl 0 rfl) ?_
  refine o_get (v := .int (nI (Ic 6))) C S Z.2.1 rfl inX4_back_X4 6 (Nat.le_of_ble_eq_true rfl) lkX4_back_44 rfl dX4_back_1 ?_
  refine q_ifleN (tgt := 21) C (by omega) dX4_back_4 (by decide) (fun c4 => ?_) (fun c4 => ?_)
  · refine lv_iconst (v := (-1)) C.1 C.2.1 dX4_back_21 (by decide) ?_
    exact q_retQi C S hr hlk (Or.inl ⟨c4, rfl, Z⟩) dX4_back_22
  · refine lv_aload_n C.1 C.2.1 dX4_back_7 rfl (lv_at hl 0 rfl) ?_
    refine o_get (v := .int (nI (Ic 6))) C S Z.2.1 rfl inX4_back_X4 6 (Nat.le_of_ble_eq_true rfl) lkX4_back_44 rfl dX4_back_8 ?_
    refine lv_aload_n C.1 C.2.1 dX4_back_11 rfl (lv_at hl 0 rfl) ?_
    refine o_get (v := .ref (aC 4)) C S Z.2.1 rfl inX4_back_X4 4 (Nat.le_of_ble_eq_true rfl) lkX4_back_37 rfl dX4_back_12 ?_
    obtain ⟨fsL, eL⟩ := isL_sz Z.2.2.2.2.2.2.1
    refine q_callSi (As := []) (rest := [.int (nI (Ic 6))]) C S hl eL rfl (L_size Z.2.2.2.2.2.2.1) (cwV 0 C.2.2.2.2 gX4_back_Jx4a65c_size_8abf5 rfl rfl rfl (by decide +kernel) ⟨Nat.le_of_ble_eq_true rfl, Nat.le_of_ble_eq_true rfl⟩) rfl rfl (Nat.le_of_ble_eq_true rfl) ⟨Nat.le_of_ble_eq_true rfl, Nat.le_of_ble_eq_true rfl⟩ dX4_back_15 (fun v hv => ?_)
    subst hv
    refine q_le (tgt := 23) C (by omega) (by omega) dX4_back_18 (by decide) (fun c18 => ?_) (fun c18 => ?_)
    · have hskj := hsk (Ic 6 - 1) (by omega)
      refine lv_aload_n C.1 C.2.1 dX4_back_23 rfl (lv_at hl 0 rfl) ?_
      refine lv_dup C.1 C.2.1 dX4_back_24 rfl ?_
      refine o_get (v := .int (nI (Ic 6))) C S Z.2.1 rfl inX4_back_X4 6 (Nat.le_of_ble_eq_true rfl) lkX4_back_44 rfl dX4_back_25 ?_
      refine lv_iconst (v := nI 1) C.1 C.2.1 dX4_back_28 (by decide) ?_
      refine q_isub C (by omega) dX4_back_29 ?_
      refine o_puti C S Z.2.1 (fw_fr_rf _ 3400 (3400 + 8)) rfl inX4_back_X4 tyX4 tyX4_ok nmX4 6 (Nat.le_of_ble_eq_true rfl) rfl lkX4_back_44 rfl rfl ⟨by decide, by decide⟩ dX4_back_30 (fun f H locs S O1 F1 => ?_)
      have Z := CL_c Z F1 O1
      refine lv_aload_n C.1 C.2.1 dX4_back_33 rfl (lv_at hl 0 rfl) ?_
      refine o_get (v := .ref (aC 0)) C S Z.2.1 rfl inX4_back_X4 0 (Nat.le_of_ble_eq_true rfl) lkX4_back_10 rfl dX4_back_34 ?_
      refine lv_aload_n C.1 C.2.1 dX4_back_37 rfl (lv_at hl 0 rfl) ?_
      refine o_get (v := .ref (aC 4)) C S Z.2.1 rfl inX4_back_X4 4 (Nat.le_of_ble_eq_true rfl) lkX4_back_37 rfl dX4_back_38 ?_
      refine lv_aload_n C.1 C.2.1 dX4_back_41 rfl (lv_at hl 0 rfl) ?_
      refine o_get (v := .int (nI ((Ic 6) - 1))) C S Z.2.1 rfl inX4_back_X4 6 (Nat.le_of_ble_eq_true rfl) lkX4_back_44 rfl dX4_back_42 ?_
      obtain ⟨fsL, eL⟩ := isL_sz Z.2.2.2.2.2.2.1
      refine q_callSq (As := [.int (nI ((Ic 6) - 1))]) (rest := [.ref (aC 0)]) C S hl eL rfl (L_get Z.2.2.2.2.2.2.1 ((Ic 6) - 1) (by omega)) (cwV 1 C.2.2.2.2 gX4_back_Jx4a65c_get_915e3 rfl rfl rfl (by decide +kernel) ⟨Nat.le_of_ble_eq_true rfl, Nat.le_of_ble_eq_true rfl⟩) rfl rfl (Nat.le_of_ble_eq_true rfl) ⟨Nat.le_of_ble_eq_true rfl, Nat.le_of_ble_eq_true rfl⟩ dX4_back_45 (fun v hv => ?_)
      subst hv
      show W _ _ _ _ _ _ _ _ _ _ _ _ _ _ _ (F0 _ _ _ (.ref (M ((Ic 6) - 1)).1 :: _))
      obtain ⟨Om, hm64, hmL⟩ := Z.2.2.2.2.2.2.2.1 ((Ic 6) - 1) (by omega)
      refine va_castY C.1 C.2.1 C.2.2.2.1 (C.2.2.2.2 _ (List.mem_of_getElem? (i := 4) rfl)) S.2.2.2.1.2.2.2.1.2.2.1 (q_recv S Om.1 rfl) dX4_back_48 ?_
      refine q_callQv (As := [.ref ((M ((Ic 6) - 1)).1)]) (rest := []) C S hl Z.2.2.1.1 rfl (c_copyFrom Z.2.2.1 Om (Or.inr (by omega)) hm64 hL hmL) (cwV 1 C.2.2.2.2 gX4_back_X1_copyFrom rfl rfl rfl (by decide +kernel) ⟨Nat.le_of_ble_eq_true rfl, Nat.le_of_ble_eq_true rfl⟩) rfl rfl (Nat.le_of_ble_eq_true rfl) ⟨Nat.le_of_ble_eq_true rfl, Nat.le_of_ble_eq_true rfl⟩ dX4_back_51 (fun f H locs hv S => ?_)
      obtain ⟨N7, B7, J7, O7, hs7, hl7, F1⟩ := hv
      have Z := CL_n Z F1 O7
      refine lv_aload_n C.1 C.2.1 dX4_back_54 rfl (lv_at hl 0 rfl) ?_
      refine o_get (v := .ref (aC 2)) C S Z.2.1 rfl inX4_back_X4 2 (Nat.le_of_ble_eq_true rfl) lkX4_back_26 rfl dX4_back_55 ?_
      obtain ⟨fsL, eL⟩ := isL_sz Z.2.2.2.2.2.1.1
      refine q_callSi (As := []) (rest := []) C S hl eL rfl (L_size Z.2.2.2.2.2.1.1) (cwV 0 C.2.2.2.2 gX4_back_Jx4a65c_size_8abf5 rfl rfl rfl (by decide +kernel) ⟨Nat.le_of_ble_eq_true rfl, Nat.le_of_ble_eq_true rfl⟩) rfl rfl (Nat.le_of_ble_eq_true rfl) ⟨Nat.le_of_ble_eq_true rfl, Nat.le_of_ble_eq_true rfl⟩ dX4_back_58 (fun v hv => ?_)
      subst hv
      refine lv_iconst (v := nI 1) C.1 C.2.1 dX4_back_61 (by decide) ?_
      refine lv_isub C.1 C.2.1 dX4_back_62 ?_
      rw [nI_sub1]
      refine lv_istore_n (lv' := [(1, .int (mI kn)), (0, .ref hc)]) C.1 C.2.1 dX4_back_63 rfl hl (by decide) rfl (fun ls hl => ?_)
      have lp64 : ∀ (n64 : Nat) (z : Nat), z < n64 → (z ≤ kn) → (Nc 5 (Ic 6 - 1) ≤ z) → ∀ (f : fw_F) (H : Heap) (locs : List Loc) (ls : Array Slot), fw_S G A s f H locs → CL G f0 f hc aC an ar as_ (va_up In 0 ((M (Ic 6 - 1)).2.2.1 0)) N7 B7 J7 Ir Nr Br Jr Is Ns Bs Js (va_up Ic 6 ((Ic 6) - 1)) Nc z K mn M → lv_has ls 2 [(1, .int (mI z)), (0, .ref hc)] → W p l e ({ frames := 3, cells := 0, slots := 0, locals := 66 }) s m [.ref hc].toArray below meth c H locs 0 0 (MQ below (va_Qi (fun (r : Int32) (f1 : fw_F) => Ic 6 = 0 ∧ r = -1 ∧ CL G f0 f1 hc aC an ar as_ In Nn Bn Jn Ir Nr Br Jr Is Ns Bs Js Ic Nc kn K mn M ∨ 0 < Ic 6 ∧ r = nI (Ic 6 - 1) ∧ ∃ N7 B7 J7 c, smN ((M (Ic 6 - 1)).2.2.1 0) N7 B7 J7 (M (Ic 6 - 1)).2.2.2.1 (M (Ic 6 - 1)).2.2.2.2.1 (M (Ic 6 - 1)).2.2.2.2.2 ∧ (∀ i, N7 1 i < 64) ∧ c ≤ Ir 0 ∧ (∀ i, i < c → Nr 1 i < (M (Ic 6 - 1)).2.2.1 0) ∧ (c < Ir 0 → (M (Ic 6 - 1)).2.2.1 0 ≤ Nr 1 c) ∧ CL G f0 f1 hc aC an ar as_ (va_up In 0 ((M (Ic 6 - 1)).2.2.1 0)) N7 B7 J7 (va_up Ir 0 c) Nr Br Jr (va_up (va_up Is 1 0) 2 0) Ns Bs Js (va_up Ic 6 (Ic 6 - 1)) Nc (Nc 5 (Ic 6 - 1)) K mn M) (fw_B G A) A) [.ref hc].toArray s 0 0 A) (F0 m 64 ls []) := by
        intro n64
        induction n64 with
        | zero => intro z hme64; exact absurd hme64 (Nat.not_lt_zero _)
        | succ n64 ih64 =>
          intro z hme64 hz hz2 f H locs ls S Z hl
          refine lv_iload_n C.1 C.2.1 dX4_back_64 rfl (lv_at hl 0 rfl) ?_
          refine lv_aload_n C.1 C.2.1 dX4_back_65 rfl (lv_at hl 1 rfl) ?_
          refine o_get (v := .ref (aC 5)) C S Z.2.1 rfl inX4_back_X4 5 (Nat.le_of_ble_eq_true rfl) lkX4_back_40 rfl dX4_back_66 ?_
          refine lv_aload_n C.1 C.2.1 dX4_back_69 rfl (lv_at hl 1 rfl) ?_
          refine o_get (v := .int (nI ((Ic 6) - 1))) C S Z.2.1 rfl inX4_back_X4 6 (Nat.le_of_ble_eq_true rfl) lkX4_back_44 rfl dX4_back_70 ?_
          refine o_nald (x := (Nc 5) ((Ic 6) - 1)) C S Z.2.1 5 (Nat.le_of_ble_eq_true rfl) rfl ((Ic 6) - 1) rfl (show ((Ic 6) - 1) < 40 from by first | omega | exact hL _ | exact hP _ | exact hF _) (Nat.le_of_ble_eq_true rfl) rfl dX4_back_73 ?_
          refine lv_icmp_lt (tgt := 92) C.1 C.2.1 dX4_back_74 (by decide) (fun c74 => ?_) (fun c74 => ?_)
          · have c74 := (mI_ltn (by omega) (by omega)).mp c74
            obtain rfl : z = Nc 5 (Ic 6 - 1) := by omega
            refine lv_aload_n C.1 C.2.1 dX4_back_92 rfl (lv_at hl 1 rfl) ?_
            refine o_get (v := .ref (aC 1)) C S Z.2.1 rfl inX4_back_X4 1 (Nat.le_of_ble_eq_true rfl) lkX4_back_19 rfl dX4_back_93 ?_
            refine lv_aload_n C.1 C.2.1 dX4_back_96 rfl (lv_at hl 1 rfl) ?_
            refine o_get (v := .ref (aC 0)) C S Z.2.1 rfl inX4_back_X4 0 (Nat.le_of_ble_eq_true rfl) lkX4_back_10 rfl dX4_back_97 ?_
            refine q_callQv (As := [.ref (aC 0)]) (rest := []) C S hl Z.2.2.2.1.1 rfl (c_cut Z.2.2.2.1 Z.2.2.1 (by decide) hm (by rw [up_s]; exact hm64) hPr) (cwV 1 C.2.2.2.2 gX4_back_X2_cutAtFirstGone rfl rfl rfl (by decide +kernel) ⟨Nat.le_of_ble_eq_true rfl, Nat.le_of_ble_eq_true rfl⟩) rfl rfl (Nat.le_of_ble_eq_true rfl) ⟨Nat.le_of_ble_eq_true rfl, Nat.le_of_ble_eq_true rfl⟩ dX4_back_100 (fun f H locs hv S => ?_)
            obtain ⟨cq, hq1, hq2, hq3, O1, F1⟩ := hv
            rw [up_s] at hq2 hq3
            have Z := CL_r Z F1 O1
            refine lv_aload_n C.1 C.2.1 dX4_back_103 rfl (lv_at hl 1 rfl) ?_
            refine o_get (v := .ref (aC 3)) C S Z.2.1 rfl inX4_back_X4 3 (Nat.le_of_ble_eq_true rfl) lkX4_back_33 rfl dX4_back_104 ?_
            refine q_callQv (As := []) (rest := []) C S hl Z.2.2.2.2.1.1 rfl (c_endWays Z.2.2.2.2.1) (cwV 0 C.2.2.2.2 gX4_back_X3_endWays rfl rfl rfl (by decide +kernel) ⟨Nat.le_of_ble_eq_true rfl, Nat.le_of_ble_eq_true rfl⟩) rfl rfl (Nat.le_of_ble_eq_true rfl) ⟨Nat.le_of_ble_eq_true rfl, Nat.le_of_ble_eq_true rfl⟩ dX4_back_107 (fun f H locs hv S => ?_)
            obtain ⟨O1, F1⟩ := hv
            have Z := CL_s Z F1 O1
            refine lv_aload_n C.1 C.2.1 dX4_back_110 rfl (lv_at hl 1 rfl) ?_
            refine o_get (v := .int (nI ((Ic 6) - 1))) C S Z.2.1 rfl inX4_back_X4 6 (Nat.le_of_ble_eq_true rfl) lkX4_back_44 rfl dX4_back_111 ?_
            exact q_retQi C S hr hlk (Or.inr ⟨c4, rfl, N7, B7, J7, cq, hs7, hl7, hq1, hq2, hq3, Z⟩) dX4_back_114
          · have c74 : ¬ z ≤ Nc 5 (Ic 6 - 1) := fun q => c74 ((mI_ltn (by omega) (by omega)).mpr q)
            obtain ⟨z1, rfl⟩ : ∃ z1, z = z1 + 1 := ⟨z - 1, by omega⟩
            rw [mI_s] at hl
            refine lv_aload_n C.1 C.2.1 dX4_back_77 rfl (lv_at hl 1 rfl) ?_
            refine o_get (v := .ref (aC 2)) C S Z.2.1 rfl inX4_back_X4 2 (Nat.le_of_ble_eq_true rfl) lkX4_back_26 rfl dX4_back_78 ?_
            refine lv_iload_n C.1 C.2.1 dX4_back_81 rfl (lv_at hl 0 rfl) ?_
            obtain ⟨md, qL, cap, go, e0, D, hnc, hc96, hg1, hg2⟩ := Z.2.2.2.2.2.1.1
            obtain ⟨e1, hc0⟩ := D.resolve_left (fun q => by omega)
            refine q_callQr (As := [.int (nI z1)]) (rest := []) C S hl e0 rfl (l_remove e0 e1 z1 rfl hnc (by omega) (hg1 z1 (by omega))) (cwV 1 C.2.2.2.2 gX4_back_Jx4a65c_remove_915e3 rfl rfl rfl (by decide +kernel) ⟨Nat.le_of_ble_eq_true rfl, Nat.le_of_ble_eq_true rfl⟩) rfl rfl (Nat.le_of_ble_eq_true rfl) ⟨Nat.le_of_ble_eq_true rfl, Nat.le_of_ble_eq_true rfl⟩ dX4_back_82 (fun x f H locs hv S => ?_)
            obtain ⟨h1, h2, F1⟩ := hv
            have Z := CL_k Z F1 (KS_rm Z.2.2.2.2.2.1 F1 (L_rm h1 h2 hnc hc96 hg1 hg2))
            refine lv_pop C.1 C.2.1 dX4_back_85 rfl ?_
            refine lv_iinc (v := mI z1) (lv' := [(1, .int (mI z1)), (0, .ref hc)]) C.1 C.2.1 dX4_back_86 hl (k := 0) rfl (mI_dec z1) (by decide) rfl (fun ls hl => ?_)
            refine lv_goto (tgt := 64) C.1 C.2.1 dX4_back_89 (by decide) ?_
            exact ih64 z1 (by omega) (by omega) (by omega) _ _ _ _ S Z (lv_sub hl [0, 1] rfl)
      exact lp64 (kn + 1) kn (by omega) (Nat.le_refl _) hskj _ _ _ _ S Z (lv_sub hl [0, 1] rfl)
    · exact absurd c18 (by omega)
theorem inX4_init_X1 : ∀ w ∈ u_ws RX1 TX1 7, w ∈ wsX4_init := (fun _ h => (List.mem_cons_of_mem _ (List.mem_append_left _ (List.mem_append_left _ (List.mem_append_left _ (List.mem_append_left _ (List.mem_append_right _ h)))))))
theorem inX4_init_X4 : ∀ w ∈ u_ws RX4 TX4 7, w ∈ wsX4_init := (fun _ h => (List.mem_cons_of_mem _ (List.mem_append_left _ (List.mem_append_left _ (List.mem_append_left _ (List.mem_append_right _ h))))))
theorem inX4_init_X2 : ∀ w ∈ u_ws RX2 TX2 3, w ∈ wsX4_init := (fun _ h => (List.mem_cons_of_mem _ (List.mem_append_left _ (List.mem_append_left _ (List.mem_append_right _ h)))))
theorem inX4_init_Jx4a65c : ∀ w ∈ u_ws RJx4a65c TJx4a65c 3, w ∈ wsX4_init := (fun _ h => (List.mem_cons_of_mem _ (List.mem_append_left _ (List.mem_append_right _ h))))
theorem inX4_init_X3 : ∀ w ∈ u_ws RX3 TX3 6, w ∈ wsX4_init := (fun _ h => (List.mem_cons_of_mem _ (List.mem_append_right _ h)))
set_option maxHeartbeats 4000000 in
set_option maxRecDepth 100000 in
theorem p_init {l : Launch} {G : fw_G} {A : Nat → Prop} {f0 : fw_F}   {hc : Nat} (eC : f0 hc = some (3400, eB 5 [.null, .null, .null, .null, .null, .null, .int 0]))  : Met l yX4_init wsX4_init ({ frames := 4, cells := 17, slots := 2202, locals := 72 }) (va_Pc [.ref hc] (fw_P G A f0)) (va_Qv (fun (f1 : fw_F) => ∃ aC an ar as_, CL G f0 f1 hc aC an ar as_ (fun _ => 0) (fun _ _ => 0) (fun _ _ => false) (fun _ _ => 0) (fun _ => 0) (fun _ _ => 0) (fun _ _ => false) (fun _ _ => 0) (fun _ => 0) (fun _ _ => 0) (fun _ _ => false) (fun _ _ => 0) (fun _ => 0) (fun _ _ => 0) 0 (fun _ => (0, 0, 0, 0, (fun _ => 0), (fun _ => 0))) 0 (fun _ => (0, (fun _ => 0), (fun _ => 0), (fun _ _ => 0), (fun _ _ => false), (fun _ _ => 0)))) (fw_B G A) A) 17 2202 A := by
  refine q_head rfl (by decide) (Nat.le_of_ble_eq_true rfl) ?_
  intro p e s m below meth c ls C hr hlk hnm P hl
  have S := P.start
  have hl : lv_has ls 1 [(0, .ref hc)] := hl
  have F := fw_fr_rf f0 3000 100000
  refine lv_aload_n C.1 C.2.1 dX4_init_0 rfl (lv_at hl 0 rfl) ?_
  refine W.objInit C.1 C.2.1 C.2.2.2.1 (C.2.2.2.2 _ (List.mem_of_getElem? (i := 1) rfl)) (C.2.2.2.2 _ (List.mem_of_getElem? (i := 2) rfl)) (C.2.2.2.2 _ (List.mem_of_getElem? (i := 3) rfl)) rfl (by rw [C.2.2.1]; exact hl.1) rfl dX4_init_1 (Nat.le_of_ble_eq_true rfl) (Nat.le_of_ble_eq_true rfl) ?_
  refine W.eq (g2 := F0 m 4 ls []) rfl ?_
  refine lv_aload_n C.1 C.2.1 dX4_init_4 rfl (lv_at hl 0 rfl) ?_
  refine q_new C S (ci := 2) rfl inX4_init_X1 tyX1 tyX1_ok (List.mem_of_getElem? (i := 4) rfl) (List.mem_of_getElem? (i := 5) rfl) (List.mem_of_getElem? (i := 6) rfl) 3100 (fs := [.int 0, .null, .null, .null, .null, .null, .null]) (fun j hj => match j, hj with | 0, _ => rfl | 1, _ => rfl | 2, _ => rfl | 3, _ => rfl | 4, _ => rfl | 5, _ => rfl | 6, _ => rfl | n + 7, h => absurd h (Nat.not_lt.mpr (Nat.le_add_left _ _))) (Nat.le_of_ble_eq_true rfl) (Nat.le_of_ble_eq_true rfl) dX4_init_5 (fun h1 H hq S => ?_)
  obtain ⟨f, S, hex, hO⟩ : ∃ f2, fw_S G A s f2 H _ ∧ fw_ex f0 f2 ∧ f2 h1 = some (3100, eB 2 [.int 0, .null, .null, .null, .null, .null, .null]) := ⟨_, S, fun y z hy => fw_new hy hq, fw_eq _ _ _⟩
  have F : fw_fr f0 f 3000 100000 := fun q i x hq hi => hex _ _ (F q i x hq hi)
  have eC := hex _ _ eC
  refine lv_dup C.1 C.2.1 dX4_init_8 rfl ?_
  refine q_callINv (As := []) (rest := [.ref h1, .ref hc]) C S hl (c_N_init hO) ⟨va_cnB 0 C.2.2.2.2 ggX4_init_X1_init rfl rfl rfl S.2.2.2.1.2.2.1.2.2 (C.2.2.2.2 _ (List.mem_of_getElem? (i := 6) rfl)) (by decide +kernel) ⟨Nat.le_of_ble_eq_true rfl, Nat.le_of_ble_eq_true rfl⟩, rfl, (C.2.2.2.2 _ (List.mem_of_getElem? (i := 24) rfl))⟩ rfl rfl (Nat.le_of_ble_eq_true rfl) ⟨Nat.le_of_ble_eq_true rfl, Nat.le_of_ble_eq_true rfl⟩ dX4_init_9 (fun f H locs hv S => ?_)
  obtain ⟨a1, O1, F1⟩ := hv
  have F := fw_fr_tr F (fw_fr_wd F1 (lo' := 3000) (hi' := 100000) (by decide) (by decide))
  have eC := F1 _ _ _ eC (by decide)
  refine q_putF (v := .ref h1) C S eC rfl inX4_init_X4 tyX4 tyX4_ok nmX4 0 (by decide) (List.mem_of_getElem? (i := 7) rfl) rfl hnm rfl rfl rfl (Nat.le_of_ble_eq_true rfl) dX4_init_12 (fun H locs S => ?_)
  obtain ⟨f, S, F1, eC⟩ : ∃ f2, fw_S G A s f2 H locs ∧ fw_fr f f2 3400 3401 ∧ f2 hc = some (3400, eB 5 [.ref h1, .null, .null, .null, .null, .null, .int 0]) := ⟨_, S, fw_fr_up (fw_fr_rf _ _ _) eC (by decide) (by decide), fw_eq _ _ _⟩
  have F := fw_fr_tr F (fw_fr_wd F1 (lo' := 3000) (hi' := 100000) (by decide) (by decide))
  have O1 := o_fr O1 F1 (by decide)
  refine lv_aload_n C.1 C.2.1 dX4_init_15 rfl (lv_at hl 0 rfl) ?_
  refine q_new C S (ci := 3) rfl inX4_init_X2 tyX2 tyX2_ok (List.mem_of_getElem? (i := 8) rfl) (List.mem_of_getElem? (i := 9) rfl) (List.mem_of_getElem? (i := 10) rfl) 3200 (fs := [.int 0, .null, .null]) (fun j hj => match j, hj with | 0, _ => rfl | 1, _ => rfl | 2, _ => rfl | n + 3, h => absurd h (Nat.not_lt.mpr (Nat.le_add_left _ _))) (Nat.le_of_ble_eq_true rfl) (Nat.le_of_ble_eq_true rfl) dX4_init_16 (fun h2 H hq S => ?_)
  obtain ⟨f, S, hex, hO⟩ : ∃ f2, fw_S G A s f2 H _ ∧ fw_ex f f2 ∧ f2 h2 = some (3200, eB 3 [.int 0, .null, .null]) := ⟨_, S, fun y z hy => fw_new hy hq, fw_eq _ _ _⟩
  have F : fw_fr f0 f 3000 100000 := fun q i x hq hi => hex _ _ (F q i x hq hi)
  have eC := hex _ _ eC
  have O1 := o_ex O1 hex
  refine lv_dup C.1 C.2.1 dX4_init_19 rfl ?_
  refine q_callINv (As := []) (rest := [.ref h2, .ref hc]) C S hl (c_R_init hO) ⟨va_cnB 0 C.2.2.2.2 ggX4_init_X2_init rfl rfl rfl S.2.2.2.1.2.2.1.1 (C.2.2.2.2 _ (List.mem_of_getElem? (i := 10) rfl)) (by decide +kernel) ⟨Nat.le_of_ble_eq_true rfl, Nat.le_of_ble_eq_true rfl⟩, rfl, (C.2.2.2.2 _ (List.mem_of_getElem? (i := 35) rfl))⟩ rfl rfl (Nat.le_of_ble_eq_true rfl) ⟨Nat.le_of_ble_eq_true rfl, Nat.le_of_ble_eq_true rfl⟩ dX4_init_20 (fun f H locs hv S => ?_)
  obtain ⟨a2, O2, F1⟩ := hv
  have F := fw_fr_tr F (fw_fr_wd F1 (lo' := 3000) (hi' := 100000) (by decide) (by decide))
  have eC := F1 _ _ _ eC (by decide)
  have O1 := o_fr O1 F1 (by decide)
  refine q_putF (v := .ref h2) C S eC rfl inX4_init_X4 tyX4 tyX4_ok nmX4 1 (by decide) (List.mem_of_getElem? (i := 11) rfl) rfl hnm rfl rfl rfl (Nat.le_of_ble_eq_true rfl) dX4_init_23 (fun H locs S => ?_)
  obtain ⟨f, S, F1, eC⟩ : ∃ f2, fw_S G A s f2 H locs ∧ fw_fr f f2 3400 3401 ∧ f2 hc = some (3400, eB 5 [.ref h1, .ref h2, .null, .null, .null, .null, .int 0]) := ⟨_, S, fw_fr_up (fw_fr_rf _ _ _) eC (by decide) (by decide), fw_eq _ _ _⟩
  have F := fw_fr_tr F (fw_fr_wd F1 (lo' := 3000) (hi' := 100000) (by decide) (by decide))
  have O1 := o_fr O1 F1 (by decide)
  have O2 := o_fr O2 F1 (by decide)
  refine lv_aload_n C.1 C.2.1 dX4_init_26 rfl (lv_at hl 0 rfl) ?_
  refine q_new C S (ci := 0) rfl inX4_init_Jx4a65c tyJx4a65c tyJx4a65c_ok (List.mem_of_getElem? (i := 12) rfl) (List.mem_of_getElem? (i := 13) rfl) (List.mem_of_getElem? (i := 14) rfl) 3500 (fs := [.int 0, .null, .int 0]) (fun j hj => match j, hj with | 0, _ => rfl | 1, _ => rfl | 2, _ => rfl | n + 3, h => absurd h (Nat.not_lt.mpr (Nat.le_add_left _ _))) (Nat.le_of_ble_eq_true rfl) (Nat.le_of_ble_eq_true rfl) dX4_init_27 (fun h3 H hq S => ?_)
  obtain ⟨f, S, hex, hO⟩ : ∃ f2, fw_S G A s f2 H _ ∧ fw_ex f f2 ∧ f2 h3 = some (3500, eB 0 [.int 0, .null, .int 0]) := ⟨_, S, fun y z hy => fw_new hy hq, fw_eq _ _ _⟩
  have F : fw_fr f0 f 3000 100000 := fun q i x hq hi => hex _ _ (F q i x hq hi)
  have eC := hex _ _ eC
  have O1 := o_ex O1 hex
  have O2 := o_ex O2 hex
  refine lv_dup C.1 C.2.1 dX4_init_30 rfl ?_
  refine q_callIv (As := []) (rest := [.ref h3, .ref hc]) C S hl (l_init hO) (cwI 0 C.2.2.2.2 gX4_init_Jx4a65c_init_da8c8 rfl rfl rfl (C.2.2.2.2 _ (List.mem_of_getElem? (i := 14) rfl)) (C.2.2.2.2 _ (List.mem_of_getElem? (i := 40) rfl)) (C.2.2.2.2 _ (List.mem_of_getElem? (i := 41) rfl)) rfl (by decide +kernel) ⟨Nat.le_of_ble_eq_true rfl, Nat.le_of_ble_eq_true rfl⟩) rfl rfl (Nat.le_of_ble_eq_true rfl) ⟨Nat.le_of_ble_eq_true rfl, Nat.le_of_ble_eq_true rfl⟩ dX4_init_31 (fun f H locs hv S => ?_)
  obtain ⟨eK, F1⟩ := hv
  have F := fw_fr_tr F (fw_fr_wd F1 (lo' := 3000) (hi' := 100000) (by decide) (by decide))
  have eC := F1 _ _ _ eC (by decide)
  have O1 := o_fr O1 F1 (by decide)
  have O2 := o_fr O2 F1 (by decide)
  refine q_putF (v := .ref h3) C S eC rfl inX4_init_X4 tyX4 tyX4_ok nmX4 2 (by decide) (List.mem_of_getElem? (i := 15) rfl) rfl hnm rfl rfl rfl (Nat.le_of_ble_eq_true rfl) dX4_init_34 (fun H locs S => ?_)
  obtain ⟨f, S, F1, eC⟩ : ∃ f2, fw_S G A s f2 H locs ∧ fw_fr f f2 3400 3401 ∧ f2 hc = some (3400, eB 5 [.ref h1, .ref h2, .ref h3, .null, .null, .null, .int 0]) := ⟨_, S, fw_fr_up (fw_fr_rf _ _ _) eC (by decide) (by decide), fw_eq _ _ _⟩
  have F := fw_fr_tr F (fw_fr_wd F1 (lo' := 3000) (hi' := 100000) (by decide) (by decide))
  have O1 := o_fr O1 F1 (by decide)
  have O2 := o_fr O2 F1 (by decide)
  have eK := F1 _ _ _ eK (by decide)
  refine lv_aload_n C.1 C.2.1 dX4_init_37 rfl (lv_at hl 0 rfl) ?_
  refine q_new C S (ci := 4) rfl inX4_init_X3 tyX3 tyX3_ok (List.mem_of_getElem? (i := 16) rfl) (List.mem_of_getElem? (i := 17) rfl) (List.mem_of_getElem? (i := 18) rfl) 3300 (fs := [.null, .int 0, .int 0, .int 0, .null, .null]) (fun j hj => match j, hj with | 0, _ => rfl | 1, _ => rfl | 2, _ => rfl | 3, _ => rfl | 4, _ => rfl | 5, _ => rfl | n + 6, h => absurd h (Nat.not_lt.mpr (Nat.le_add_left _ _))) (Nat.le_of_ble_eq_true rfl) (Nat.le_of_ble_eq_true rfl) dX4_init_38 (fun h4 H hq S => ?_)
  obtain ⟨f, S, hex, hO⟩ : ∃ f2, fw_S G A s f2 H _ ∧ fw_ex f f2 ∧ f2 h4 = some (3300, eB 4 [.null, .int 0, .int 0, .int 0, .null, .null]) := ⟨_, S, fun y z hy => fw_new hy hq, fw_eq _ _ _⟩
  have F : fw_fr f0 f 3000 100000 := fun q i x hq hi => hex _ _ (F q i x hq hi)
  have eC := hex _ _ eC
  have O1 := o_ex O1 hex
  have O2 := o_ex O2 hex
  have eK := hex _ _ eK
  refine lv_dup C.1 C.2.1 dX4_init_41 rfl ?_
  refine q_callINv (As := []) (rest := [.ref h4, .ref hc]) C S hl (c_S_init hO) ⟨va_cnB 0 C.2.2.2.2 ggX4_init_X3_init rfl rfl rfl S.2.2.2.1.2.2.1.2.1 (C.2.2.2.2 _ (List.mem_of_getElem? (i := 18) rfl)) (by decide +kernel) ⟨Nat.le_of_ble_eq_true rfl, Nat.le_of_ble_eq_true rfl⟩, rfl, (C.2.2.2.2 _ (List.mem_of_getElem? (i := 55) rfl))⟩ rfl rfl (Nat.le_of_ble_eq_true rfl) ⟨Nat.le_of_ble_eq_true rfl, Nat.le_of_ble_eq_true rfl⟩ dX4_init_42 (fun f H locs hv S => ?_)
  obtain ⟨a4, O4, F1⟩ := hv
  have F := fw_fr_tr F (fw_fr_wd F1 (lo' := 3000) (hi' := 100000) (by decide) (by decide))
  have eC := F1 _ _ _ eC (by decide)
  have O1 := o_fr O1 F1 (by decide)
  have O2 := o_fr O2 F1 (by decide)
  have eK := F1 _ _ _ eK (by decide)
  refine q_putF (v := .ref h4) C S eC rfl inX4_init_X4 tyX4 tyX4_ok nmX4 3 (by decide) (List.mem_of_getElem? (i := 19) rfl) rfl hnm rfl rfl rfl (Nat.le_of_ble_eq_true rfl) dX4_init_45 (fun H locs S => ?_)
  obtain ⟨f, S, F1, eC⟩ : ∃ f2, fw_S G A s f2 H locs ∧ fw_fr f f2 3400 3401 ∧ f2 hc = some (3400, eB 5 [.ref h1, .ref h2, .ref h3, .ref h4, .null, .null, .int 0]) := ⟨_, S, fw_fr_up (fw_fr_rf _ _ _) eC (by decide) (by decide), fw_eq _ _ _⟩
  have F := fw_fr_tr F (fw_fr_wd F1 (lo' := 3000) (hi' := 100000) (by decide) (by decide))
  have O1 := o_fr O1 F1 (by decide)
  have O2 := o_fr O2 F1 (by decide)
  have eK := F1 _ _ _ eK (by decide)
  have O4 := o_fr O4 F1 (by decide)
  refine lv_aload_n C.1 C.2.1 dX4_init_48 rfl (lv_at hl 0 rfl) ?_
  refine q_new C S (ci := 0) rfl inX4_init_Jx4a65c tyJx4a65c tyJx4a65c_ok (List.mem_of_getElem? (i := 12) rfl) (List.mem_of_getElem? (i := 13) rfl) (List.mem_of_getElem? (i := 14) rfl) 3510 (fs := [.int 0, .null, .int 0]) (fun j hj => match j, hj with | 0, _ => rfl | 1, _ => rfl | 2, _ => rfl | n + 3, h => absurd h (Nat.not_lt.mpr (Nat.le_add_left _ _))) (Nat.le_of_ble_eq_true rfl) (Nat.le_of_ble_eq_true rfl) dX4_init_49 (fun h5 H hq S => ?_)
  obtain ⟨f, S, hex, hO⟩ : ∃ f2, fw_S G A s f2 H _ ∧ fw_ex f f2 ∧ f2 h5 = some (3510, eB 0 [.int 0, .null, .int 0]) := ⟨_, S, fun y z hy => fw_new hy hq, fw_eq _ _ _⟩
  have F : fw_fr f0 f 3000 100000 := fun q i x hq hi => hex _ _ (F q i x hq hi)
  have eC := hex _ _ eC
  have O1 := o_ex O1 hex
  have O2 := o_ex O2 hex
  have eK := hex _ _ eK
  have O4 := o_ex O4 hex
  refine lv_dup C.1 C.2.1 dX4_init_52 rfl ?_
  refine q_callIv (As := []) (rest := [.ref h5, .ref hc]) C S hl (l_init hO) (cwI 0 C.2.2.2.2 gX4_init_Jx4a65c_init_da8c8 rfl rfl rfl (C.2.2.2.2 _ (List.mem_of_getElem? (i := 14) rfl)) (C.2.2.2.2 _ (List.mem_of_getElem? (i := 40) rfl)) (C.2.2.2.2 _ (List.mem_of_getElem? (i := 41) rfl)) rfl (by decide +kernel) ⟨Nat.le_of_ble_eq_true rfl, Nat.le_of_ble_eq_true rfl⟩) rfl rfl (Nat.le_of_ble_eq_true rfl) ⟨Nat.le_of_ble_eq_true rfl, Nat.le_of_ble_eq_true rfl⟩ dX4_init_53 (fun f H locs hv S => ?_)
  obtain ⟨eM, F1⟩ := hv
  have F := fw_fr_tr F (fw_fr_wd F1 (lo' := 3000) (hi' := 100000) (by decide) (by decide))
  have eC := F1 _ _ _ eC (by decide)
  have O1 := o_fr O1 F1 (by decide)
  have O2 := o_fr O2 F1 (by decide)
  have eK := F1 _ _ _ eK (by decide)
  have O4 := o_fr O4 F1 (by decide)
  refine q_putF (v := .ref h5) C S eC rfl inX4_init_X4 tyX4 tyX4_ok nmX4 4 (by decide) (List.mem_of_getElem? (i := 20) rfl) rfl hnm rfl rfl rfl (Nat.le_of_ble_eq_true rfl) dX4_init_56 (fun H locs S => ?_)
  obtain ⟨f, S, F1, eC⟩ : ∃ f2, fw_S G A s f2 H locs ∧ fw_fr f f2 3400 3401 ∧ f2 hc = some (3400, eB 5 [.ref h1, .ref h2, .ref h3, .ref h4, .ref h5, .null, .int 0]) := ⟨_, S, fw_fr_up (fw_fr_rf _ _ _) eC (by decide) (by decide), fw_eq _ _ _⟩
  have F := fw_fr_tr F (fw_fr_wd F1 (lo' := 3000) (hi' := 100000) (by decide) (by decide))
  have O1 := o_fr O1 F1 (by decide)
  have O2 := o_fr O2 F1 (by decide)
  have eK := F1 _ _ _ eK (by decide)
  have O4 := o_fr O4 F1 (by decide)
  have eM := F1 _ _ _ eM (by decide)
  refine lv_aload_n C.1 C.2.1 dX4_init_59 rfl (lv_at hl 0 rfl) ?_
  refine lv_bipush (v := nI 40) C.1 C.2.1 dX4_init_60 (by decide) ?_
  refine q_newN C S (List.mem_of_getElem? (i := 21) rfl) 3406 (n := 40) (by decide) (Nat.le_of_ble_eq_true rfl) (Nat.le_of_ble_eq_true rfl) dX4_init_62 (fun q6 H hq S => ?_)
  obtain ⟨f, S, hex, e6⟩ : ∃ f2, fw_S G A s f2 H _ ∧ fw_ex f f2 ∧ f2 q6 = some (3406, eN G 40 (fun _ => 0)) := ⟨_, S, fun y z hy => fw_new hy hq, fw_eq _ _ _⟩
  have F : fw_fr f0 f 3000 100000 := fun q i x hq hi => hex _ _ (F q i x hq hi)
  have eC := hex _ _ eC
  have O1 := o_ex O1 hex
  have O2 := o_ex O2 hex
  have eK := hex _ _ eK
  have O4 := o_ex O4 hex
  have eM := hex _ _ eM
  refine q_putF (v := .ref q6) C S eC rfl inX4_init_X4 tyX4 tyX4_ok nmX4 5 (by decide) (List.mem_of_getElem? (i := 22) rfl) rfl hnm rfl rfl rfl (Nat.le_of_ble_eq_true rfl) dX4_init_64 (fun H locs S => ?_)
  obtain ⟨f, S, F1, eC⟩ : ∃ f2, fw_S G A s f2 H locs ∧ fw_fr f f2 3400 3401 ∧ f2 hc = some (3400, eB 5 [.ref h1, .ref h2, .ref h3, .ref h4, .ref h5, .ref q6, .int 0]) := ⟨_, S, fw_fr_up (fw_fr_rf _ _ _) eC (by decide) (by decide), fw_eq _ _ _⟩
  have F := fw_fr_tr F (fw_fr_wd F1 (lo' := 3000) (hi' := 100000) (by decide) (by decide))
  have O1 := o_fr O1 F1 (by decide)
  have O2 := o_fr O2 F1 (by decide)
  have eK := F1 _ _ _ eK (by decide)
  have O4 := o_fr O4 F1 (by decide)
  have eM := F1 _ _ _ eM (by decide)
  have e6 := F1 _ _ _ e6 (by decide)
  refine lv_aload_n C.1 C.2.1 dX4_init_67 rfl (lv_at hl 0 rfl) ?_
  refine lv_iconst (v := nI 0) C.1 C.2.1 dX4_init_68 (by decide) ?_
  refine q_put (v := .int (nI 0)) C S eC rfl inX4_init_X4 tyX4 tyX4_ok nmX4 6 (by decide) (List.mem_of_getElem? (i := 23) rfl) rfl rfl rfl (Nat.le_of_ble_eq_true rfl) dX4_init_69 (fun H locs S => ?_)
  obtain ⟨f, S, F1, eC⟩ : ∃ f2, fw_S G A s f2 H locs ∧ fw_fr f f2 3400 3401 ∧ f2 hc = some (3400, eB 5 [.ref h1, .ref h2, .ref h3, .ref h4, .ref h5, .ref q6, .int (nI 0)]) := ⟨_, S, fw_fr_up (fw_fr_rf _ _ _) eC (by decide) (by decide), fw_eq _ _ _⟩
  have F := fw_fr_tr F (fw_fr_wd F1 (lo' := 3000) (hi' := 100000) (by decide) (by decide))
  have O1 := o_fr O1 F1 (by decide)
  have O2 := o_fr O2 F1 (by decide)
  have eK := F1 _ _ _ eK (by decide)
  have O4 := o_fr O4 F1 (by decide)
  have eM := F1 _ _ _ eM (by decide)
  have e6 := F1 _ _ _ e6 (by decide)
  exact q_retQv C S hr hlk ⟨(va_up (va_up (va_up (va_up (va_up (va_up (fun _ => 0) 0 h1) 1 h2) 2 h3) 3 h4) 4 h5) 5 q6), a1, a2, a4, F, ⟨eC, fun k hk => match k, hk with | 0, _ => ⟨fun q => absurd q (show ¬ (9 : Nat) = 1 by decide), fun q => absurd q (show ¬ (9 : Nat) = 2 by decide), fun q => absurd q (show ¬ (9 : Nat) = 3 by decide), fun q => absurd q (show ¬ (9 : Nat) = 5 by decide)⟩ | 1, _ => ⟨fun q => absurd q (show ¬ (9 : Nat) = 1 by decide), fun q => absurd q (show ¬ (9 : Nat) = 2 by decide), fun q => absurd q (show ¬ (9 : Nat) = 3 by decide), fun q => absurd q (show ¬ (9 : Nat) = 5 by decide)⟩ | 2, _ => ⟨fun q => absurd q (show ¬ (9 : Nat) = 1 by decide), fun q => absurd q (show ¬ (9 : Nat) = 2 by decide), fun q => absurd q (show ¬ (9 : Nat) = 3 by decide), fun q => absurd q (show ¬ (9 : Nat) = 5 by decide)⟩ | 3, _ => ⟨fun q => absurd q (show ¬ (9 : Nat) = 1 by decide), fun q => absurd q (show ¬ (9 : Nat) = 2 by decide), fun q => absurd q (show ¬ (9 : Nat) = 3 by decide), fun q => absurd q (show ¬ (9 : Nat) = 5 by decide)⟩ | 4, _ => ⟨fun q => absurd q (show ¬ (9 : Nat) = 1 by decide), fun q => absurd q (show ¬ (9 : Nat) = 2 by decide), fun q => absurd q (show ¬ (9 : Nat) = 3 by decide), fun q => absurd q (show ¬ (9 : Nat) = 5 by decide)⟩ | 5, _ => ⟨fun _ => e6, fun q => absurd q (show ¬ (1 : Nat) = 2 by decide), fun q => absurd q (show ¬ (1 : Nat) = 3 by decide), fun q => absurd q (show ¬ (1 : Nat) = 5 by decide)⟩ | 6, _ => ⟨fun q => absurd q (show ¬ (0 : Nat) = 1 by decide), fun q => absurd q (show ¬ (0 : Nat) = 2 by decide), fun q => absurd q (show ¬ (0 : Nat) = 3 by decide), fun q => absurd q (show ¬ (0 : Nat) = 5 by decide)⟩ | n + 7, hk => absurd hk (Nat.not_lt.mpr (Nat.le_add_left _ _))⟩, O1, O2, O4, ⟨⟨0, G.2.2, 0, fun _ => none, eK, Or.inl ⟨rfl, rfl⟩, Nat.le_refl _, by decide, fun i hi => absurd hi (Nat.not_lt_zero i), fun _ _ => rfl⟩, fun i hi => absurd hi (Nat.not_lt_zero i), by decide⟩, ⟨⟨0, G.2.2, 0, fun _ => none, eM, Or.inl ⟨rfl, rfl⟩, Nat.le_refl _, by decide, fun i hi => absurd hi (Nat.not_lt_zero i), fun _ _ => rfl⟩, fun i hi => absurd hi (Nat.not_lt_zero i), by decide⟩⟩ dX4_init_72
