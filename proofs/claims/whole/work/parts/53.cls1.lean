theorem inX4_allCompleteAreSo_X4 : ∀ w ∈ u_ws RX4 TX4 7, w ∈ wsX4_allCompleteAreSo := (fun _ h => (List.mem_cons_of_mem _ (List.mem_append_left _ (List.mem_append_left _ (List.mem_append_left _ (List.mem_append_right _ h))))))
theorem lkX4_allCompleteAreSo_26 : Cond.fieldLink RX4 26 (TX4 2).1 (TX4 2).2.1 (TX4 2).2.2.1 ∈ wsX4_allCompleteAreSo := List.mem_of_getElem? (i := 1) rfl
theorem lkX4_allCompleteAreSo_10 : Cond.fieldLink RX4 10 (TX4 0).1 (TX4 0).2.1 (TX4 0).2.2.1 ∈ wsX4_allCompleteAreSo := List.mem_of_getElem? (i := 3) rfl
set_option maxHeartbeats 4000000 in
set_option maxRecDepth 100000 in
theorem s_allComplete {l : Launch} {G : fw_G} {A : Nat → Prop} {f0 : fw_F} {hc : Nat} {aC an ar as_ : Nat → Nat} {In : Nat → Nat} {Nn : Nat → Nat → Nat} {Bn : Nat → Nat → Bool} {Jn : Nat → Nat → Int64} {Ir : Nat → Nat} {Nr : Nat → Nat → Nat} {Br : Nat → Nat → Bool} {Jr : Nat → Nat → Int64} {Is : Nat → Nat} {Ns : Nat → Nat → Nat} {Bs : Nat → Nat → Bool} {Js : Nat → Nat → Int64} {Ic : Nat → Nat} {Nc : Nat → Nat → Nat} {kn : Nat} {K : Nat → kRT} {mn : Nat} {M : Nat → sNT} (Z : CL G f0 f0 hc aC an ar as_ In Nn Bn Jn Ir Nr Br Jr Is Ns Bs Js Ic Nc kn K mn M) (hL : ∀ i, Nn 1 i < 64)  : Met l yX4_allCompleteAreSo wsX4_allCompleteAreSo ({ frames := 3, cells := 0, slots := 0, locals := 67 }) (va_Pc [.ref hc] (fw_P G A f0)) (vp_Si (fun (r : Int32) => r = bI (allb (fun i => krC (Nn 1) (Bn 2) (Jn 3) (K i)) kn))) 0 0 (fun _ => False) := by
  refine q_head rfl (by decide) (Nat.le_of_ble_eq_true rfl) ?_
  intro p e s m below meth c ls C hr hlk hnm P hl
  have S := P.start
  have hl : lv_has ls 3 [(0, .ref hc)] := hl
  have hkn := Z.2.2.2.2.2.1.2.2
  refine lv_iconst (v := nI 0) C.1 C.2.1 dX4_allCompleteAreSo_0 (by decide) ?_
  refine lv_istore_n (lv' := [(1, .int (nI 0)), (0, .ref hc)]) C.1 C.2.1 dX4_allCompleteAreSo_1 rfl hl (by decide) rfl (fun ls hl => ?_)
  have lp2 : ∀ (n2 : Nat) (z : Nat), kn - z < n2 → (z ≤ kn) → (∀ i, i < z → krC (Nn 1) (Bn 2) (Jn 3) (K i) = true) → ∀ (ls : Array Slot), lv_has ls 3 [(1, .int (nI z)), (0, .ref hc)] → W p l e ({ frames := 3, cells := 0, slots := 0, locals := 67 }) s m [.ref hc].toArray below meth c s.heap [] 0 0 (MQ below (vp_Si (fun (r : Int32) => r = bI (allb (fun i => krC (Nn 1) (Bn 2) (Jn 3) (K i)) kn))) [.ref hc].toArray s 0 0 (fun _ => False)) (F0 m 2 ls []) := by
    intro n2
    induction n2 with
    | zero => intro z hme2; exact absurd hme2 (Nat.not_lt_zero _)
    | succ n2 ih2 =>
      intro z hme2 hz hq ls hl
      refine lv_iload_n C.1 C.2.1 dX4_allCompleteAreSo_2 rfl (lv_at hl 0 rfl) ?_
      refine lv_aload_n C.1 C.2.1 dX4_allCompleteAreSo_3 rfl (lv_at hl 1 rfl) ?_
      refine o_get (v := .ref (aC 2)) C S Z.2.1 rfl inX4_allCompleteAreSo_X4 2 (Nat.le_of_ble_eq_true rfl) lkX4_allCompleteAreSo_26 rfl dX4_allCompleteAreSo_4 ?_
      obtain ⟨fsL, eL⟩ := isL_sz Z.2.2.2.2.2.1.1
      refine q_callSi (As := []) (rest := [.int (nI z)]) C S hl eL rfl (L_size Z.2.2.2.2.2.1.1) (cwV 0 C.2.2.2.2 gX4_allCompleteAreSo_Jx4a65c_size_8abf5 rfl rfl rfl (by decide +kernel) ⟨Nat.le_of_ble_eq_true rfl, Nat.le_of_ble_eq_true rfl⟩) rfl rfl (Nat.le_of_ble_eq_true rfl) ⟨Nat.le_of_ble_eq_true rfl, Nat.le_of_ble_eq_true rfl⟩ dX4_allCompleteAreSo_7 (fun v hv => ?_)
      subst hv
      refine q_ge (tgt := 55) C (by omega) (by omega) dX4_allCompleteAreSo_10 (by decide) (fun c10 => ?_) (fun c10 => ?_)
      · refine lv_iconst (v := nI 1) C.1 C.2.1 dX4_allCompleteAreSo_55 (by decide) ?_
        exact q_retSz (b := true) C hr hlk rfl (by show bI true = bI _; rw [allb_t (fun i hi => hq i (by omega))]) dX4_allCompleteAreSo_56
      · refine lv_aload_n C.1 C.2.1 dX4_allCompleteAreSo_13 rfl (lv_at hl 1 rfl) ?_
        refine o_get (v := .ref (aC 2)) C S Z.2.1 rfl inX4_allCompleteAreSo_X4 2 (Nat.le_of_ble_eq_true rfl) lkX4_allCompleteAreSo_26 rfl dX4_allCompleteAreSo_14 ?_
        refine lv_iload_n C.1 C.2.1 dX4_allCompleteAreSo_17 rfl (lv_at hl 0 rfl) ?_
        obtain ⟨fsL, eL⟩ := isL_sz Z.2.2.2.2.2.1.1
        refine q_callSq (As := [.int (nI z)]) (rest := []) C S hl eL rfl (L_get Z.2.2.2.2.2.1.1 z (by omega)) (cwV 1 C.2.2.2.2 gX4_allCompleteAreSo_Jx4a65c_get_915e3 rfl rfl rfl (by decide +kernel) ⟨Nat.le_of_ble_eq_true rfl, Nat.le_of_ble_eq_true rfl⟩) rfl rfl (Nat.le_of_ble_eq_true rfl) ⟨Nat.le_of_ble_eq_true rfl, Nat.le_of_ble_eq_true rfl⟩ dX4_allCompleteAreSo_18 (fun v hv => ?_)
        subst hv
        show W _ _ _ _ _ _ _ _ _ _ _ _ _ _ _ (F0 _ _ _ (.ref (K z).1 :: _))
        obtain ⟨⟨ak, Nk, Bk, Jk, Ok, hN1, hJ2, hJ3⟩, hw, hk2, hP⟩ := Z.2.2.2.2.2.1.2.1 z (by omega)
        have hP : ∀ j, Nk 1 j < 64 := by rw [hN1]; exact hP
        refine va_castY C.1 C.2.1 C.2.2.2.1 (C.2.2.2.2 _ (List.mem_of_getElem? (i := 2) rfl)) S.2.2.2.1.2.2.2.1.1 (q_recv S Ok.1 rfl) dX4_allCompleteAreSo_21 ?_
        refine lv_astore_n (lv' := [(2, .ref ((K z).1)), (1, .int (nI z)), (0, .ref hc)]) C.1 C.2.1 dX4_allCompleteAreSo_24 rfl hl (by decide) rfl (fun ls hl => ?_)
        refine lv_aload_n C.1 C.2.1 dX4_allCompleteAreSo_25 rfl (lv_at hl 0 rfl) ?_
        refine lv_aload_n C.1 C.2.1 dX4_allCompleteAreSo_26 rfl (lv_at hl 2 rfl) ?_
        refine o_get (v := .ref (aC 0)) C S Z.2.1 rfl inX4_allCompleteAreSo_X4 0 (Nat.le_of_ble_eq_true rfl) lkX4_allCompleteAreSo_10 rfl dX4_allCompleteAreSo_27 ?_
        refine q_callSi (As := [.ref (aC 0)]) (rest := []) C S hl Ok.1 rfl (c_countFree Ok Z.2.2.1 hw hP hL) (cwV 1 C.2.2.2.2 gX4_allCompleteAreSo_X0_countFree rfl rfl rfl (by decide +kernel) ⟨Nat.le_of_ble_eq_true rfl, Nat.le_of_ble_eq_true rfl⟩) rfl rfl (Nat.le_of_ble_eq_true rfl) ⟨Nat.le_of_ble_eq_true rfl, Nat.le_of_ble_eq_true rfl⟩ dX4_allCompleteAreSo_30 (fun v hv => ?_)
        rw [hN1] at hv
        have hv : v = nI (krF (Nn 1) (Bn 2) (K z)) := hv
        subst hv
        have hkF := krF_le (L := (Nn 1)) (B := (Bn 2)) (k := (K z))
        refine q_ifneN (tgt := 49) C (by omega) dX4_allCompleteAreSo_33 (by decide) (fun c33 => ?_) (fun c33 => ?_)
        · refine q_iinc (d := 1) (lv' := [(1, .int (nI (z + 1))), (2, .ref ((K z).1)), (0, .ref hc)]) C dX4_allCompleteAreSo_49 hl (k := 1) rfl (by decide) (by decide) rfl (fun ls hl => ?_)
          refine lv_goto (tgt := 2) C.1 C.2.1 dX4_allCompleteAreSo_52 (by decide) ?_
          exact ih2 (z + 1) (by omega) (by omega) (fun i hi => by rcases Nat.lt_or_ge i z with q | q; exact hq i q; rw [show i = z by omega]; exact (krC_n c33)) _ (lv_sub hl [0, 2] rfl)
        · refine lv_aload_n C.1 C.2.1 dX4_allCompleteAreSo_36 rfl (lv_at hl 0 rfl) ?_
          refine lv_aload_n C.1 C.2.1 dX4_allCompleteAreSo_37 rfl (lv_at hl 2 rfl) ?_
          refine o_get (v := .ref (aC 0)) C S Z.2.1 rfl inX4_allCompleteAreSo_X4 0 (Nat.le_of_ble_eq_true rfl) lkX4_allCompleteAreSo_10 rfl dX4_allCompleteAreSo_38 ?_
          refine q_callSi (As := [.ref (aC 0)]) (rest := []) C S hl Ok.1 rfl (c_isSo Ok Z.2.2.1 hw hP hL hk2) (cwV 1 C.2.2.2.2 gX4_allCompleteAreSo_X0_isSo rfl rfl rfl (by decide +kernel) ⟨Nat.le_of_ble_eq_true rfl, Nat.le_of_ble_eq_true rfl⟩) rfl rfl (Nat.le_of_ble_eq_true rfl) ⟨Nat.le_of_ble_eq_true rfl, Nat.le_of_ble_eq_true rfl⟩ dX4_allCompleteAreSo_41 (fun v hv => ?_)
          rw [hN1, hJ2, hJ3] at hv
          have hv : v = bI (krS (Nn 1) (Jn 3) (K z)) := hv
          subst hv
          refine q_ifneB (tgt := 49) C dX4_allCompleteAreSo_44 (by decide) (fun c44 => ?_) (fun c44 => ?_)
          · refine q_iinc (d := 1) (lv' := [(1, .int (nI (z + 1))), (2, .ref ((K z).1)), (0, .ref hc)]) C dX4_allCompleteAreSo_49 hl (k := 1) rfl (by decide) (by decide) rfl (fun ls hl => ?_)
            refine lv_goto (tgt := 2) C.1 C.2.1 dX4_allCompleteAreSo_52 (by decide) ?_
            exact ih2 (z + 1) (by omega) (by omega) (fun i hi => by rcases Nat.lt_or_ge i z with q | q; exact hq i q; rw [show i = z by omega]; exact (by rw [krC_z c33]; exact c44)) _ (lv_sub hl [0, 2] rfl)
          · refine lv_iconst (v := nI 0) C.1 C.2.1 dX4_allCompleteAreSo_47 (by decide) ?_
            exact q_retSz (b := false) C hr hlk rfl (by show bI false = bI _; rw [allb_f (i := z) (by omega) (by rw [krC_z c33]; exact c44)]) dX4_allCompleteAreSo_48
  exact lp2 (kn + 1) 0 (by omega) (by omega) (fun i hi => absurd hi (Nat.not_lt_zero i)) _ (lv_sub hl [0, 1] rfl)
theorem inX4_countRowsWith_X4 : ∀ w ∈ u_ws RX4 TX4 7, w ∈ wsX4_countRowsWith := (fun _ h => (List.mem_cons_of_mem _ (List.mem_append_left _ (List.mem_append_left _ (List.mem_append_left _ (List.mem_append_right _ h))))))
theorem lkX4_countRowsWith_26 : Cond.fieldLink RX4 26 (TX4 2).1 (TX4 2).2.1 (TX4 2).2.2.1 ∈ wsX4_countRowsWith := List.mem_of_getElem? (i := 1) rfl
theorem lkX4_countRowsWith_10 : Cond.fieldLink RX4 10 (TX4 0).1 (TX4 0).2.1 (TX4 0).2.2.1 ∈ wsX4_countRowsWith := List.mem_of_getElem? (i := 3) rfl
set_option maxHeartbeats 4000000 in
set_option maxRecDepth 100000 in
theorem s_countRows {l : Launch} {G : fw_G} {A : Nat → Prop} {f0 : fw_F} {hc : Nat} {aC an ar as_ : Nat → Nat} {In : Nat → Nat} {Nn : Nat → Nat → Nat} {Bn : Nat → Nat → Bool} {Jn : Nat → Nat → Int64} {Ir : Nat → Nat} {Nr : Nat → Nat → Nat} {Br : Nat → Nat → Bool} {Jr : Nat → Nat → Int64} {Is : Nat → Nat} {Ns : Nat → Nat → Nat} {Bs : Nat → Nat → Bool} {Js : Nat → Nat → Int64} {Ic : Nat → Nat} {Nc : Nat → Nat → Nat} {kn : Nat} {K : Nat → kRT} {mn : Nat} {M : Nat → sNT} (Z : CL G f0 f0 hc aC an ar as_ In Nn Bn Jn Ir Nr Br Jr Is Ns Bs Js Ic Nc kn K mn M) (x : Nat) (hx : x < 64) (hL : ∀ i, Nn 1 i < 64)  : Met l yX4_countRowsWith wsX4_countRowsWith ({ frames := 3, cells := 0, slots := 0, locals := 64 }) (va_Pc [.ref hc, .int (nI x)] (fw_P G A f0)) (vp_Si (fun (r : Int32) => r = nI (cnt (fun i => krH (Nn 1) x (K i)) kn))) 0 0 (fun _ => False) := by
  refine q_head rfl (by decide) (Nat.le_of_ble_eq_true rfl) ?_
  intro p e s m below meth c ls C hr hlk hnm P hl
  have S := P.start
  have hl : lv_has ls 4 [(0, .ref hc), (1, .int (nI x))] := hl
  have hkn := Z.2.2.2.2.2.1.2.2
  refine lv_iconst (v := nI 0) C.1 C.2.1 dX4_countRowsWith_0 (by decide) ?_
  refine lv_istore_n (lv' := [(2, .int (nI 0)), (0, .ref hc), (1, .int (nI x))]) C.1 C.2.1 dX4_countRowsWith_1 rfl hl (by decide) rfl (fun ls hl => ?_)
  refine lv_iconst (v := nI 0) C.1 C.2.1 dX4_countRowsWith_2 (by decide) ?_
  refine lv_istore_n (lv' := [(3, .int (nI 0)), (2, .int (nI 0)), (0, .ref hc), (1, .int (nI x))]) C.1 C.2.1 dX4_countRowsWith_3 rfl hl (by decide) rfl (fun ls hl => ?_)
  have lp4 : ∀ (n4 : Nat) (z : Nat) (q : Nat), kn - z < n4 → (z ≤ kn) → (q = cnt (fun i => krH (Nn 1) x (K i)) z) → ∀ (ls : Array Slot), lv_has ls 4 [(3, .int (nI z)), (2, .int (nI q)), (0, .ref hc), (1, .int (nI x))] → W p l e ({ frames := 3, cells := 0, slots := 0, locals := 64 }) s m [.ref hc, .int (nI x)].toArray below meth c s.heap [] 0 0 (MQ below (vp_Si (fun (r : Int32) => r = nI (cnt (fun i => krH (Nn 1) x (K i)) kn))) [.ref hc, .int (nI x)].toArray s 0 0 (fun _ => False)) (F0 m 4 ls []) := by
    intro n4
    induction n4 with
    | zero => intro z q hme4; exact absurd hme4 (Nat.not_lt_zero _)
    | succ n4 ih4 =>
      intro z q hme4 hz hq ls hl
      refine lv_iload_n C.1 C.2.1 dX4_countRowsWith_4 rfl (lv_at hl 0 rfl) ?_
      refine lv_aload_n C.1 C.2.1 dX4_countRowsWith_5 rfl (lv_at hl 2 rfl) ?_
      refine o_get (v := .ref (aC 2)) C S Z.2.1 rfl inX4_countRowsWith_X4 2 (Nat.le_of_ble_eq_true rfl) lkX4_countRowsWith_26 rfl dX4_countRowsWith_6 ?_
      obtain ⟨fsL, eL⟩ := isL_sz Z.2.2.2.2.2.1.1
      refine q_callSi (As := []) (rest := [.int (nI z)]) C S hl eL rfl (L_size Z.2.2.2.2.2.1.1) (cwV 0 C.2.2.2.2 gX4_countRowsWith_Jx4a65c_size_8abf5 rfl rfl rfl (by decide +kernel) ⟨Nat.le_of_ble_eq_true rfl, Nat.le_of_ble_eq_true rfl⟩) rfl rfl (Nat.le_of_ble_eq_true rfl) ⟨Nat.le_of_ble_eq_true rfl, Nat.le_of_ble_eq_true rfl⟩ dX4_countRowsWith_9 (fun v hv => ?_)
      subst hv
      refine q_ge (tgt := 46) C (by omega) (by omega) dX4_countRowsWith_12 (by decide) (fun c12 => ?_) (fun c12 => ?_)
      · refine lv_iload_n C.1 C.2.1 dX4_countRowsWith_46 rfl (lv_at hl 1 rfl) ?_
        exact q_retSi C hr hlk (by rw [hq, show z = kn by omega]) dX4_countRowsWith_47
      · refine lv_aload_n C.1 C.2.1 dX4_countRowsWith_15 rfl (lv_at hl 2 rfl) ?_
        refine o_get (v := .ref (aC 2)) C S Z.2.1 rfl inX4_countRowsWith_X4 2 (Nat.le_of_ble_eq_true rfl) lkX4_countRowsWith_26 rfl dX4_countRowsWith_16 ?_
        refine lv_iload_n C.1 C.2.1 dX4_countRowsWith_19 rfl (lv_at hl 0 rfl) ?_
        obtain ⟨fsL, eL⟩ := isL_sz Z.2.2.2.2.2.1.1
        refine q_callSq (As := [.int (nI z)]) (rest := []) C S hl eL rfl (L_get Z.2.2.2.2.2.1.1 z (by omega)) (cwV 1 C.2.2.2.2 gX4_countRowsWith_Jx4a65c_get_915e3 rfl rfl rfl (by decide +kernel) ⟨Nat.le_of_ble_eq_true rfl, Nat.le_of_ble_eq_true rfl⟩) rfl rfl (Nat.le_of_ble_eq_true rfl) ⟨Nat.le_of_ble_eq_true rfl, Nat.le_of_ble_eq_true rfl⟩ dX4_countRowsWith_20 (fun v hv => ?_)
        subst hv
        show W _ _ _ _ _ _ _ _ _ _ _ _ _ _ _ (F0 _ _ _ (.ref (K z).1 :: _))
        obtain ⟨⟨ak, Nk, Bk, Jk, Ok, hN1, hJ2, hJ3⟩, hw, hk2, hP⟩ := Z.2.2.2.2.2.1.2.1 z (by omega)
        have hP : ∀ j, Nk 1 j < 64 := by rw [hN1]; exact hP
        refine va_castY C.1 C.2.1 C.2.2.2.1 (C.2.2.2.2 _ (List.mem_of_getElem? (i := 2) rfl)) S.2.2.2.1.2.2.2.1.1 (q_recv S Ok.1 rfl) dX4_countRowsWith_23 ?_
        refine lv_iload_n C.1 C.2.1 dX4_countRowsWith_26 rfl (lv_at hl 3 rfl) ?_
        refine lv_aload_n C.1 C.2.1 dX4_countRowsWith_27 rfl (lv_at hl 2 rfl) ?_
        refine o_get (v := .ref (aC 0)) C S Z.2.1 rfl inX4_countRowsWith_X4 0 (Nat.le_of_ble_eq_true rfl) lkX4_countRowsWith_10 rfl dX4_countRowsWith_28 ?_
        refine q_callSi (As := [.int (nI x), .ref (aC 0)]) (rest := []) C S hl Ok.1 rfl (c_holds Ok Z.2.2.1 x (by omega) hw hP hL) (cwV 2 C.2.2.2.2 gX4_countRowsWith_X0_holds rfl rfl rfl (by decide +kernel) ⟨Nat.le_of_ble_eq_true rfl, Nat.le_of_ble_eq_true rfl⟩) rfl rfl (Nat.le_of_ble_eq_true rfl) ⟨Nat.le_of_ble_eq_true rfl, Nat.le_of_ble_eq_true rfl⟩ dX4_countRowsWith_31 (fun v hv => ?_)
        rw [hN1] at hv
        have hv : v = bI (krH (Nn 1) x (K z)) := hv
        subst hv
        refine q_ifeqB (tgt := 40) C dX4_countRowsWith_34 (by decide) (fun c34 => ?_) (fun c34 => ?_)
        · refine q_iinc (d := 1) (lv' := [(3, .int (nI (z + 1))), (2, .int (nI q)), (0, .ref hc), (1, .int (nI x))]) C dX4_countRowsWith_40 hl (k := 0) rfl (by decide) (by decide) rfl (fun ls hl => ?_)
          refine lv_goto (tgt := 4) C.1 C.2.1 dX4_countRowsWith_43 (by decide) ?_
          exact ih4 (z + 1) q (by omega) (by omega) (by rw [hq, cnt_f (by exact c34)]) _ (lv_sub hl [0, 1, 2, 3] rfl)
        · refine q_iinc (d := 1) (lv' := [(2, .int (nI (q + 1))), (3, .int (nI z)), (0, .ref hc), (1, .int (nI x))]) C dX4_countRowsWith_37 hl (k := 1) rfl (by decide) (by decide) rfl (fun ls hl => ?_)
          refine q_iinc (d := 1) (lv' := [(3, .int (nI (z + 1))), (2, .int (nI (q + 1))), (0, .ref hc), (1, .int (nI x))]) C dX4_countRowsWith_40 hl (k := 1) rfl (by decide) (by decide) rfl (fun ls hl => ?_)
          refine lv_goto (tgt := 4) C.1 C.2.1 dX4_countRowsWith_43 (by decide) ?_
          exact ih4 (z + 1) (q + 1) (by omega) (by omega) (by rw [hq, cnt_t (by exact c34)]) _ (lv_sub hl [0, 1, 2, 3] rfl)
  exact lp4 (kn + 1) 0 0 (by omega) (by omega) rfl _ (lv_sub hl [0, 1, 2, 3] rfl)
theorem inX3_isGood_X3 : ∀ w ∈ u_ws RX3 TX3 6, w ∈ wsX3_isGood := (fun _ h => (List.mem_cons_of_mem _ (List.mem_append_left _ (List.mem_append_left _ (List.mem_append_left _ (List.mem_append_right _ h))))))
theorem lkX3_isGood_19 : Cond.fieldLink RX3 19 (TX3 5).1 (TX3 5).2.1 (TX3 5).2.2.1 ∈ wsX3_isGood := List.mem_of_getElem? (i := 1) rfl
set_option maxHeartbeats 4000000 in
set_option maxRecDepth 100000 in
theorem s_isGood {l : Launch} {G : fw_G} {A : Nat → Prop} {f0 : fw_F} {hc : Nat} {aC an ar as_ : Nat → Nat} {In : Nat → Nat} {Nn : Nat → Nat → Nat} {Bn : Nat → Nat → Bool} {Jn : Nat → Nat → Int64} {Ir : Nat → Nat} {Nr : Nat → Nat → Nat} {Br : Nat → Nat → Bool} {Jr : Nat → Nat → Int64} {Is : Nat → Nat} {Ns : Nat → Nat → Nat} {Bs : Nat → Nat → Bool} {Js : Nat → Nat → Int64} {Ic : Nat → Nat} {Nc : Nat → Nat → Nat} {kn : Nat} {K : Nat → kRT} {mn : Nat} {M : Nat → sNT} (Z : CL G f0 f0 hc aC an ar as_ In Nn Bn Jn Ir Nr Br Jr Is Ns Bs Js Ic Nc kn K mn M) (lv : Nat) (hlv : lv < 64) (lk : Nat → Nat) (hlo : ∀ i, i < kn → (Js 5 i).toInt32 = mI (lk i) ∧ lk i < 64) (hL : ∀ i, Nn 1 i < 64)  : Met l yX3_isGood wsX3_isGood ({ frames := 3, cells := 0, slots := 0, locals := 67 }) (va_Pc [.ref (aC 3), .int (nI lv), .ref (aC 0), .ref (aC 2)] (fw_P G A f0)) (vp_Si (fun (r : Int32) => r = bI (allb (fun i => krG (Nn 1) (Jn 3) (lk i) lv (K i)) kn))) 0 0 (fun _ => False) := by
  refine q_head rfl (by decide) (Nat.le_of_ble_eq_true rfl) ?_
  intro p e s m below meth c ls C hr hlk hnm P hl
  have S := P.start
  have hl : lv_has ls 5 [(0, .ref (aC 3)), (1, .int (nI lv)), (2, .ref (aC 0)), (3, .ref (aC 2))] := hl
  have hkn := Z.2.2.2.2.2.1.2.2
  refine lv_iconst (v := nI 0) C.1 C.2.1 dX3_isGood_0 (by decide) ?_
  refine lv_istore (lv' := [(4, .int (nI 0)), (0, .ref (aC 3)), (1, .int (nI lv)), (2, .ref (aC 0)), (3, .ref (aC 2))]) C.1 C.2.1 dX3_isGood_1 hl (by decide) rfl (fun ls hl => ?_)
  have lp3 : ∀ (n3 : Nat) (z : Nat), kn - z < n3 → (z ≤ kn) → (∀ i, i < z → krG (Nn 1) (Jn 3) (lk i) lv (K i) = true) → ∀ (ls : Array Slot), lv_has ls 5 [(4, .int (nI z)), (0, .ref (aC 3)), (1, .int (nI lv)), (2, .ref (aC 0)), (3, .ref (aC 2))] → W p l e ({ frames := 3, cells := 0, slots := 0, locals := 67 }) s m [.ref (aC 3), .int (nI lv), .ref (aC 0), .ref (aC 2)].toArray below meth c s.heap [] 0 0 (MQ below (vp_Si (fun (r : Int32) => r = bI (allb (fun i => krG (Nn 1) (Jn 3) (lk i) lv (K i)) kn))) [.ref (aC 3), .int (nI lv), .ref (aC 0), .ref (aC 2)].toArray s 0 0 (fun _ => False)) (F0 m 3 ls []) := by
    intro n3
    induction n3 with
    | zero => intro z hme3; exact absurd hme3 (Nat.not_lt_zero _)
    | succ n3 ih3 =>
      intro z hme3 hz hq ls hl
      refine lv_iload C.1 C.2.1 dX3_isGood_3 (lv_at hl 0 rfl) ?_
      refine lv_aload_n C.1 C.2.1 dX3_isGood_5 rfl (lv_at hl 4 rfl) ?_
      obtain ⟨fsL, eL⟩ := isL_sz Z.2.2.2.2.2.1.1
      refine q_callSi (As := []) (rest := [.int (nI z)]) C S hl eL rfl (L_size Z.2.2.2.2.2.1.1) (cwV 0 C.2.2.2.2 gX3_isGood_Jx4a65c_size_8abf5 rfl rfl rfl (by decide +kernel) ⟨Nat.le_of_ble_eq_true rfl, Nat.le_of_ble_eq_true rfl⟩) rfl rfl (Nat.le_of_ble_eq_true rfl) ⟨Nat.le_of_ble_eq_true rfl, Nat.le_of_ble_eq_true rfl⟩ dX3_isGood_6 (fun v hv => ?_)
      subst hv
      refine q_ge (tgt := 54) C (by omega) (by omega) dX3_isGood_9 (by decide) (fun c9 => ?_) (fun c9 => ?_)
      · refine lv_iconst (v := nI 1) C.1 C.2.1 dX3_isGood_54 (by decide) ?_
        exact q_retSz (b := true) C hr hlk rfl (by show bI true = bI _; rw [allb_t (fun i hi => hq i (by omega))]) dX3_isGood_55
      · refine lv_iload C.1 C.2.1 dX3_isGood_12 (lv_at hl 0 rfl) ?_
        refine lv_bipush (v := nI 60) C.1 C.2.1 dX3_isGood_14 (by decide) ?_
        refine q_ge (tgt := 54) C (by omega) (by decide) dX3_isGood_16 (by decide) (fun c16 => ?_) (fun c16 => ?_)
        · exact absurd c16 (by omega)
        · refine lv_aload_n C.1 C.2.1 dX3_isGood_19 rfl (lv_at hl 1 rfl) ?_
          refine o_get (v := .ref (as_ 5)) C S Z.2.2.2.2.1 rfl inX3_isGood_X3 5 (Nat.le_of_ble_eq_true rfl) lkX3_isGood_19 rfl dX3_isGood_20 ?_
          refine lv_iload C.1 C.2.1 dX3_isGood_23 (lv_at hl 0 rfl) ?_
          have hlz := hlo z (by omega)
          refine o_iald C S Z.2.2.2.2.1 5 (Nat.le_of_ble_eq_true rfl) rfl z rfl (show z < 60 from by first | omega | exact hL _ | exact hP _ | exact hF _) (Nat.le_of_ble_eq_true rfl) dX3_isGood_25 ?_
          rw [hlz.1]
          refine lv_iload_n C.1 C.2.1 dX3_isGood_26 rfl (lv_at hl 2 rfl) ?_
          refine lv_icmp_ne (tgt := 48) C.1 C.2.1 dX3_isGood_27 (by decide) (fun c27 => ?_) (fun c27 => ?_)
          · refine q_iinc (d := 1) (lv' := [(4, .int (nI (z + 1))), (0, .ref (aC 3)), (1, .int (nI lv)), (2, .ref (aC 0)), (3, .ref (aC 2))]) C dX3_isGood_48 hl (k := 0) rfl (by decide) (by decide) rfl (fun ls hl => ?_)
            refine lv_goto (tgt := 3) C.1 C.2.1 dX3_isGood_51 (by decide) ?_
            exact ih3 (z + 1) (by omega) (by omega) (fun i hi => by rcases Nat.lt_or_ge i z with q | q; exact hq i q; rw [show i = z by omega]; exact (krG_n (fun q => c27 ((mI_eq (by omega) (by omega)).mpr q)))) _ (lv_sub hl [0, 1, 2, 3, 4] rfl)
          · refine lv_aload_n C.1 C.2.1 dX3_isGood_30 rfl (lv_at hl 4 rfl) ?_
            refine lv_iload C.1 C.2.1 dX3_isGood_31 (lv_at hl 0 rfl) ?_
            obtain ⟨fsL, eL⟩ := isL_sz Z.2.2.2.2.2.1.1
            refine q_callSq (As := [.int (nI z)]) (rest := []) C S hl eL rfl (L_get Z.2.2.2.2.2.1.1 z (by omega)) (cwV 1 C.2.2.2.2 gX3_isGood_Jx4a65c_get_915e3 rfl rfl rfl (by decide +kernel) ⟨Nat.le_of_ble_eq_true rfl, Nat.le_of_ble_eq_true rfl⟩) rfl rfl (Nat.le_of_ble_eq_true rfl) ⟨Nat.le_of_ble_eq_true rfl, Nat.le_of_ble_eq_true rfl⟩ dX3_isGood_33 (fun v hv => ?_)
            subst hv
            show W _ _ _ _ _ _ _ _ _ _ _ _ _ _ _ (F0 _ _ _ (.ref (K z).1 :: _))
            obtain ⟨⟨ak, Nk, Bk, Jk, Ok, hN1, hJ2, hJ3⟩, hw, hk2, hP⟩ := Z.2.2.2.2.2.1.2.1 z (by omega)
            have hP : ∀ j, Nk 1 j < 64 := by rw [hN1]; exact hP
            refine va_castY C.1 C.2.1 C.2.2.2.1 (C.2.2.2.2 _ (List.mem_of_getElem? (i := 2) rfl)) S.2.2.2.1.2.2.2.1.1 (q_recv S Ok.1 rfl) dX3_isGood_36 ?_
            refine lv_aload_n C.1 C.2.1 dX3_isGood_39 rfl (lv_at hl 3 rfl) ?_
            refine q_callSi (As := [.ref (aC 0)]) (rest := []) C S hl Ok.1 rfl (c_isSo Ok Z.2.2.1 hw hP hL hk2) (cwV 1 C.2.2.2.2 gX3_isGood_X0_isSo rfl rfl rfl (by decide +kernel) ⟨Nat.le_of_ble_eq_true rfl, Nat.le_of_ble_eq_true rfl⟩) rfl rfl (Nat.le_of_ble_eq_true rfl) ⟨Nat.le_of_ble_eq_true rfl, Nat.le_of_ble_eq_true rfl⟩ dX3_isGood_40 (fun v hv => ?_)
            rw [hN1, hJ2, hJ3] at hv
            have hv : v = bI (krS (Nn 1) (Jn 3) (K z)) := hv
            subst hv
            refine q_ifneB (tgt := 48) C dX3_isGood_43 (by decide) (fun c43 => ?_) (fun c43 => ?_)
            · refine q_iinc (d := 1) (lv' := [(4, .int (nI (z + 1))), (0, .ref (aC 3)), (1, .int (nI lv)), (2, .ref (aC 0)), (3, .ref (aC 2))]) C dX3_isGood_48 hl (k := 0) rfl (by decide) (by decide) rfl (fun ls hl => ?_)
              refine lv_goto (tgt := 3) C.1 C.2.1 dX3_isGood_51 (by decide) ?_
              exact ih3 (z + 1) (by omega) (by omega) (fun i hi => by rcases Nat.lt_or_ge i z with q | q; exact hq i q; rw [show i = z by omega]; exact (by rw [krG_z ((mI_eq (by omega) (by omega)).mp c27)]; exact c43)) _ (lv_sub hl [0, 1, 2, 3, 4] rfl)
            · refine lv_iconst (v := nI 0) C.1 C.2.1 dX3_isGood_46 (by decide) ?_
              exact q_retSz (b := false) C hr hlk rfl (by show bI false = bI _; rw [allb_f (i := z) (by omega) (by rw [krG_z ((mI_eq (by omega) (by omega)).mp c27)]; exact c43)]) dX3_isGood_47
  exact lp3 (kn + 1) 0 (by omega) (by omega) (fun i hi => absurd hi (Nat.not_lt_zero i)) _ (lv_sub hl [0, 1, 2, 3, 4] rfl)
