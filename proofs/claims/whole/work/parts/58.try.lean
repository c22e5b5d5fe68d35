theorem inX3_tryLevel_X3 : ∀ w ∈ u_ws RX3 TX3 6, w ∈ wsX3_tryLevel := (fun _ h => (List.mem_cons_of_mem _ (List.mem_append_left _ (List.mem_append_left _ (List.mem_append_left _ (List.mem_append_right _ h))))))
theorem lkX3_tryLevel_22 : Cond.fieldLink RX3 22 (TX3 1).1 (TX3 1).2.1 (TX3 1).2.2.1 ∈ wsX3_tryLevel := List.mem_of_getElem? (i := 1) rfl
set_option maxHeartbeats 4000000 in
set_option maxRecDepth 100000 in
theorem s_try8 {l : Launch} {G : fw_G} {A : Nat → Prop} {f0 : fw_F} {hc : Nat} {aC an ar as_ : Nat → Nat} {In : Nat → Nat} {Nn : Nat → Nat → Nat} {Bn : Nat → Nat → Bool} {Jn : Nat → Nat → Int64} {Ir : Nat → Nat} {Nr : Nat → Nat → Nat} {Br : Nat → Nat → Bool} {Jr : Nat → Nat → Int64} {Is : Nat → Nat} {Ns : Nat → Nat → Nat} {Bs : Nat → Nat → Bool} {Js : Nat → Nat → Int64} {Ic : Nat → Nat} {Nc : Nat → Nat → Nat} {kn : Nat} {K : Nat → kRT} {mn : Nat} {M : Nat → sNT} (Z : CL G f0 f0 hc aC an ar as_ In Nn Bn Jn Ir Nr Br Jr Is Ns Bs Js Ic Nc kn K mn M) {B0 : Nat → Nat → Bool} {J0 : Nat → Nat → Int64} {I0 : Nat → Nat} {S0 : Nat → Nat → Int64} (cur : Nat → Int64) (k wc : Nat) (acc : Nat → Nat → Int64) (C0 : tvC (Nn 1) B0 S0 (Ns 0) (I0 1) K kn) (han : 8 ≤ I0 1) (TB : ∀ r, Bn 2 r = knL (B0 2) (Ns 0) 8 r) (T : tvR B0 J0 I0 S0 (Ns 0) 8 cur k wc acc Bn Jn Is Js) (hg : gdC K kn (Nn 1) (B0 2) (J0 3) (Ns 0) (I0 1) 8 cur = true) (hL : ∀ i, Nn 1 i < 64) (hF : ∀ i, Ns 0 i < 64)  : Met l yX3_tryLevel wsX3_tryLevel ({ frames := 2, cells := 0, slots := 0, locals := 43 }) (va_Pc [.ref (aC 3), .int (nI 8), .ref (aC 0), .ref (aC 2)] (fw_P G A f0)) (va_Qi (fun (r : Int32) (f1 : fw_F) => tyP (Nn 1) B0 J0 I0 S0 (Ns 0) K kn 8 cur k wc acc r (fun Bq Jq Iq Sq => CL G f0 f1 hc aC an ar as_ In Nn Bq Jq Ir Nr Br Jr Iq Ns Bs Sq Ic Nc kn K mn M)) (fw_B G A) A) 0 0 A := by
  refine q_head rfl (by decide) (Nat.le_of_ble_eq_true rfl) ?_
  intro p e s m below meth c ls C hr hlk hnm P hl
  have S := P.start
  have hl : lv_has ls 11 [(0, .ref (aC 3)), (1, .int (nI 8)), (2, .ref (aC 0)), (3, .ref (aC 2))] := hl
  have h8 := C0.2.1
  have hI1 : Is 1 = I0 1 := T.2.2.2.2.1 1 (by decide) (by decide)
  have hwc : Is 2 = wc := T.2.2.2.2.2.1
  have hw2 := T.2.2.2.2.2.2.2.1
  have h3k := T.2.2.2.2.2.2.1
  refine lv_iload_n C.1 C.2.1 dX3_tryLevel_0 rfl (lv_at hl 1 rfl) ?_
  refine lv_aload_n C.1 C.2.1 dX3_tryLevel_1 rfl (lv_at hl 0 rfl) ?_
  refine o_get (v := .int (nI (Is 1))) C S Z.2.2.2.2.1 rfl inX3_tryLevel_X3 1 (Nat.le_of_ble_eq_true rfl) lkX3_tryLevel_22 rfl dX3_tryLevel_2 ?_
  refine q_ge (tgt := 14) C (by decide) (by omega) dX3_tryLevel_5 (by decide) (fun c5 => ?_) (fun c5 => ?_)
  · refine lv_aload_n C.1 C.2.1 dX3_tryLevel_14 rfl (lv_at hl 0 rfl) ?_
    refine lv_aload_n C.1 C.2.1 dX3_tryLevel_15 rfl (lv_at hl 2 rfl) ?_
    refine q_callQi (As := [.ref (aC 0)]) (rest := []) C S hl Z.2.2.2.2.1.1 rfl (c_addWay Z.2.2.2.2.1 Z.2.2.1 (by decide) (by omega) (by omega) hF hL) (cwV 1 C.2.2.2.2 gX3_tryLevel_X3_addWay rfl rfl rfl (by decide +kernel) ⟨Nat.le_of_ble_eq_true rfl, Nat.le_of_ble_eq_true rfl⟩) rfl rfl (Nat.le_of_ble_eq_true rfl) ⟨Nat.le_of_ble_eq_true rfl, Nat.le_of_ble_eq_true rfl⟩ dX3_tryLevel_16 (fun v f H locs hv S => ?_)
    obtain ⟨hv, F1⟩ := hv
    rcases hv with ⟨h1, rfl, O1⟩ | ⟨h1, rfl, O1⟩
    · have Z := CL_s Z F1 O1
      exact q_retQi C S hr hlk ⟨_, _, _, _, cur, k, wc + 1, va_up acc wc cur, Z, TB, tv_way (fun j hj => (C0.2.2.1 j hj).1) h8 (by omega) (by omega) T, fun _ _ => rfl, Nat.le_refl _, Or.inl ⟨rfl, itA_way (by omega) (by omega)⟩⟩ dX3_tryLevel_19
    · have Z := CL_s Z F1 O1
      exact q_retQi C S hr hlk ⟨_, _, _, _, cur, k, wc, acc, Z, TB, T, fun _ _ => rfl, Nat.le_refl _, Or.inr ⟨Or.inr rfl, itA_full (by omega) (by omega)⟩⟩ dX3_tryLevel_19
  · exact absurd c5 (by omega)
theorem lkX3_tryLevel_9 : Cond.fieldLink RX3 9 (TX3 0).1 (TX3 0).2.1 (TX3 0).2.2.1 ∈ wsX3_tryLevel := List.mem_of_getElem? (i := 2) rfl
theorem lkX3_tryLevel_36 : Cond.fieldLink RX3 36 (TX3 3).1 (TX3 3).2.1 (TX3 3).2.2.1 ∈ wsX3_tryLevel := List.mem_of_getElem? (i := 3) rfl
set_option maxHeartbeats 4000000 in
set_option maxRecDepth 100000 in
theorem s_try7 {l : Launch} {G : fw_G} {A : Nat → Prop} {f0 : fw_F} {hc : Nat} {aC an ar as_ : Nat → Nat} {In : Nat → Nat} {Nn : Nat → Nat → Nat} {Bn : Nat → Nat → Bool} {Jn : Nat → Nat → Int64} {Ir : Nat → Nat} {Nr : Nat → Nat → Nat} {Br : Nat → Nat → Bool} {Jr : Nat → Nat → Int64} {Is : Nat → Nat} {Ns : Nat → Nat → Nat} {Bs : Nat → Nat → Bool} {Js : Nat → Nat → Int64} {Ic : Nat → Nat} {Nc : Nat → Nat → Nat} {kn : Nat} {K : Nat → kRT} {mn : Nat} {M : Nat → sNT} (Z : CL G f0 f0 hc aC an ar as_ In Nn Bn Jn Ir Nr Br Jr Is Ns Bs Js Ic Nc kn K mn M) {B0 : Nat → Nat → Bool} {J0 : Nat → Nat → Int64} {I0 : Nat → Nat} {S0 : Nat → Nat → Int64} (cur : Nat → Int64) (k wc : Nat) (acc : Nat → Nat → Int64) (C0 : tvC (Nn 1) B0 S0 (Ns 0) (I0 1) K kn) (han : 7 ≤ I0 1) (TB : ∀ r, Bn 2 r = knL (B0 2) (Ns 0) 7 r) (T : tvR B0 J0 I0 S0 (Ns 0) 7 cur k wc acc Bn Jn Is Js) (hg : gdC K kn (Nn 1) (B0 2) (J0 3) (Ns 0) (I0 1) 7 cur = true) (hL : ∀ i, Nn 1 i < 64) (hF : ∀ i, Ns 0 i < 64)  : Met l yX3_tryLevel wsX3_tryLevel ({ frames := 4, cells := 0, slots := 0, locals := 91 }) (va_Pc [.ref (aC 3), .int (nI 7), .ref (aC 0), .ref (aC 2)] (fw_P G A f0)) (va_Qi (fun (r : Int32) (f1 : fw_F) => tyP (Nn 1) B0 J0 I0 S0 (Ns 0) K kn 7 cur k wc acc r (fun Bq Jq Iq Sq => CL G f0 f1 hc aC an ar as_ In Nn Bq Jq Ir Nr Br Jr Iq Ns Bs Sq Ic Nc kn K mn M)) (fw_B G A) A) 0 0 A := by
  refine q_head rfl (by decide) (Nat.le_of_ble_eq_true rfl) ?_
  intro p e s m below meth c ls C hr hlk hnm P hl
  have S := P.start
  have hl : lv_has ls 11 [(0, .ref (aC 3)), (1, .int (nI 7)), (2, .ref (aC 0)), (3, .ref (aC 2))] := hl
  have h8 := C0.2.1
  have hI1 : Is 1 = I0 1 := T.2.2.2.2.1 1 (by decide) (by decide)
  have hwc : Is 2 = wc := T.2.2.2.2.2.1
  have hw2 := T.2.2.2.2.2.2.2.1
  have h3k := T.2.2.2.2.2.2.1
  refine lv_iload_n C.1 C.2.1 dX3_tryLevel_0 rfl (lv_at hl 1 rfl) ?_
  refine lv_aload_n C.1 C.2.1 dX3_tryLevel_1 rfl (lv_at hl 0 rfl) ?_
  refine o_get (v := .int (nI (Is 1))) C S Z.2.2.2.2.1 rfl inX3_tryLevel_X3 1 (Nat.le_of_ble_eq_true rfl) lkX3_tryLevel_22 rfl dX3_tryLevel_2 ?_
  refine q_ge (tgt := 14) C (by decide) (by omega) dX3_tryLevel_5 (by decide) (fun c5 => ?_) (fun c5 => ?_)
  · refine lv_aload_n C.1 C.2.1 dX3_tryLevel_14 rfl (lv_at hl 0 rfl) ?_
    refine lv_aload_n C.1 C.2.1 dX3_tryLevel_15 rfl (lv_at hl 2 rfl) ?_
    refine q_callQi (As := [.ref (aC 0)]) (rest := []) C S hl Z.2.2.2.2.1.1 rfl (c_addWay Z.2.2.2.2.1 Z.2.2.1 (by decide) (by omega) (by omega) hF hL) (cwV 1 C.2.2.2.2 gX3_tryLevel_X3_addWay rfl rfl rfl (by decide +kernel) ⟨Nat.le_of_ble_eq_true rfl, Nat.le_of_ble_eq_true rfl⟩) rfl rfl (Nat.le_of_ble_eq_true rfl) ⟨Nat.le_of_ble_eq_true rfl, Nat.le_of_ble_eq_true rfl⟩ dX3_tryLevel_16 (fun v f H locs hv S => ?_)
    obtain ⟨hv, F1⟩ := hv
    rcases hv with ⟨h1, rfl, O1⟩ | ⟨h1, rfl, O1⟩
    · have Z := CL_s Z F1 O1
      exact q_retQi C S hr hlk ⟨_, _, _, _, cur, k, wc + 1, va_up acc wc cur, Z, TB, tv_way (fun j hj => (C0.2.2.1 j hj).1) h8 (by omega) (by omega) T, fun _ _ => rfl, Nat.le_refl _, Or.inl ⟨rfl, itA_way (by omega) (by omega)⟩⟩ dX3_tryLevel_19
    · have Z := CL_s Z F1 O1
      exact q_retQi C S hr hlk ⟨_, _, _, _, cur, k, wc, acc, Z, TB, T, fun _ _ => rfl, Nat.le_refl _, Or.inr ⟨Or.inr rfl, itA_full (by omega) (by omega)⟩⟩ dX3_tryLevel_19
  · refine lv_iload_n C.1 C.2.1 dX3_tryLevel_8 rfl (lv_at hl 1 rfl) ?_
    refine lv_bipush (v := nI 8) C.1 C.2.1 dX3_tryLevel_9 (by decide) ?_
    refine q_lt (tgt := 20) C (by decide) (by decide) dX3_tryLevel_11 (by decide) (fun c11 => ?_) (fun c11 => ?_)
    · refine lv_aload_n C.1 C.2.1 dX3_tryLevel_20 rfl (lv_at hl 0 rfl) ?_
      refine o_get (v := .ref (as_ 0)) C S Z.2.2.2.2.1 rfl inX3_tryLevel_X3 0 (Nat.le_of_ble_eq_true rfl) lkX3_tryLevel_9 rfl dX3_tryLevel_21 ?_
      refine lv_iload_n C.1 C.2.1 dX3_tryLevel_24 rfl (lv_at hl 1 rfl) ?_
      refine o_nald (x := (Ns 0) 7) C S Z.2.2.2.2.1 0 (Nat.le_of_ble_eq_true rfl) rfl 7 rfl (show 7 < 32 from by first | omega | exact hL _ | exact hP _ | exact hF _) (Nat.le_of_ble_eq_true rfl) rfl dX3_tryLevel_25 ?_
      refine lv_istore (lv' := [(4, .int (nI ((Ns 0) 7))), (0, .ref (aC 3)), (1, .int (nI 7)), (2, .ref (aC 0)), (3, .ref (aC 2))]) C.1 C.2.1 dX3_tryLevel_26 hl (by decide) rfl (fun ls hl => ?_)
      refine lv_aload_n C.1 C.2.1 dX3_tryLevel_28 rfl (lv_at hl 3 rfl) ?_
      refine lv_iload C.1 C.2.1 dX3_tryLevel_29 (lv_at hl 0 rfl) ?_
      refine q_callSl (As := [.int (nI ((Ns 0) 7))]) (rest := []) C S hl Z.2.2.1.1 rfl (c_lowOf Z.2.2.1 ((Ns 0) 7) (by first | omega | exact hL _ | exact hP _ | exact hF _) hL) (cwV 1 C.2.2.2.2 gX3_tryLevel_X1_lowOf rfl rfl rfl (by decide +kernel) ⟨Nat.le_of_ble_eq_true rfl, Nat.le_of_ble_eq_true rfl⟩) rfl rfl (Nat.le_of_ble_eq_true rfl) ⟨Nat.le_of_ble_eq_true rfl, Nat.le_of_ble_eq_true rfl⟩ dX3_tryLevel_31 (fun v hv => ?_)
      subst hv
      refine lv_lstore (lv' := [(5, .long ((Jn 5) ((Nn 1) ((Ns 0) 7)))), (4, .int (nI ((Ns 0) 7))), (0, .ref (aC 3)), (1, .int (nI 7)), (2, .ref (aC 0)), (3, .ref (aC 2))]) C.1 C.2.1 dX3_tryLevel_34 hl (by decide) rfl (fun ls hl => ?_)
      refine lv_aload_n C.1 C.2.1 dX3_tryLevel_36 rfl (lv_at hl 4 rfl) ?_
      refine lv_iload C.1 C.2.1 dX3_tryLevel_37 (lv_at hl 1 rfl) ?_
      refine q_callSl (As := [.int (nI ((Ns 0) 7))]) (rest := []) C S hl Z.2.2.1.1 rfl (c_highOf Z.2.2.1 ((Ns 0) 7) (by first | omega | exact hL _ | exact hP _ | exact hF _) hL) (cwV 1 C.2.2.2.2 gX3_tryLevel_X1_highOf rfl rfl rfl (by decide +kernel) ⟨Nat.le_of_ble_eq_true rfl, Nat.le_of_ble_eq_true rfl⟩) rfl rfl (Nat.le_of_ble_eq_true rfl) ⟨Nat.le_of_ble_eq_true rfl, Nat.le_of_ble_eq_true rfl⟩ dX3_tryLevel_39 (fun v hv => ?_)
      subst hv
      refine lv_lstore (lv' := [(7, .long ((Jn 6) ((Nn 1) ((Ns 0) 7)))), (5, .long ((Jn 5) ((Nn 1) ((Ns 0) 7)))), (4, .int (nI ((Ns 0) 7))), (0, .ref (aC 3)), (1, .int (nI 7)), (2, .ref (aC 0)), (3, .ref (aC 2))]) C.1 C.2.1 dX3_tryLevel_42 hl (by decide) rfl (fun ls hl => ?_)
      refine lv_iconst (v := 0) C.1 C.2.1 dX3_tryLevel_44 (by decide) ?_
      refine lv_istore (lv' := [(9, .int 0), (7, .long ((Jn 6) ((Nn 1) ((Ns 0) 7)))), (5, .long ((Jn 5) ((Nn 1) ((Ns 0) 7)))), (4, .int (nI ((Ns 0) 7))), (0, .ref (aC 3)), (1, .int (nI 7)), (2, .ref (aC 0)), (3, .ref (aC 2))]) C.1 C.2.1 dX3_tryLevel_45 hl (by decide) rfl (fun ls hl => ?_)
      refine lv_iconst (v := nI 0) C.1 C.2.1 dX3_tryLevel_47 (by decide) ?_
      refine lv_istore (lv' := [(10, .int (nI 0)), (9, .int 0), (7, .long ((Jn 6) ((Nn 1) ((Ns 0) 7)))), (5, .long ((Jn 5) ((Nn 1) ((Ns 0) 7)))), (4, .int (nI ((Ns 0) 7))), (0, .ref (aC 3)), (1, .int (nI 7)), (2, .ref (aC 0)), (3, .ref (aC 2))]) C.1 C.2.1 dX3_tryLevel_48 hl (by decide) rfl (fun ls hl => ?_)
      have lp50 : ∀ (n50 : Nat) (uv : Int64) (z : Nat) (sp : Int32) (B3 : Nat → Nat → Bool) (J3 : Nat → Nat → Int64) (I3 : Nat → Nat) (S3 : Nat → Nat → Int64) (cu : Nat → Int64) (kk : Nat) (wq : Nat) (ac : Nat → Nat → Int64), kk < n50 → (z + kk ≤ 5000) → (kk ≤ k) → (∀ r, r ≠ Ns 0 7 → B3 2 r = knL (B0 2) (Ns 0) 7 r) → (tvR B0 J0 I0 S0 (Ns 0) 7 cu kk wq ac B3 J3 I3 S3) → (∀ j, j < 7 → cu j = cur j) → (gdC K kn (Nn 1) (B0 2) (J0 3) (Ns 0) (I0 1) 7 cu = true) → ((sp = 0 ∧ tyR (Nn 1) B0 J0 (Ns 0) (I0 1) K kn k 7 cur wc acc = tyT (Nn 1) B0 J0 (Ns 0) (I0 1) K kn kk 7 (va_up cu 7 uv) wq ac) ∨ ((sp = -3 ∨ sp = -4) ∧ tyR (Nn 1) B0 J0 (Ns 0) (I0 1) K kn k 7 cur wc acc = (sp, 5000 - kk, ac))) → ∀ (f : fw_F) (H : Heap) (locs : List Loc) (ls : Array Slot), fw_S G A s f H locs → CL G f0 f hc aC an ar as_ In Nn B3 J3 Ir Nr Br Jr I3 Ns Bs S3 Ic Nc kn K mn M → lv_has ls 11 [(10, .int (nI z)), (9, .int sp), (7, .long ((Jn 6) ((Nn 1) ((Ns 0) 7)))), (5, .long uv), (4, .int (nI ((Ns 0) 7))), (0, .ref (aC 3)), (1, .int (nI 7)), (2, .ref (aC 0)), (3, .ref (aC 2))] → W p l e ({ frames := 4, cells := 0, slots := 0, locals := 91 }) s m [.ref (aC 3), .int (nI 7), .ref (aC 0), .ref (aC 2)].toArray below meth c H locs 0 0 (MQ below (va_Qi (fun (r : Int32) (f1 : fw_F) => tyP (Nn 1) B0 J0 I0 S0 (Ns 0) K kn 7 cur k wc acc r (fun Bq Jq Iq Sq => CL G f0 f1 hc aC an ar as_ In Nn Bq Jq Ir Nr Br Jr Iq Ns Bs Sq Ic Nc kn K mn M)) (fw_B G A) A) [.ref (aC 3), .int (nI 7), .ref (aC 0), .ref (aC 2)].toArray s 0 0 A) (F0 m 50 ls []) := by
        intro n50
        induction n50 with
        | zero => intro uv z sp B3 J3 I3 S3 cu kk wq ac hme50; exact absurd hme50 (Nat.not_lt_zero _)
        | succ n50 ih50 =>
          intro uv z sp B3 J3 I3 S3 cu kk wq ac hme50 hzk hkk TB3 T3 hcu hg3 hsp f H locs ls S Z hl
          refine lv_iload C.1 C.2.1 dX3_tryLevel_50 (lv_at hl 0 rfl) ?_
          refine lv_sipush (v := nI 5000) C.1 C.2.1 dX3_tryLevel_52 (by decide) ?_
          refine q_gt (tgt := 142) C (by omega) (by decide) dX3_tryLevel_55 (by decide) (fun c55 => ?_) (fun c55 => ?_)
          · exact absurd c55 (by omega)
          · refine lv_iload C.1 C.2.1 dX3_tryLevel_58 (lv_at hl 1 rfl) ?_
            refine lv_if_ne (tgt := 142) C.1 C.2.1 dX3_tryLevel_60 (by decide) (fun c60 => ?_) (fun c60 => ?_)
            · refine lv_aload_n C.1 C.2.1 dX3_tryLevel_142 rfl (lv_at hl 7 rfl) ?_
              refine lv_iload C.1 C.2.1 dX3_tryLevel_143 (lv_at hl 4 rfl) ?_
              refine q_callQv (As := [.int (nI ((Ns 0) 7))]) (rest := []) C S hl Z.2.2.1.1 rfl (c_unsetNumber Z.2.2.1 ((Ns 0) 7) (by first | omega | exact hL _ | exact hP _ | exact hF _) hL) (cwV 1 C.2.2.2.2 gX3_tryLevel_X1_unsetNumber rfl rfl rfl (by decide +kernel) ⟨Nat.le_of_ble_eq_true rfl, Nat.le_of_ble_eq_true rfl⟩) rfl rfl (Nat.le_of_ble_eq_true rfl) ⟨Nat.le_of_ble_eq_true rfl, Nat.le_of_ble_eq_true rfl⟩ dX3_tryLevel_145 (fun f H locs hv S => ?_)
              obtain ⟨O1, F1⟩ := hv
              have Z := CL_n Z F1 O1
              refine lv_iload C.1 C.2.1 dX3_tryLevel_148 (lv_at hl 1 rfl) ?_
              exact q_retQi C S hr hlk ⟨_, _, _, _, cu, kk, wq, ac, Z, tb_unset C0 (by omega) TB3, tv_unset T3 _, hcu, hkk, Or.inr (hsp.resolve_left (fun q => c60 q.1))⟩ dX3_tryLevel_150
            · obtain rfl : sp = 0 := by first | exact c60 | exact Decidable.not_not.mp c60
              have hres := hsp.resolve_right (fun q => by rcases q.1 with q | q <;> exact absurd q (by decide))
              have h37 := T3.2.2.2.2.2.2.1
              refine lv_aload_n C.1 C.2.1 dX3_tryLevel_63 rfl (lv_at hl 5 rfl) ?_
              refine o_get (v := .int (nI (I3 3))) C S Z.2.2.2.2.1 rfl inX3_tryLevel_X3 3 (Nat.le_of_ble_eq_true rfl) lkX3_tryLevel_36 rfl dX3_tryLevel_64 ?_
              refine lv_sipush (v := nI 5000) C.1 C.2.1 dX3_tryLevel_67 (by decide) ?_
              refine q_lt (tgt := 80) C (by omega) (by decide) dX3_tryLevel_70 (by decide) (fun c70 => ?_) (fun c70 => ?_)
              · obtain ⟨k1, rfl⟩ : ∃ k1, kk = k1 + 1 := ⟨kk - 1, by omega⟩
                refine lv_aload_n C.1 C.2.1 dX3_tryLevel_80 rfl (lv_at hl 5 rfl) ?_
                refine lv_dup C.1 C.2.1 dX3_tryLevel_81 rfl ?_
                refine o_get (v := .int (nI (I3 3))) C S Z.2.2.2.2.1 rfl inX3_tryLevel_X3 3 (Nat.le_of_ble_eq_true rfl) lkX3_tryLevel_36 rfl dX3_tryLevel_82 ?_
                refine lv_iconst (v := nI 1) C.1 C.2.1 dX3_tryLevel_85 (by decide) ?_
                refine q_iadd C dX3_tryLevel_86 ?_
                refine o_puti C S Z.2.2.2.2.1 (fw_fr_rf _ 3300 (3300 + 7)) rfl inX3_tryLevel_X3 tyX3 tyX3_ok nmX3 3 (Nat.le_of_ble_eq_true rfl) rfl lkX3_tryLevel_36 rfl rfl ⟨by decide, by decide⟩ dX3_tryLevel_87 (fun f H locs S O1 F1 => ?_)
                have Z := CL_s Z F1 O1
                refine lv_aload_n C.1 C.2.1 dX3_tryLevel_90 rfl (lv_at hl 7 rfl) ?_
                refine lv_iload C.1 C.2.1 dX3_tryLevel_91 (lv_at hl 4 rfl) ?_
                refine lv_lload C.1 C.2.1 dX3_tryLevel_93 (lv_at hl 3 rfl) ?_
                refine q_callQv (As := [.int (nI ((Ns 0) 7)), .long uv]) (rest := []) C S hl Z.2.2.1.1 rfl (c_setNumber Z.2.2.1 ((Ns 0) 7) (by first | omega | exact hL _ | exact hP _ | exact hF _) hL uv) (cwV 2 C.2.2.2.2 gX3_tryLevel_X1_setNumber rfl rfl rfl (by decide +kernel) ⟨Nat.le_of_ble_eq_true rfl, Nat.le_of_ble_eq_true rfl⟩) rfl rfl (Nat.le_of_ble_eq_true rfl) ⟨Nat.le_of_ble_eq_true rfl, Nat.le_of_ble_eq_true rfl⟩ dX3_tryLevel_95 (fun f H locs hv S => ?_)
                obtain ⟨O1, F1⟩ := hv
                have Z := CL_n Z F1 O1
                have T4 := tv_set C0 (by omega) T3 uv
                have TB4 := tb_set2 C0 (by omega) TB3
                have hlo4 : ∀ i, i < kn → (S3 5 i).toInt32 = mI (lkC (Nn 1) (B0 2) (Ns 0) (I0 1) (K i)) ∧ lkC (Nn 1) (B0 2) (Ns 0) (I0 1) (K i) < 64 := fun i hi => ⟨by rw [T3.2.2.2.2.2.2.2.2.1 5 (by decide)]; exact C0.2.2.2 i hi, by have := lkC_le (L := Nn 1) (B := B0 2) (fr := Ns 0) (c := I0 1) (k := K i); omega⟩
                refine lv_aload_n C.1 C.2.1 dX3_tryLevel_98 rfl (lv_at hl 5 rfl) ?_
                refine lv_iload_n C.1 C.2.1 dX3_tryLevel_99 rfl (lv_at hl 6 rfl) ?_
                refine lv_aload_n C.1 C.2.1 dX3_tryLevel_100 rfl (lv_at hl 7 rfl) ?_
                refine lv_aload_n C.1 C.2.1 dX3_tryLevel_101 rfl (lv_at hl 8 rfl) ?_
                refine q_callSi (As := [.int (nI 7), .ref (aC 0), .ref (aC 2)]) (rest := []) C S hl Z.2.2.2.2.1.1 rfl (s_isGood (CL_rf Z) 7 (by decide) (fun i => lkC (Nn 1) (B0 2) (Ns 0) (I0 1) (K i)) hlo4 hL) (cwV 3 C.2.2.2.2 gX3_tryLevel_X3_isGood rfl rfl rfl (by decide +kernel) ⟨Nat.le_of_ble_eq_true rfl, Nat.le_of_ble_eq_true rfl⟩) rfl rfl (Nat.le_of_ble_eq_true rfl) ⟨Nat.le_of_ble_eq_true rfl, Nat.le_of_ble_eq_true rfl⟩ dX3_tryLevel_102 (fun v hv => ?_)
                have hv : v = bI (gdC K kn (Nn 1) (B0 2) (J0 3) (Ns 0) (I0 1) 8 (va_up cu 7 uv)) := hv.trans (congrArg bI (gd_step C0 (by omega) hg3 T4))
                subst hv
                refine q_ifeqB (tgt := 119) C dX3_tryLevel_105 (by decide) (fun c105 => ?_) (fun c105 => ?_)
                · obtain ⟨cu2, k2, wq2, ac2, T5, TB5, hcu2, hk2, hs5⟩ : ∃ cu2 k2 wq2 ac2, tvR B0 J0 I0 S0 (Ns 0) 8 cu2 k2 wq2 ac2 (setB B3 ((Nn 1) ((Ns 0) 7))) (setJ J3 ((Nn 1) ((Ns 0) 7)) uv) (va_up I3 3 ((I3 3) + 1)) S3 ∧ (∀ r, (setB B3 ((Nn 1) ((Ns 0) 7))) 2 r = knL (B0 2) (Ns 0) 8 r) ∧ (∀ j, j < 8 → cu2 j = va_up cu 7 uv j) ∧ k2 ≤ k1 ∧ (((0 : Int32) = 0 ∧ tyR (Nn 1) B0 J0 (Ns 0) (I0 1) K kn k 7 cur wc acc = tyB (Nn 1) B0 J0 (Ns 0) (I0 1) K kn k2 8 cu2 wq2 ac2) ∨ (((0 : Int32) = -3 ∨ (0 : Int32) = -4) ∧ tyR (Nn 1) B0 J0 (Ns 0) (I0 1) K kn k 7 cur wc acc = ((0 : Int32), 5000 - k2, ac2))) := ⟨va_up cu 7 uv, k1, wq, ac, T4, TB4, fun _ _ => rfl, Nat.le_refl _, Or.inl ⟨rfl, hres.2.trans (it_bad c105)⟩⟩
                  have hcu3 : ∀ j, j < 7 → cu2 j = cur j := fun j hj => (hcu2 j (by omega)).trans ((up_n (by omega)).trans (hcu j hj))
                  have e5 : cu2 7 = uv := (hcu2 7 (by omega)).trans (up_s _ _ _)
                  refine lv_lload C.1 C.2.1 dX3_tryLevel_119 (lv_at hl 3 rfl) ?_
                  refine lv_lload C.1 C.2.1 dX3_tryLevel_121 (lv_at hl 2 rfl) ?_
                  refine q_lcmp_ne (tgt := 130) C dX3_tryLevel_123 dX3_tryLevel_124 (by decide) (fun c123 => ?_) (fun c123 => ?_)
                  · refine lv_lload C.1 C.2.1 dX3_tryLevel_130 (lv_at hl 3 rfl) ?_
                    refine lv_lconst (v := 1) C.1 C.2.1 dX3_tryLevel_132 (by decide) ?_
                    refine lv_ladd C.1 C.2.1 dX3_tryLevel_133 ?_
                    refine lv_lstore (lv' := [(5, .long (uv + 1)), (10, .int (nI z)), (9, .int 0), (7, .long ((Jn 6) ((Nn 1) ((Ns 0) 7)))), (4, .int (nI ((Ns 0) 7))), (0, .ref (aC 3)), (1, .int (nI 7)), (2, .ref (aC 0)), (3, .ref (aC 2))]) C.1 C.2.1 dX3_tryLevel_134 hl (by decide) rfl (fun ls hl => ?_)
                    refine q_iinc (d := 1) (lv' := [(10, .int (nI (z + 1))), (5, .long (uv + 1)), (9, .int 0), (7, .long ((Jn 6) ((Nn 1) ((Ns 0) 7)))), (4, .int (nI ((Ns 0) 7))), (0, .ref (aC 3)), (1, .int (nI 7)), (2, .ref (aC 0)), (3, .ref (aC 2))]) C dX3_tryLevel_136 hl (k := 1) rfl (by decide) (by decide) rfl (fun ls hl => ?_)
                    refine lv_goto (tgt := 50) C.1 C.2.1 dX3_tryLevel_139 (by decide) ?_
                    exact ih50 (uv + 1) (z + 1) 0 (setB B3 ((Nn 1) ((Ns 0) 7))) (setJ J3 ((Nn 1) ((Ns 0) 7)) uv) (va_up I3 3 ((I3 3) + 1)) S3 cu2 k2 wq2 ac2 (by omega) (by omega) (by omega) (tb_dn C0 (by omega) TB5) (tv_down T5) hcu3 (by rw [gdC_cur C0.1 (by omega) (fun j hj => (hcu3 j hj).trans (hcu j hj).symm)]; exact hg3) (hs5.imp (fun q => ⟨q.1, q.2.trans (tv_ne e5 (fun q => c123 (q.trans (congrFun (T.2.1 6 (by decide)).symm _))))⟩) id) _ _ _ _ S Z (lv_sub hl [0, 2, 3, 1, 4, 5, 6, 7, 8] rfl)
                  · refine lv_goto (tgt := 142) C.1 C.2.1 dX3_tryLevel_127 (by decide) ?_
                    refine lv_aload_n C.1 C.2.1 dX3_tryLevel_142 rfl (lv_at hl 7 rfl) ?_
                    refine lv_iload C.1 C.2.1 dX3_tryLevel_143 (lv_at hl 4 rfl) ?_
                    refine q_callQv (As := [.int (nI ((Ns 0) 7))]) (rest := []) C S hl Z.2.2.1.1 rfl (c_unsetNumber Z.2.2.1 ((Ns 0) 7) (by first | omega | exact hL _ | exact hP _ | exact hF _) hL) (cwV 1 C.2.2.2.2 gX3_tryLevel_X1_unsetNumber rfl rfl rfl (by decide +kernel) ⟨Nat.le_of_ble_eq_true rfl, Nat.le_of_ble_eq_true rfl⟩) rfl rfl (Nat.le_of_ble_eq_true rfl) ⟨Nat.le_of_ble_eq_true rfl, Nat.le_of_ble_eq_true rfl⟩ dX3_tryLevel_145 (fun f H locs hv S => ?_)
                    obtain ⟨O1, F1⟩ := hv
                    have Z := CL_n Z F1 O1
                    refine lv_iload C.1 C.2.1 dX3_tryLevel_148 (lv_at hl 1 rfl) ?_
                    exact q_retQi C S hr hlk ⟨_, _, _, _, cu2, k2, wq2, ac2, Z, tb_unset C0 (by omega) (tb_dn C0 (by omega) TB5), tv_unset (tv_down T5) _, hcu3, by omega, hs5.imp (fun q => ⟨q.1, q.2.trans (tv_eq e5 (c123.trans (congrFun (T.2.1 6 (by decide)) _)))⟩) id⟩ dX3_tryLevel_150
                · refine lv_aload_n C.1 C.2.1 dX3_tryLevel_108 rfl (lv_at hl 5 rfl) ?_
                  refine lv_iload_n C.1 C.2.1 dX3_tryLevel_109 rfl (lv_at hl 6 rfl) ?_
                  refine lv_iconst (v := nI 1) C.1 C.2.1 dX3_tryLevel_110 (by decide) ?_
                  refine q_iadd C dX3_tryLevel_111 ?_
                  refine lv_aload_n C.1 C.2.1 dX3_tryLevel_112 rfl (lv_at hl 7 rfl) ?_
                  refine lv_aload_n C.1 C.2.1 dX3_tryLevel_113 rfl (lv_at hl 8 rfl) ?_
                  refine q_callQi (As := [.int (nI 8), .ref (aC 0), .ref (aC 2)]) (rest := []) C S hl Z.2.2.2.2.1.1 rfl (s_try8 (CL_rf Z) (va_up cu 7 uv) k1 wq ac C0 (by omega) TB4 T4 c105 hL hF) (cwV 3 C.2.2.2.2 gX3_tryLevel_X3_tryLevel rfl rfl rfl (by decide +kernel) ⟨Nat.le_of_ble_eq_true rfl, Nat.le_of_ble_eq_true rfl⟩) rfl rfl (Nat.le_of_ble_eq_true rfl) ⟨Nat.le_of_ble_eq_true rfl, Nat.le_of_ble_eq_true rfl⟩ dX3_tryLevel_114 (fun v f H locs hv S => ?_)
                  obtain ⟨B5, J5, I5, S5, cu2, k2, wq2, ac2, Z1, TB5, T5, hcu2, hk2, hs5⟩ := hv
                  have Z := CL_tr Z Z1
                  have hs5 : (v = 0 ∧ tyR (Nn 1) B0 J0 (Ns 0) (I0 1) K kn k 7 cur wc acc = tyB (Nn 1) B0 J0 (Ns 0) (I0 1) K kn k2 8 cu2 wq2 ac2) ∨ ((v = -3 ∨ v = -4) ∧ tyR (Nn 1) B0 J0 (Ns 0) (I0 1) K kn k 7 cur wc acc = (v, 5000 - k2, ac2)) := hs5.imp (fun q => ⟨q.1, hres.2.trans ((it_good c105).trans q.2)⟩) (fun q => ⟨q.1, hres.2.trans ((it_good c105).trans q.2)⟩)
                  refine lv_istore (lv' := [(9, .int v), (10, .int (nI z)), (7, .long ((Jn 6) ((Nn 1) ((Ns 0) 7)))), (5, .long uv), (4, .int (nI ((Ns 0) 7))), (0, .ref (aC 3)), (1, .int (nI 7)), (2, .ref (aC 0)), (3, .ref (aC 2))]) C.1 C.2.1 dX3_tryLevel_117 hl (by decide) rfl (fun ls hl => ?_)
                  have hcu3 : ∀ j, j < 7 → cu2 j = cur j := fun j hj => (hcu2 j (by omega)).trans ((up_n (by omega)).trans (hcu j hj))
                  have e5 : cu2 7 = uv := (hcu2 7 (by omega)).trans (up_s _ _ _)
                  refine lv_lload C.1 C.2.1 dX3_tryLevel_119 (lv_at hl 3 rfl) ?_
                  refine lv_lload C.1 C.2.1 dX3_tryLevel_121 (lv_at hl 2 rfl) ?_
                  refine q_lcmp_ne (tgt := 130) C dX3_tryLevel_123 dX3_tryLevel_124 (by decide) (fun c123 => ?_) (fun c123 => ?_)
                  · refine lv_lload C.1 C.2.1 dX3_tryLevel_130 (lv_at hl 3 rfl) ?_
                    refine lv_lconst (v := 1) C.1 C.2.1 dX3_tryLevel_132 (by decide) ?_
                    refine lv_ladd C.1 C.2.1 dX3_tryLevel_133 ?_
                    refine lv_lstore (lv' := [(5, .long (uv + 1)), (9, .int v), (10, .int (nI z)), (7, .long ((Jn 6) ((Nn 1) ((Ns 0) 7)))), (4, .int (nI ((Ns 0) 7))), (0, .ref (aC 3)), (1, .int (nI 7)), (2, .ref (aC 0)), (3, .ref (aC 2))]) C.1 C.2.1 dX3_tryLevel_134 hl (by decide) rfl (fun ls hl => ?_)
                    refine q_iinc (d := 1) (lv' := [(10, .int (nI (z + 1))), (5, .long (uv + 1)), (9, .int v), (7, .long ((Jn 6) ((Nn 1) ((Ns 0) 7)))), (4, .int (nI ((Ns 0) 7))), (0, .ref (aC 3)), (1, .int (nI 7)), (2, .ref (aC 0)), (3, .ref (aC 2))]) C dX3_tryLevel_136 hl (k := 2) rfl (by decide) (by decide) rfl (fun ls hl => ?_)
                    refine lv_goto (tgt := 50) C.1 C.2.1 dX3_tryLevel_139 (by decide) ?_
                    exact ih50 (uv + 1) (z + 1) v B5 J5 I5 S5 cu2 k2 wq2 ac2 (by omega) (by omega) (by omega) (tb_dn C0 (by omega) TB5) (tv_down T5) hcu3 (by rw [gdC_cur C0.1 (by omega) (fun j hj => (hcu3 j hj).trans (hcu j hj).symm)]; exact hg3) (hs5.imp (fun q => ⟨q.1, q.2.trans (tv_ne e5 (fun q => c123 (q.trans (congrFun (T.2.1 6 (by decide)).symm _))))⟩) id) _ _ _ _ S Z (lv_sub hl [0, 2, 3, 1, 4, 5, 6, 7, 8] rfl)
                  · refine lv_goto (tgt := 142) C.1 C.2.1 dX3_tryLevel_127 (by decide) ?_
                    refine lv_aload_n C.1 C.2.1 dX3_tryLevel_142 rfl (lv_at hl 7 rfl) ?_
                    refine lv_iload C.1 C.2.1 dX3_tryLevel_143 (lv_at hl 4 rfl) ?_
                    refine q_callQv (As := [.int (nI ((Ns 0) 7))]) (rest := []) C S hl Z.2.2.1.1 rfl (c_unsetNumber Z.2.2.1 ((Ns 0) 7) (by first | omega | exact hL _ | exact hP _ | exact hF _) hL) (cwV 1 C.2.2.2.2 gX3_tryLevel_X1_unsetNumber rfl rfl rfl (by decide +kernel) ⟨Nat.le_of_ble_eq_true rfl, Nat.le_of_ble_eq_true rfl⟩) rfl rfl (Nat.le_of_ble_eq_true rfl) ⟨Nat.le_of_ble_eq_true rfl, Nat.le_of_ble_eq_true rfl⟩ dX3_tryLevel_145 (fun f H locs hv S => ?_)
                    obtain ⟨O1, F1⟩ := hv
                    have Z := CL_n Z F1 O1
                    refine lv_iload C.1 C.2.1 dX3_tryLevel_148 (lv_at hl 0 rfl) ?_
                    exact q_retQi C S hr hlk ⟨_, _, _, _, cu2, k2, wq2, ac2, Z, tb_unset C0 (by omega) (tb_dn C0 (by omega) TB5), tv_unset (tv_down T5) _, hcu3, by omega, hs5.imp (fun q => ⟨q.1, q.2.trans (tv_eq e5 (c123.trans (congrFun (T.2.1 6 (by decide)) _)))⟩) id⟩ dX3_tryLevel_150
              · obtain rfl : kk = 0 := by omega
                refine lv_bipush (v := (-3)) C.1 C.2.1 dX3_tryLevel_73 (by decide) ?_
                refine lv_istore (lv' := [(9, .int (-3)), (10, .int (nI z)), (7, .long ((Jn 6) ((Nn 1) ((Ns 0) 7)))), (5, .long uv), (4, .int (nI ((Ns 0) 7))), (0, .ref (aC 3)), (1, .int (nI 7)), (2, .ref (aC 0)), (3, .ref (aC 2))]) C.1 C.2.1 dX3_tryLevel_75 hl (by decide) rfl (fun ls hl => ?_)
                refine lv_goto (tgt := 142) C.1 C.2.1 dX3_tryLevel_77 (by decide) ?_
                refine lv_aload_n C.1 C.2.1 dX3_tryLevel_142 rfl (lv_at hl 7 rfl) ?_
                refine lv_iload C.1 C.2.1 dX3_tryLevel_143 (lv_at hl 4 rfl) ?_
                refine q_callQv (As := [.int (nI ((Ns 0) 7))]) (rest := []) C S hl Z.2.2.1.1 rfl (c_unsetNumber Z.2.2.1 ((Ns 0) 7) (by first | omega | exact hL _ | exact hP _ | exact hF _) hL) (cwV 1 C.2.2.2.2 gX3_tryLevel_X1_unsetNumber rfl rfl rfl (by decide +kernel) ⟨Nat.le_of_ble_eq_true rfl, Nat.le_of_ble_eq_true rfl⟩) rfl rfl (Nat.le_of_ble_eq_true rfl) ⟨Nat.le_of_ble_eq_true rfl, Nat.le_of_ble_eq_true rfl⟩ dX3_tryLevel_145 (fun f H locs hv S => ?_)
                obtain ⟨O1, F1⟩ := hv
                have Z := CL_n Z F1 O1
                refine lv_iload C.1 C.2.1 dX3_tryLevel_148 (lv_at hl 0 rfl) ?_
                exact q_retQi C S hr hlk ⟨_, _, _, _, cu, 0, wq, ac, Z, tb_unset C0 (by omega) TB3, tv_unset T3 _, hcu, Nat.zero_le _, Or.inr ⟨Or.inl rfl, hres.2.trans it_0⟩⟩ dX3_tryLevel_150
      exact lp50 (k + 1) ((Jn 5) ((Nn 1) ((Ns 0) 7))) 0 0 Bn Jn Is Js cur k wc acc (by omega) (by omega) (Nat.le_refl _) (fun r _ => TB r) T (fun _ _ => rfl) hg (Or.inl ⟨rfl, (itA_lt (by omega)).trans (by rw [T.2.1 5 (by decide)]; rfl)⟩) _ _ _ _ S Z (lv_sub hl [0, 1, 2, 3, 4, 5, 6, 7, 8] rfl)
    · exact absurd c11 (by decide)
set_option maxHeartbeats 4000000 in
set_option maxRecDepth 100000 in
theorem s_try6 {l : Launch} {G : fw_G} {A : Nat → Prop} {f0 : fw_F} {hc : Nat} {aC an ar as_ : Nat → Nat} {In : Nat → Nat} {Nn : Nat → Nat → Nat} {Bn : Nat → Nat → Bool} {Jn : Nat → Nat → Int64} {Ir : Nat → Nat} {Nr : Nat → Nat → Nat} {Br : Nat → Nat → Bool} {Jr : Nat → Nat → Int64} {Is : Nat → Nat} {Ns : Nat → Nat → Nat} {Bs : Nat → Nat → Bool} {Js : Nat → Nat → Int64} {Ic : Nat → Nat} {Nc : Nat → Nat → Nat} {kn : Nat} {K : Nat → kRT} {mn : Nat} {M : Nat → sNT} (Z : CL G f0 f0 hc aC an ar as_ In Nn Bn Jn Ir Nr Br Jr Is Ns Bs Js Ic Nc kn K mn M) {B0 : Nat → Nat → Bool} {J0 : Nat → Nat → Int64} {I0 : Nat → Nat} {S0 : Nat → Nat → Int64} (cur : Nat → Int64) (k wc : Nat) (acc : Nat → Nat → Int64) (C0 : tvC (Nn 1) B0 S0 (Ns 0) (I0 1) K kn) (han : 6 ≤ I0 1) (TB : ∀ r, Bn 2 r = knL (B0 2) (Ns 0) 6 r) (T : tvR B0 J0 I0 S0 (Ns 0) 6 cur k wc acc Bn Jn Is Js) (hg : gdC K kn (Nn 1) (B0 2) (J0 3) (Ns 0) (I0 1) 6 cur = true) (hL : ∀ i, Nn 1 i < 64) (hF : ∀ i, Ns 0 i < 64)  : Met l yX3_tryLevel wsX3_tryLevel ({ frames := 5, cells := 0, slots := 0, locals := 121 }) (va_Pc [.ref (aC 3), .int (nI 6), .ref (aC 0), .ref (aC 2)] (fw_P G A f0)) (va_Qi (fun (r : Int32) (f1 : fw_F) => tyP (Nn 1) B0 J0 I0 S0 (Ns 0) K kn 6 cur k wc acc r (fun Bq Jq Iq Sq => CL G f0 f1 hc aC an ar as_ In Nn Bq Jq Ir Nr Br Jr Iq Ns Bs Sq Ic Nc kn K mn M)) (fw_B G A) A) 0 0 A := by
  refine q_head rfl (by decide) (Nat.le_of_ble_eq_true rfl) ?_
  intro p e s m below meth c ls C hr hlk hnm P hl
  have S := P.start
  have hl : lv_has ls 11 [(0, .ref (aC 3)), (1, .int (nI 6)), (2, .ref (aC 0)), (3, .ref (aC 2))] := hl
  have h8 := C0.2.1
  have hI1 : Is 1 = I0 1 := T.2.2.2.2.1 1 (by decide) (by decide)
  have hwc : Is 2 = wc := T.2.2.2.2.2.1
  have hw2 := T.2.2.2.2.2.2.2.1
  have h3k := T.2.2.2.2.2.2.1
  refine lv_iload_n C.1 C.2.1 dX3_tryLevel_0 rfl (lv_at hl 1 rfl) ?_
  refine lv_aload_n C.1 C.2.1 dX3_tryLevel_1 rfl (lv_at hl 0 rfl) ?_
  refine o_get (v := .int (nI (Is 1))) C S Z.2.2.2.2.1 rfl inX3_tryLevel_X3 1 (Nat.le_of_ble_eq_true rfl) lkX3_tryLevel_22 rfl dX3_tryLevel_2 ?_
  refine q_ge (tgt := 14) C (by decide) (by omega) dX3_tryLevel_5 (by decide) (fun c5 => ?_) (fun c5 => ?_)
  · refine lv_aload_n C.1 C.2.1 dX3_tryLevel_14 rfl (lv_at hl 0 rfl) ?_
    refine lv_aload_n C.1 C.2.1 dX3_tryLevel_15 rfl (lv_at hl 2 rfl) ?_
    refine q_callQi (As := [.ref (aC 0)]) (rest := []) C S hl Z.2.2.2.2.1.1 rfl (c_addWay Z.2.2.2.2.1 Z.2.2.1 (by decide) (by omega) (by omega) hF hL) (cwV 1 C.2.2.2.2 gX3_tryLevel_X3_addWay rfl rfl rfl (by decide +kernel) ⟨Nat.le_of_ble_eq_true rfl, Nat.le_of_ble_eq_true rfl⟩) rfl rfl (Nat.le_of_ble_eq_true rfl) ⟨Nat.le_of_ble_eq_true rfl, Nat.le_of_ble_eq_true rfl⟩ dX3_tryLevel_16 (fun v f H locs hv S => ?_)
    obtain ⟨hv, F1⟩ := hv
    rcases hv with ⟨h1, rfl, O1⟩ | ⟨h1, rfl, O1⟩
    · have Z := CL_s Z F1 O1
      exact q_retQi C S hr hlk ⟨_, _, _, _, cur, k, wc + 1, va_up acc wc cur, Z, TB, tv_way (fun j hj => (C0.2.2.1 j hj).1) h8 (by omega) (by omega) T, fun _ _ => rfl, Nat.le_refl _, Or.inl ⟨rfl, itA_way (by omega) (by omega)⟩⟩ dX3_tryLevel_19
    · have Z := CL_s Z F1 O1
      exact q_retQi C S hr hlk ⟨_, _, _, _, cur, k, wc, acc, Z, TB, T, fun _ _ => rfl, Nat.le_refl _, Or.inr ⟨Or.inr rfl, itA_full (by omega) (by omega)⟩⟩ dX3_tryLevel_19
  · refine lv_iload_n C.1 C.2.1 dX3_tryLevel_8 rfl (lv_at hl 1 rfl) ?_
    refine lv_bipush (v := nI 8) C.1 C.2.1 dX3_tryLevel_9 (by decide) ?_
    refine q_lt (tgt := 20) C (by decide) (by decide) dX3_tryLevel_11 (by decide) (fun c11 => ?_) (fun c11 => ?_)
    · refine lv_aload_n C.1 C.2.1 dX3_tryLevel_20 rfl (lv_at hl 0 rfl) ?_
      refine o_get (v := .ref (as_ 0)) C S Z.2.2.2.2.1 rfl inX3_tryLevel_X3 0 (Nat.le_of_ble_eq_true rfl) lkX3_tryLevel_9 rfl dX3_tryLevel_21 ?_
      refine lv_iload_n C.1 C.2.1 dX3_tryLevel_24 rfl (lv_at hl 1 rfl) ?_
      refine o_nald (x := (Ns 0) 6) C S Z.2.2.2.2.1 0 (Nat.le_of_ble_eq_true rfl) rfl 6 rfl (show 6 < 32 from by first | omega | exact hL _ | exact hP _ | exact hF _) (Nat.le_of_ble_eq_true rfl) rfl dX3_tryLevel_25 ?_
      refine lv_istore (lv' := [(4, .int (nI ((Ns 0) 6))), (0, .ref (aC 3)), (1, .int (nI 6)), (2, .ref (aC 0)), (3, .ref (aC 2))]) C.1 C.2.1 dX3_tryLevel_26 hl (by decide) rfl (fun ls hl => ?_)
      refine lv_aload_n C.1 C.2.1 dX3_tryLevel_28 rfl (lv_at hl 3 rfl) ?_
      refine lv_iload C.1 C.2.1 dX3_tryLevel_29 (lv_at hl 0 rfl) ?_
      refine q_callSl (As := [.int (nI ((Ns 0) 6))]) (rest := []) C S hl Z.2.2.1.1 rfl (c_lowOf Z.2.2.1 ((Ns 0) 6) (by first | omega | exact hL _ | exact hP _ | exact hF _) hL) (cwV 1 C.2.2.2.2 gX3_tryLevel_X1_lowOf rfl rfl rfl (by decide +kernel) ⟨Nat.le_of_ble_eq_true rfl, Nat.le_of_ble_eq_true rfl⟩) rfl rfl (Nat.le_of_ble_eq_true rfl) ⟨Nat.le_of_ble_eq_true rfl, Nat.le_of_ble_eq_true rfl⟩ dX3_tryLevel_31 (fun v hv => ?_)
      subst hv
      refine lv_lstore (lv' := [(5, .long ((Jn 5) ((Nn 1) ((Ns 0) 6)))), (4, .int (nI ((Ns 0) 6))), (0, .ref (aC 3)), (1, .int (nI 6)), (2, .ref (aC 0)), (3, .ref (aC 2))]) C.1 C.2.1 dX3_tryLevel_34 hl (by decide) rfl (fun ls hl => ?_)
      refine lv_aload_n C.1 C.2.1 dX3_tryLevel_36 rfl (lv_at hl 4 rfl) ?_
      refine lv_iload C.1 C.2.1 dX3_tryLevel_37 (lv_at hl 1 rfl) ?_
      refine q_callSl (As := [.int (nI ((Ns 0) 6))]) (rest := []) C S hl Z.2.2.1.1 rfl (c_highOf Z.2.2.1 ((Ns 0) 6) (by first | omega | exact hL _ | exact hP _ | exact hF _) hL) (cwV 1 C.2.2.2.2 gX3_tryLevel_X1_highOf rfl rfl rfl (by decide +kernel) ⟨Nat.le_of_ble_eq_true rfl, Nat.le_of_ble_eq_true rfl⟩) rfl rfl (Nat.le_of_ble_eq_true rfl) ⟨Nat.le_of_ble_eq_true rfl, Nat.le_of_ble_eq_true rfl⟩ dX3_tryLevel_39 (fun v hv => ?_)
      subst hv
      refine lv_lstore (lv' := [(7, .long ((Jn 6) ((Nn 1) ((Ns 0) 6)))), (5, .long ((Jn 5) ((Nn 1) ((Ns 0) 6)))), (4, .int (nI ((Ns 0) 6))), (0, .ref (aC 3)), (1, .int (nI 6)), (2, .ref (aC 0)), (3, .ref (aC 2))]) C.1 C.2.1 dX3_tryLevel_42 hl (by decide) rfl (fun ls hl => ?_)
      refine lv_iconst (v := 0) C.1 C.2.1 dX3_tryLevel_44 (by decide) ?_
      refine lv_istore (lv' := [(9, .int 0), (7, .long ((Jn 6) ((Nn 1) ((Ns 0) 6)))), (5, .long ((Jn 5) ((Nn 1) ((Ns 0) 6)))), (4, .int (nI ((Ns 0) 6))), (0, .ref (aC 3)), (1, .int (nI 6)), (2, .ref (aC 0)), (3, .ref (aC 2))]) C.1 C.2.1 dX3_tryLevel_45 hl (by decide) rfl (fun ls hl => ?_)
      refine lv_iconst (v := nI 0) C.1 C.2.1 dX3_tryLevel_47 (by decide) ?_
      refine lv_istore (lv' := [(10, .int (nI 0)), (9, .int 0), (7, .long ((Jn 6) ((Nn 1) ((Ns 0) 6)))), (5, .long ((Jn 5) ((Nn 1) ((Ns 0) 6)))), (4, .int (nI ((Ns 0) 6))), (0, .ref (aC 3)), (1, .int (nI 6)), (2, .ref (aC 0)), (3, .ref (aC 2))]) C.1 C.2.1 dX3_tryLevel_48 hl (by decide) rfl (fun ls hl => ?_)
      have lp50 : ∀ (n50 : Nat) (uv : Int64) (z : Nat) (sp : Int32) (B3 : Nat → Nat → Bool) (J3 : Nat → Nat → Int64) (I3 : Nat → Nat) (S3 : Nat → Nat → Int64) (cu : Nat → Int64) (kk : Nat) (wq : Nat) (ac : Nat → Nat → Int64), kk < n50 → (z + kk ≤ 5000) → (kk ≤ k) → (∀ r, r ≠ Ns 0 6 → B3 2 r = knL (B0 2) (Ns 0) 6 r) → (tvR B0 J0 I0 S0 (Ns 0) 6 cu kk wq ac B3 J3 I3 S3) → (∀ j, j < 6 → cu j = cur j) → (gdC K kn (Nn 1) (B0 2) (J0 3) (Ns 0) (I0 1) 6 cu = true) → ((sp = 0 ∧ tyR (Nn 1) B0 J0 (Ns 0) (I0 1) K kn k 6 cur wc acc = tyT (Nn 1) B0 J0 (Ns 0) (I0 1) K kn kk 6 (va_up cu 6 uv) wq ac) ∨ ((sp = -3 ∨ sp = -4) ∧ tyR (Nn 1) B0 J0 (Ns 0) (I0 1) K kn k 6 cur wc acc = (sp, 5000 - kk, ac))) → ∀ (f : fw_F) (H : Heap) (locs : List Loc) (ls : Array Slot), fw_S G A s f H locs → CL G f0 f hc aC an ar as_ In Nn B3 J3 Ir Nr Br Jr I3 Ns Bs S3 Ic Nc kn K mn M → lv_has ls 11 [(10, .int (nI z)), (9, .int sp), (7, .long ((Jn 6) ((Nn 1) ((Ns 0) 6)))), (5, .long uv), (4, .int (nI ((Ns 0) 6))), (0, .ref (aC 3)), (1, .int (nI 6)), (2, .ref (aC 0)), (3, .ref (aC 2))] → W p l e ({ frames := 5, cells := 0, slots := 0, locals := 121 }) s m [.ref (aC 3), .int (nI 6), .ref (aC 0), .ref (aC 2)].toArray below meth c H locs 0 0 (MQ below (va_Qi (fun (r : Int32) (f1 : fw_F) => tyP (Nn 1) B0 J0 I0 S0 (Ns 0) K kn 6 cur k wc acc r (fun Bq Jq Iq Sq => CL G f0 f1 hc aC an ar as_ In Nn Bq Jq Ir Nr Br Jr Iq Ns Bs Sq Ic Nc kn K mn M)) (fw_B G A) A) [.ref (aC 3), .int (nI 6), .ref (aC 0), .ref (aC 2)].toArray s 0 0 A) (F0 m 50 ls []) := by
        intro n50
        induction n50 with
        | zero => intro uv z sp B3 J3 I3 S3 cu kk wq ac hme50; exact absurd hme50 (Nat.not_lt_zero _)
        | succ n50 ih50 =>
          intro uv z sp B3 J3 I3 S3 cu kk wq ac hme50 hzk hkk TB3 T3 hcu hg3 hsp f H locs ls S Z hl
          refine lv_iload C.1 C.2.1 dX3_tryLevel_50 (lv_at hl 0 rfl) ?_
          refine lv_sipush (v := nI 5000) C.1 C.2.1 dX3_tryLevel_52 (by decide) ?_
          refine q_gt (tgt := 142) C (by omega) (by decide) dX3_tryLevel_55 (by decide) (fun c55 => ?_) (fun c55 => ?_)
          · exact absurd c55 (by omega)
          · refine lv_iload C.1 C.2.1 dX3_tryLevel_58 (lv_at hl 1 rfl) ?_
            refine lv_if_ne (tgt := 142) C.1 C.2.1 dX3_tryLevel_60 (by decide) (fun c60 => ?_) (fun c60 => ?_)
            · refine lv_aload_n C.1 C.2.1 dX3_tryLevel_142 rfl (lv_at hl 7 rfl) ?_
              refine lv_iload C.1 C.2.1 dX3_tryLevel_143 (lv_at hl 4 rfl) ?_
              refine q_callQv (As := [.int (nI ((Ns 0) 6))]) (rest := []) C S hl Z.2.2.1.1 rfl (c_unsetNumber Z.2.2.1 ((Ns 0) 6) (by first | omega | exact hL _ | exact hP _ | exact hF _) hL) (cwV 1 C.2.2.2.2 gX3_tryLevel_X1_unsetNumber rfl rfl rfl (by decide +kernel) ⟨Nat.le_of_ble_eq_true rfl, Nat.le_of_ble_eq_true rfl⟩) rfl rfl (Nat.le_of_ble_eq_true rfl) ⟨Nat.le_of_ble_eq_true rfl, Nat.le_of_ble_eq_true rfl⟩ dX3_tryLevel_145 (fun f H locs hv S => ?_)
              obtain ⟨O1, F1⟩ := hv
              have Z := CL_n Z F1 O1
              refine lv_iload C.1 C.2.1 dX3_tryLevel_148 (lv_at hl 1 rfl) ?_
              exact q_retQi C S hr hlk ⟨_, _, _, _, cu, kk, wq, ac, Z, tb_unset C0 (by omega) TB3, tv_unset T3 _, hcu, hkk, Or.inr (hsp.resolve_left (fun q => c60 q.1))⟩ dX3_tryLevel_150
            · obtain rfl : sp = 0 := by first | exact c60 | exact Decidable.not_not.mp c60
              have hres := hsp.resolve_right (fun q => by rcases q.1 with q | q <;> exact absurd q (by decide))
              have h37 := T3.2.2.2.2.2.2.1
              refine lv_aload_n C.1 C.2.1 dX3_tryLevel_63 rfl (lv_at hl 5 rfl) ?_
              refine o_get (v := .int (nI (I3 3))) C S Z.2.2.2.2.1 rfl inX3_tryLevel_X3 3 (Nat.le_of_ble_eq_true rfl) lkX3_tryLevel_36 rfl dX3_tryLevel_64 ?_
              refine lv_sipush (v := nI 5000) C.1 C.2.1 dX3_tryLevel_67 (by decide) ?_
              refine q_lt (tgt := 80) C (by omega) (by decide) dX3_tryLevel_70 (by decide) (fun c70 => ?_) (fun c70 => ?_)
              · obtain ⟨k1, rfl⟩ : ∃ k1, kk = k1 + 1 := ⟨kk - 1, by omega⟩
                refine lv_aload_n C.1 C.2.1 dX3_tryLevel_80 rfl (lv_at hl 5 rfl) ?_
                refine lv_dup C.1 C.2.1 dX3_tryLevel_81 rfl ?_
                refine o_get (v := .int (nI (I3 3))) C S Z.2.2.2.2.1 rfl inX3_tryLevel_X3 3 (Nat.le_of_ble_eq_true rfl) lkX3_tryLevel_36 rfl dX3_tryLevel_82 ?_
                refine lv_iconst (v := nI 1) C.1 C.2.1 dX3_tryLevel_85 (by decide) ?_
                refine q_iadd C dX3_tryLevel_86 ?_
                refine o_puti C S Z.2.2.2.2.1 (fw_fr_rf _ 3300 (3300 + 7)) rfl inX3_tryLevel_X3 tyX3 tyX3_ok nmX3 3 (Nat.le_of_ble_eq_true rfl) rfl lkX3_tryLevel_36 rfl rfl ⟨by decide, by decide⟩ dX3_tryLevel_87 (fun f H locs S O1 F1 => ?_)
                have Z := CL_s Z F1 O1
                refine lv_aload_n C.1 C.2.1 dX3_tryLevel_90 rfl (lv_at hl 7 rfl) ?_
                refine lv_iload C.1 C.2.1 dX3_tryLevel_91 (lv_at hl 4 rfl) ?_
                refine lv_lload C.1 C.2.1 dX3_tryLevel_93 (lv_at hl 3 rfl) ?_
                refine q_callQv (As := [.int (nI ((Ns 0) 6)), .long uv]) (rest := []) C S hl Z.2.2.1.1 rfl (c_setNumber Z.2.2.1 ((Ns 0) 6) (by first | omega | exact hL _ | exact hP _ | exact hF _) hL uv) (cwV 2 C.2.2.2.2 gX3_tryLevel_X1_setNumber rfl rfl rfl (by decide +kernel) ⟨Nat.le_of_ble_eq_true rfl, Nat.le_of_ble_eq_true rfl⟩) rfl rfl (Nat.le_of_ble_eq_true rfl) ⟨Nat.le_of_ble_eq_true rfl, Nat.le_of_ble_eq_true rfl⟩ dX3_tryLevel_95 (fun f H locs hv S => ?_)
                obtain ⟨O1, F1⟩ := hv
                have Z := CL_n Z F1 O1
                have T4 := tv_set C0 (by omega) T3 uv
                have TB4 := tb_set2 C0 (by omega) TB3
                have hlo4 : ∀ i, i < kn → (S3 5 i).toInt32 = mI (lkC (Nn 1) (B0 2) (Ns 0) (I0 1) (K i)) ∧ lkC (Nn 1) (B0 2) (Ns 0) (I0 1) (K i) < 64 := fun i hi => ⟨by rw [T3.2.2.2.2.2.2.2.2.1 5 (by decide)]; exact C0.2.2.2 i hi, by have := lkC_le (L := Nn 1) (B := B0 2) (fr := Ns 0) (c := I0 1) (k := K i); omega⟩
                refine lv_aload_n C.1 C.2.1 dX3_tryLevel_98 rfl (lv_at hl 5 rfl) ?_
                refine lv_iload_n C.1 C.2.1 dX3_tryLevel_99 rfl (lv_at hl 6 rfl) ?_
                refine lv_aload_n C.1 C.2.1 dX3_tryLevel_100 rfl (lv_at hl 7 rfl) ?_
                refine lv_aload_n C.1 C.2.1 dX3_tryLevel_101 rfl (lv_at hl 8 rfl) ?_
                refine q_callSi (As := [.int (nI 6), .ref (aC 0), .ref (aC 2)]) (rest := []) C S hl Z.2.2.2.2.1.1 rfl (s_isGood (CL_rf Z) 6 (by decide) (fun i => lkC (Nn 1) (B0 2) (Ns 0) (I0 1) (K i)) hlo4 hL) (cwV 3 C.2.2.2.2 gX3_tryLevel_X3_isGood rfl rfl rfl (by decide +kernel) ⟨Nat.le_of_ble_eq_true rfl, Nat.le_of_ble_eq_true rfl⟩) rfl rfl (Nat.le_of_ble_eq_true rfl) ⟨Nat.le_of_ble_eq_true rfl, Nat.le_of_ble_eq_true rfl⟩ dX3_tryLevel_102 (fun v hv => ?_)
                have hv : v = bI (gdC K kn (Nn 1) (B0 2) (J0 3) (Ns 0) (I0 1) 7 (va_up cu 6 uv)) := hv.trans (congrArg bI (gd_step C0 (by omega) hg3 T4))
                subst hv
                refine q_ifeqB (tgt := 119) C dX3_tryLevel_105 (by decide) (fun c105 => ?_) (fun c105 => ?_)
                · obtain ⟨cu2, k2, wq2, ac2, T5, TB5, hcu2, hk2, hs5⟩ : ∃ cu2 k2 wq2 ac2, tvR B0 J0 I0 S0 (Ns 0) 7 cu2 k2 wq2 ac2 (setB B3 ((Nn 1) ((Ns 0) 6))) (setJ J3 ((Nn 1) ((Ns 0) 6)) uv) (va_up I3 3 ((I3 3) + 1)) S3 ∧ (∀ r, (setB B3 ((Nn 1) ((Ns 0) 6))) 2 r = knL (B0 2) (Ns 0) 7 r) ∧ (∀ j, j < 7 → cu2 j = va_up cu 6 uv j) ∧ k2 ≤ k1 ∧ (((0 : Int32) = 0 ∧ tyR (Nn 1) B0 J0 (Ns 0) (I0 1) K kn k 6 cur wc acc = tyB (Nn 1) B0 J0 (Ns 0) (I0 1) K kn k2 7 cu2 wq2 ac2) ∨ (((0 : Int32) = -3 ∨ (0 : Int32) = -4) ∧ tyR (Nn 1) B0 J0 (Ns 0) (I0 1) K kn k 6 cur wc acc = ((0 : Int32), 5000 - k2, ac2))) := ⟨va_up cu 6 uv, k1, wq, ac, T4, TB4, fun _ _ => rfl, Nat.le_refl _, Or.inl ⟨rfl, hres.2.trans (it_bad c105)⟩⟩
                  have hcu3 : ∀ j, j < 6 → cu2 j = cur j := fun j hj => (hcu2 j (by omega)).trans ((up_n (by omega)).trans (hcu j hj))
                  have e5 : cu2 6 = uv := (hcu2 6 (by omega)).trans (up_s _ _ _)
                  refine lv_lload C.1 C.2.1 dX3_tryLevel_119 (lv_at hl 3 rfl) ?_
                  refine lv_lload C.1 C.2.1 dX3_tryLevel_121 (lv_at hl 2 rfl) ?_
                  refine q_lcmp_ne (tgt := 130) C dX3_tryLevel_123 dX3_tryLevel_124 (by decide) (fun c123 => ?_) (fun c123 => ?_)
                  · refine lv_lload C.1 C.2.1 dX3_tryLevel_130 (lv_at hl 3 rfl) ?_
                    refine lv_lconst (v := 1) C.1 C.2.1 dX3_tryLevel_132 (by decide) ?_
                    refine lv_ladd C.1 C.2.1 dX3_tryLevel_133 ?_
                    refine lv_lstore (lv' := [(5, .long (uv + 1)), (10, .int (nI z)), (9, .int 0), (7, .long ((Jn 6) ((Nn 1) ((Ns 0) 6)))), (4, .int (nI ((Ns 0) 6))), (0, .ref (aC 3)), (1, .int (nI 6)), (2, .ref (aC 0)), (3, .ref (aC 2))]) C.1 C.2.1 dX3_tryLevel_134 hl (by decide) rfl (fun ls hl => ?_)
                    refine q_iinc (d := 1) (lv' := [(10, .int (nI (z + 1))), (5, .long (uv + 1)), (9, .int 0), (7, .long ((Jn 6) ((Nn 1) ((Ns 0) 6)))), (4, .int (nI ((Ns 0) 6))), (0, .ref (aC 3)), (1, .int (nI 6)), (2, .ref (aC 0)), (3, .ref (aC 2))]) C dX3_tryLevel_136 hl (k := 1) rfl (by decide) (by decide) rfl (fun ls hl => ?_)
                    refine lv_goto (tgt := 50) C.1 C.2.1 dX3_tryLevel_139 (by decide) ?_
                    exact ih50 (uv + 1) (z + 1) 0 (setB B3 ((Nn 1) ((Ns 0) 6))) (setJ J3 ((Nn 1) ((Ns 0) 6)) uv) (va_up I3 3 ((I3 3) + 1)) S3 cu2 k2 wq2 ac2 (by omega) (by omega) (by omega) (tb_dn C0 (by omega) TB5) (tv_down T5) hcu3 (by rw [gdC_cur C0.1 (by omega) (fun j hj => (hcu3 j hj).trans (hcu j hj).symm)]; exact hg3) (hs5.imp (fun q => ⟨q.1, q.2.trans (tv_ne e5 (fun q => c123 (q.trans (congrFun (T.2.1 6 (by decide)).symm _))))⟩) id) _ _ _ _ S Z (lv_sub hl [0, 2, 3, 1, 4, 5, 6, 7, 8] rfl)
                  · refine lv_goto (tgt := 142) C.1 C.2.1 dX3_tryLevel_127 (by decide) ?_
                    refine lv_aload_n C.1 C.2.1 dX3_tryLevel_142 rfl (lv_at hl 7 rfl) ?_
                    refine lv_iload C.1 C.2.1 dX3_tryLevel_143 (lv_at hl 4 rfl) ?_
                    refine q_callQv (As := [.int (nI ((Ns 0) 6))]) (rest := []) C S hl Z.2.2.1.1 rfl (c_unsetNumber Z.2.2.1 ((Ns 0) 6) (by first | omega | exact hL _ | exact hP _ | exact hF _) hL) (cwV 1 C.2.2.2.2 gX3_tryLevel_X1_unsetNumber rfl rfl rfl (by decide +kernel) ⟨Nat.le_of_ble_eq_true rfl, Nat.le_of_ble_eq_true rfl⟩) rfl rfl (Nat.le_of_ble_eq_true rfl) ⟨Nat.le_of_ble_eq_true rfl, Nat.le_of_ble_eq_true rfl⟩ dX3_tryLevel_145 (fun f H locs hv S => ?_)
                    obtain ⟨O1, F1⟩ := hv
                    have Z := CL_n Z F1 O1
                    refine lv_iload C.1 C.2.1 dX3_tryLevel_148 (lv_at hl 1 rfl) ?_
                    exact q_retQi C S hr hlk ⟨_, _, _, _, cu2, k2, wq2, ac2, Z, tb_unset C0 (by omega) (tb_dn C0 (by omega) TB5), tv_unset (tv_down T5) _, hcu3, by omega, hs5.imp (fun q => ⟨q.1, q.2.trans (tv_eq e5 (c123.trans (congrFun (T.2.1 6 (by decide)) _)))⟩) id⟩ dX3_tryLevel_150
                · refine lv_aload_n C.1 C.2.1 dX3_tryLevel_108 rfl (lv_at hl 5 rfl) ?_
                  refine lv_iload_n C.1 C.2.1 dX3_tryLevel_109 rfl (lv_at hl 6 rfl) ?_
                  refine lv_iconst (v := nI 1) C.1 C.2.1 dX3_tryLevel_110 (by decide) ?_
                  refine q_iadd C dX3_tryLevel_111 ?_
                  refine lv_aload_n C.1 C.2.1 dX3_tryLevel_112 rfl (lv_at hl 7 rfl) ?_
                  refine lv_aload_n C.1 C.2.1 dX3_tryLevel_113 rfl (lv_at hl 8 rfl) ?_
                  refine q_callQi (As := [.int (nI 7), .ref (aC 0), .ref (aC 2)]) (rest := []) C S hl Z.2.2.2.2.1.1 rfl (s_try7 (CL_rf Z) (va_up cu 6 uv) k1 wq ac C0 (by omega) TB4 T4 c105 hL hF) (cwV 3 C.2.2.2.2 gX3_tryLevel_X3_tryLevel rfl rfl rfl (by decide +kernel) ⟨Nat.le_of_ble_eq_true rfl, Nat.le_of_ble_eq_true rfl⟩) rfl rfl (Nat.le_of_ble_eq_true rfl) ⟨Nat.le_of_ble_eq_true rfl, Nat.le_of_ble_eq_true rfl⟩ dX3_tryLevel_114 (fun v f H locs hv S => ?_)
                  obtain ⟨B5, J5, I5, S5, cu2, k2, wq2, ac2, Z1, TB5, T5, hcu2, hk2, hs5⟩ := hv
                  have Z := CL_tr Z Z1
                  have hs5 : (v = 0 ∧ tyR (Nn 1) B0 J0 (Ns 0) (I0 1) K kn k 6 cur wc acc = tyB (Nn 1) B0 J0 (Ns 0) (I0 1) K kn k2 7 cu2 wq2 ac2) ∨ ((v = -3 ∨ v = -4) ∧ tyR (Nn 1) B0 J0 (Ns 0) (I0 1) K kn k 6 cur wc acc = (v, 5000 - k2, ac2)) := hs5.imp (fun q => ⟨q.1, hres.2.trans ((it_good c105).trans q.2)⟩) (fun q => ⟨q.1, hres.2.trans ((it_good c105).trans q.2)⟩)
                  refine lv_istore (lv' := [(9, .int v), (10, .int (nI z)), (7, .long ((Jn 6) ((Nn 1) ((Ns 0) 6)))), (5, .long uv), (4, .int (nI ((Ns 0) 6))), (0, .ref (aC 3)), (1, .int (nI 6)), (2, .ref (aC 0)), (3, .ref (aC 2))]) C.1 C.2.1 dX3_tryLevel_117 hl (by decide) rfl (fun ls hl => ?_)
                  have hcu3 : ∀ j, j < 6 → cu2 j = cur j := fun j hj => (hcu2 j (by omega)).trans ((up_n (by omega)).trans (hcu j hj))
                  have e5 : cu2 6 = uv := (hcu2 6 (by omega)).trans (up_s _ _ _)
                  refine lv_lload C.1 C.2.1 dX3_tryLevel_119 (lv_at hl 3 rfl) ?_
                  refine lv_lload C.1 C.2.1 dX3_tryLevel_121 (lv_at hl 2 rfl) ?_
                  refine q_lcmp_ne (tgt := 130) C dX3_tryLevel_123 dX3_tryLevel_124 (by decide) (fun c123 => ?_) (fun c123 => ?_)
                  · refine lv_lload C.1 C.2.1 dX3_tryLevel_130 (lv_at hl 3 rfl) ?_
                    refine lv_lconst (v := 1) C.1 C.2.1 dX3_tryLevel_132 (by decide) ?_
                    refine lv_ladd C.1 C.2.1 dX3_tryLevel_133 ?_
                    refine lv_lstore (lv' := [(5, .long (uv + 1)), (9, .int v), (10, .int (nI z)), (7, .long ((Jn 6) ((Nn 1) ((Ns 0) 6)))), (4, .int (nI ((Ns 0) 6))), (0, .ref (aC 3)), (1, .int (nI 6)), (2, .ref (aC 0)), (3, .ref (aC 2))]) C.1 C.2.1 dX3_tryLevel_134 hl (by decide) rfl (fun ls hl => ?_)
                    refine q_iinc (d := 1) (lv' := [(10, .int (nI (z + 1))), (5, .long (uv + 1)), (9, .int v), (7, .long ((Jn 6) ((Nn 1) ((Ns 0) 6)))), (4, .int (nI ((Ns 0) 6))), (0, .ref (aC 3)), (1, .int (nI 6)), (2, .ref (aC 0)), (3, .ref (aC 2))]) C dX3_tryLevel_136 hl (k := 2) rfl (by decide) (by decide) rfl (fun ls hl => ?_)
                    refine lv_goto (tgt := 50) C.1 C.2.1 dX3_tryLevel_139 (by decide) ?_
                    exact ih50 (uv + 1) (z + 1) v B5 J5 I5 S5 cu2 k2 wq2 ac2 (by omega) (by omega) (by omega) (tb_dn C0 (by omega) TB5) (tv_down T5) hcu3 (by rw [gdC_cur C0.1 (by omega) (fun j hj => (hcu3 j hj).trans (hcu j hj).symm)]; exact hg3) (hs5.imp (fun q => ⟨q.1, q.2.trans (tv_ne e5 (fun q => c123 (q.trans (congrFun (T.2.1 6 (by decide)).symm _))))⟩) id) _ _ _ _ S Z (lv_sub hl [0, 2, 3, 1, 4, 5, 6, 7, 8] rfl)
                  · refine lv_goto (tgt := 142) C.1 C.2.1 dX3_tryLevel_127 (by decide) ?_
                    refine lv_aload_n C.1 C.2.1 dX3_tryLevel_142 rfl (lv_at hl 7 rfl) ?_
                    refine lv_iload C.1 C.2.1 dX3_tryLevel_143 (lv_at hl 4 rfl) ?_
                    refine q_callQv (As := [.int (nI ((Ns 0) 6))]) (rest := []) C S hl Z.2.2.1.1 rfl (c_unsetNumber Z.2.2.1 ((Ns 0) 6) (by first | omega | exact hL _ | exact hP _ | exact hF _) hL) (cwV 1 C.2.2.2.2 gX3_tryLevel_X1_unsetNumber rfl rfl rfl (by decide +kernel) ⟨Nat.le_of_ble_eq_true rfl, Nat.le_of_ble_eq_true rfl⟩) rfl rfl (Nat.le_of_ble_eq_true rfl) ⟨Nat.le_of_ble_eq_true rfl, Nat.le_of_ble_eq_true rfl⟩ dX3_tryLevel_145 (fun f H locs hv S => ?_)
                    obtain ⟨O1, F1⟩ := hv
                    have Z := CL_n Z F1 O1
                    refine lv_iload C.1 C.2.1 dX3_tryLevel_148 (lv_at hl 0 rfl) ?_
                    exact q_retQi C S hr hlk ⟨_, _, _, _, cu2, k2, wq2, ac2, Z, tb_unset C0 (by omega) (tb_dn C0 (by omega) TB5), tv_unset (tv_down T5) _, hcu3, by omega, hs5.imp (fun q => ⟨q.1, q.2.trans (tv_eq e5 (c123.trans (congrFun (T.2.1 6 (by decide)) _)))⟩) id⟩ dX3_tryLevel_150
              · obtain rfl : kk = 0 := by omega
                refine lv_bipush (v := (-3)) C.1 C.2.1 dX3_tryLevel_73 (by decide) ?_
                refine lv_istore (lv' := [(9, .int (-3)), (10, .int (nI z)), (7, .long ((Jn 6) ((Nn 1) ((Ns 0) 6)))), (5, .long uv), (4, .int (nI ((Ns 0) 6))), (0, .ref (aC 3)), (1, .int (nI 6)), (2, .ref (aC 0)), (3, .ref (aC 2))]) C.1 C.2.1 dX3_tryLevel_75 hl (by decide) rfl (fun ls hl => ?_)
                refine lv_goto (tgt := 142) C.1 C.2.1 dX3_tryLevel_77 (by decide) ?_
                refine lv_aload_n C.1 C.2.1 dX3_tryLevel_142 rfl (lv_at hl 7 rfl) ?_
                refine lv_iload C.1 C.2.1 dX3_tryLevel_143 (lv_at hl 4 rfl) ?_
                refine q_callQv (As := [.int (nI ((Ns 0) 6))]) (rest := []) C S hl Z.2.2.1.1 rfl (c_unsetNumber Z.2.2.1 ((Ns 0) 6) (by first | omega | exact hL _ | exact hP _ | exact hF _) hL) (cwV 1 C.2.2.2.2 gX3_tryLevel_X1_unsetNumber rfl rfl rfl (by decide +kernel) ⟨Nat.le_of_ble_eq_true rfl, Nat.le_of_ble_eq_true rfl⟩) rfl rfl (Nat.le_of_ble_eq_true rfl) ⟨Nat.le_of_ble_eq_true rfl, Nat.le_of_ble_eq_true rfl⟩ dX3_tryLevel_145 (fun f H locs hv S => ?_)
                obtain ⟨O1, F1⟩ := hv
                have Z := CL_n Z F1 O1
                refine lv_iload C.1 C.2.1 dX3_tryLevel_148 (lv_at hl 0 rfl) ?_
                exact q_retQi C S hr hlk ⟨_, _, _, _, cu, 0, wq, ac, Z, tb_unset C0 (by omega) TB3, tv_unset T3 _, hcu, Nat.zero_le _, Or.inr ⟨Or.inl rfl, hres.2.trans it_0⟩⟩ dX3_tryLevel_150
      exact lp50 (k + 1) ((Jn 5) ((Nn 1) ((Ns 0) 6))) 0 0 Bn Jn Is Js cur k wc acc (by omega) (by omega) (Nat.le_refl _) (fun r _ => TB r) T (fun _ _ => rfl) hg (Or.inl ⟨rfl, (itA_lt (by omega)).trans (by rw [T.2.1 5 (by decide)]; rfl)⟩) _ _ _ _ S Z (lv_sub hl [0, 1, 2, 3, 4, 5, 6, 7, 8] rfl)
    · exact absurd c11 (by decide)
set_option maxHeartbeats 4000000 in
set_option maxRecDepth 100000 in
theorem s_try5 {l : Launch} {G : fw_G} {A : Nat → Prop} {f0 : fw_F} {hc : Nat} {aC an ar as_ : Nat → Nat} {In : Nat → Nat} {Nn : Nat → Nat → Nat} {Bn : Nat → Nat → Bool} {Jn : Nat → Nat → Int64} {Ir : Nat → Nat} {Nr : Nat → Nat → Nat} {Br : Nat → Nat → Bool} {Jr : Nat → Nat → Int64} {Is : Nat → Nat} {Ns : Nat → Nat → Nat} {Bs : Nat → Nat → Bool} {Js : Nat → Nat → Int64} {Ic : Nat → Nat} {Nc : Nat → Nat → Nat} {kn : Nat} {K : Nat → kRT} {mn : Nat} {M : Nat → sNT} (Z : CL G f0 f0 hc aC an ar as_ In Nn Bn Jn Ir Nr Br Jr Is Ns Bs Js Ic Nc kn K mn M) {B0 : Nat → Nat → Bool} {J0 : Nat → Nat → Int64} {I0 : Nat → Nat} {S0 : Nat → Nat → Int64} (cur : Nat → Int64) (k wc : Nat) (acc : Nat → Nat → Int64) (C0 : tvC (Nn 1) B0 S0 (Ns 0) (I0 1) K kn) (han : 5 ≤ I0 1) (TB : ∀ r, Bn 2 r = knL (B0 2) (Ns 0) 5 r) (T : tvR B0 J0 I0 S0 (Ns 0) 5 cur k wc acc Bn Jn Is Js) (hg : gdC K kn (Nn 1) (B0 2) (J0 3) (Ns 0) (I0 1) 5 cur = true) (hL : ∀ i, Nn 1 i < 64) (hF : ∀ i, Ns 0 i < 64)  : Met l yX3_tryLevel wsX3_tryLevel ({ frames := 6, cells := 0, slots := 0, locals := 151 }) (va_Pc [.ref (aC 3), .int (nI 5), .ref (aC 0), .ref (aC 2)] (fw_P G A f0)) (va_Qi (fun (r : Int32) (f1 : fw_F) => tyP (Nn 1) B0 J0 I0 S0 (Ns 0) K kn 5 cur k wc acc r (fun Bq Jq Iq Sq => CL G f0 f1 hc aC an ar as_ In Nn Bq Jq Ir Nr Br Jr Iq Ns Bs Sq Ic Nc kn K mn M)) (fw_B G A) A) 0 0 A := by
  refine q_head rfl (by decide) (Nat.le_of_ble_eq_true rfl) ?_
  intro p e s m below meth c ls C hr hlk hnm P hl
  have S := P.start
  have hl : lv_has ls 11 [(0, .ref (aC 3)), (1, .int (nI 5)), (2, .ref (aC 0)), (3, .ref (aC 2))] := hl
  have h8 := C0.2.1
  have hI1 : Is 1 = I0 1 := T.2.2.2.2.1 1 (by decide) (by decide)
  have hwc : Is 2 = wc := T.2.2.2.2.2.1
  have hw2 := T.2.2.2.2.2.2.2.1
  have h3k := T.2.2.2.2.2.2.1
  refine lv_iload_n C.1 C.2.1 dX3_tryLevel_0 rfl (lv_at hl 1 rfl) ?_
  refine lv_aload_n C.1 C.2.1 dX3_tryLevel_1 rfl (lv_at hl 0 rfl) ?_
  refine o_get (v := .int (nI (Is 1))) C S Z.2.2.2.2.1 rfl inX3_tryLevel_X3 1 (Nat.le_of_ble_eq_true rfl) lkX3_tryLevel_22 rfl dX3_tryLevel_2 ?_
  refine q_ge (tgt := 14) C (by decide) (by omega) dX3_tryLevel_5 (by decide) (fun c5 => ?_) (fun c5 => ?_)
  · refine lv_aload_n C.1 C.2.1 dX3_tryLevel_14 rfl (lv_at hl 0 rfl) ?_
    refine lv_aload_n C.1 C.2.1 dX3_tryLevel_15 rfl (lv_at hl 2 rfl) ?_
    refine q_callQi (As := [.ref (aC 0)]) (rest := []) C S hl Z.2.2.2.2.1.1 rfl (c_addWay Z.2.2.2.2.1 Z.2.2.1 (by decide) (by omega) (by omega) hF hL) (cwV 1 C.2.2.2.2 gX3_tryLevel_X3_addWay rfl rfl rfl (by decide +kernel) ⟨Nat.le_of_ble_eq_true rfl, Nat.le_of_ble_eq_true rfl⟩) rfl rfl (Nat.le_of_ble_eq_true rfl) ⟨Nat.le_of_ble_eq_true rfl, Nat.le_of_ble_eq_true rfl⟩ dX3_tryLevel_16 (fun v f H locs hv S => ?_)
    obtain ⟨hv, F1⟩ := hv
    rcases hv with ⟨h1, rfl, O1⟩ | ⟨h1, rfl, O1⟩
    · have Z := CL_s Z F1 O1
      exact q_retQi C S hr hlk ⟨_, _, _, _, cur, k, wc + 1, va_up acc wc cur, Z, TB, tv_way (fun j hj => (C0.2.2.1 j hj).1) h8 (by omega) (by omega) T, fun _ _ => rfl, Nat.le_refl _, Or.inl ⟨rfl, itA_way (by omega) (by omega)⟩⟩ dX3_tryLevel_19
    · have Z := CL_s Z F1 O1
      exact q_retQi C S hr hlk ⟨_, _, _, _, cur, k, wc, acc, Z, TB, T, fun _ _ => rfl, Nat.le_refl _, Or.inr ⟨Or.inr rfl, itA_full (by omega) (by omega)⟩⟩ dX3_tryLevel_19
  · refine lv_iload_n C.1 C.2.1 dX3_tryLevel_8 rfl (lv_at hl 1 rfl) ?_
    refine lv_bipush (v := nI 8) C.1 C.2.1 dX3_tryLevel_9 (by decide) ?_
    refine q_lt (tgt := 20) C (by decide) (by decide) dX3_tryLevel_11 (by decide) (fun c11 => ?_) (fun c11 => ?_)
    · refine lv_aload_n C.1 C.2.1 dX3_tryLevel_20 rfl (lv_at hl 0 rfl) ?_
      refine o_get (v := .ref (as_ 0)) C S Z.2.2.2.2.1 rfl inX3_tryLevel_X3 0 (Nat.le_of_ble_eq_true rfl) lkX3_tryLevel_9 rfl dX3_tryLevel_21 ?_
      refine lv_iload_n C.1 C.2.1 dX3_tryLevel_24 rfl (lv_at hl 1 rfl) ?_
      refine o_nald (x := (Ns 0) 5) C S Z.2.2.2.2.1 0 (Nat.le_of_ble_eq_true rfl) rfl 5 rfl (show 5 < 32 from by first | omega | exact hL _ | exact hP _ | exact hF _) (Nat.le_of_ble_eq_true rfl) rfl dX3_tryLevel_25 ?_
      refine lv_istore (lv' := [(4, .int (nI ((Ns 0) 5))), (0, .ref (aC 3)), (1, .int (nI 5)), (2, .ref (aC 0)), (3, .ref (aC 2))]) C.1 C.2.1 dX3_tryLevel_26 hl (by decide) rfl (fun ls hl => ?_)
      refine lv_aload_n C.1 C.2.1 dX3_tryLevel_28 rfl (lv_at hl 3 rfl) ?_
      refine lv_iload C.1 C.2.1 dX3_tryLevel_29 (lv_at hl 0 rfl) ?_
      refine q_callSl (As := [.int (nI ((Ns 0) 5))]) (rest := []) C S hl Z.2.2.1.1 rfl (c_lowOf Z.2.2.1 ((Ns 0) 5) (by first | omega | exact hL _ | exact hP _ | exact hF _) hL) (cwV 1 C.2.2.2.2 gX3_tryLevel_X1_lowOf rfl rfl rfl (by decide +kernel) ⟨Nat.le_of_ble_eq_true rfl, Nat.le_of_ble_eq_true rfl⟩) rfl rfl (Nat.le_of_ble_eq_true rfl) ⟨Nat.le_of_ble_eq_true rfl, Nat.le_of_ble_eq_true rfl⟩ dX3_tryLevel_31 (fun v hv => ?_)
      subst hv
      refine lv_lstore (lv' := [(5, .long ((Jn 5) ((Nn 1) ((Ns 0) 5)))), (4, .int (nI ((Ns 0) 5))), (0, .ref (aC 3)), (1, .int (nI 5)), (2, .ref (aC 0)), (3, .ref (aC 2))]) C.1 C.2.1 dX3_tryLevel_34 hl (by decide) rfl (fun ls hl => ?_)
      refine lv_aload_n C.1 C.2.1 dX3_tryLevel_36 rfl (lv_at hl 4 rfl) ?_
      refine lv_iload C.1 C.2.1 dX3_tryLevel_37 (lv_at hl 1 rfl) ?_
      refine q_callSl (As := [.int (nI ((Ns 0) 5))]) (rest := []) C S hl Z.2.2.1.1 rfl (c_highOf Z.2.2.1 ((Ns 0) 5) (by first | omega | exact hL _ | exact hP _ | exact hF _) hL) (cwV 1 C.2.2.2.2 gX3_tryLevel_X1_highOf rfl rfl rfl (by decide +kernel) ⟨Nat.le_of_ble_eq_true rfl, Nat.le_of_ble_eq_true rfl⟩) rfl rfl (Nat.le_of_ble_eq_true rfl) ⟨Nat.le_of_ble_eq_true rfl, Nat.le_of_ble_eq_true rfl⟩ dX3_tryLevel_39 (fun v hv => ?_)
      subst hv
      refine lv_lstore (lv' := [(7, .long ((Jn 6) ((Nn 1) ((Ns 0) 5)))), (5, .long ((Jn 5) ((Nn 1) ((Ns 0) 5)))), (4, .int (nI ((Ns 0) 5))), (0, .ref (aC 3)), (1, .int (nI 5)), (2, .ref (aC 0)), (3, .ref (aC 2))]) C.1 C.2.1 dX3_tryLevel_42 hl (by decide) rfl (fun ls hl => ?_)
      refine lv_iconst (v := 0) C.1 C.2.1 dX3_tryLevel_44 (by decide) ?_
      refine lv_istore (lv' := [(9, .int 0), (7, .long ((Jn 6) ((Nn 1) ((Ns 0) 5)))), (5, .long ((Jn 5) ((Nn 1) ((Ns 0) 5)))), (4, .int (nI ((Ns 0) 5))), (0, .ref (aC 3)), (1, .int (nI 5)), (2, .ref (aC 0)), (3, .ref (aC 2))]) C.1 C.2.1 dX3_tryLevel_45 hl (by decide) rfl (fun ls hl => ?_)
      refine lv_iconst (v := nI 0) C.1 C.2.1 dX3_tryLevel_47 (by decide) ?_
      refine lv_istore (lv' := [(10, .int (nI 0)), (9, .int 0), (7, .long ((Jn 6) ((Nn 1) ((Ns 0) 5)))), (5, .long ((Jn 5) ((Nn 1) ((Ns 0) 5)))), (4, .int (nI ((Ns 0) 5))), (0, .ref (aC 3)), (1, .int (nI 5)), (2, .ref (aC 0)), (3, .ref (aC 2))]) C.1 C.2.1 dX3_tryLevel_48 hl (by decide) rfl (fun ls hl => ?_)
      have lp50 : ∀ (n50 : Nat) (uv : Int64) (z : Nat) (sp : Int32) (B3 : Nat → Nat → Bool) (J3 : Nat → Nat → Int64) (I3 : Nat → Nat) (S3 : Nat → Nat → Int64) (cu : Nat → Int64) (kk : Nat) (wq : Nat) (ac : Nat → Nat → Int64), kk < n50 → (z + kk ≤ 5000) → (kk ≤ k) → (∀ r, r ≠ Ns 0 5 → B3 2 r = knL (B0 2) (Ns 0) 5 r) → (tvR B0 J0 I0 S0 (Ns 0) 5 cu kk wq ac B3 J3 I3 S3) → (∀ j, j < 5 → cu j = cur j) → (gdC K kn (Nn 1) (B0 2) (J0 3) (Ns 0) (I0 1) 5 cu = true) → ((sp = 0 ∧ tyR (Nn 1) B0 J0 (Ns 0) (I0 1) K kn k 5 cur wc acc = tyT (Nn 1) B0 J0 (Ns 0) (I0 1) K kn kk 5 (va_up cu 5 uv) wq ac) ∨ ((sp = -3 ∨ sp = -4) ∧ tyR (Nn 1) B0 J0 (Ns 0) (I0 1) K kn k 5 cur wc acc = (sp, 5000 - kk, ac))) → ∀ (f : fw_F) (H : Heap) (locs : List Loc) (ls : Array Slot), fw_S G A s f H locs → CL G f0 f hc aC an ar as_ In Nn B3 J3 Ir Nr Br Jr I3 Ns Bs S3 Ic Nc kn K mn M → lv_has ls 11 [(10, .int (nI z)), (9, .int sp), (7, .long ((Jn 6) ((Nn 1) ((Ns 0) 5)))), (5, .long uv), (4, .int (nI ((Ns 0) 5))), (0, .ref (aC 3)), (1, .int (nI 5)), (2, .ref (aC 0)), (3, .ref (aC 2))] → W p l e ({ frames := 6, cells := 0, slots := 0, locals := 151 }) s m [.ref (aC 3), .int (nI 5), .ref (aC 0), .ref (aC 2)].toArray below meth c H locs 0 0 (MQ below (va_Qi (fun (r : Int32) (f1 : fw_F) => tyP (Nn 1) B0 J0 I0 S0 (Ns 0) K kn 5 cur k wc acc r (fun Bq Jq Iq Sq => CL G f0 f1 hc aC an ar as_ In Nn Bq Jq Ir Nr Br Jr Iq Ns Bs Sq Ic Nc kn K mn M)) (fw_B G A) A) [.ref (aC 3), .int (nI 5), .ref (aC 0), .ref (aC 2)].toArray s 0 0 A) (F0 m 50 ls []) := by
        intro n50
        induction n50 with
        | zero => intro uv z sp B3 J3 I3 S3 cu kk wq ac hme50; exact absurd hme50 (Nat.not_lt_zero _)
        | succ n50 ih50 =>
          intro uv z sp B3 J3 I3 S3 cu kk wq ac hme50 hzk hkk TB3 T3 hcu hg3 hsp f H locs ls S Z hl
          refine lv_iload C.1 C.2.1 dX3_tryLevel_50 (lv_at hl 0 rfl) ?_
          refine lv_sipush (v := nI 5000) C.1 C.2.1 dX3_tryLevel_52 (by decide) ?_
          refine q_gt (tgt := 142) C (by omega) (by decide) dX3_tryLevel_55 (by decide) (fun c55 => ?_) (fun c55 => ?_)
          · exact absurd c55 (by omega)
          · refine lv_iload C.1 C.2.1 dX3_tryLevel_58 (lv_at hl 1 rfl) ?_
            refine lv_if_ne (tgt := 142) C.1 C.2.1 dX3_tryLevel_60 (by decide) (fun c60 => ?_) (fun c60 => ?_)
            · refine lv_aload_n C.1 C.2.1 dX3_tryLevel_142 rfl (lv_at hl 7 rfl) ?_
              refine lv_iload C.1 C.2.1 dX3_tryLevel_143 (lv_at hl 4 rfl) ?_
              refine q_callQv (As := [.int (nI ((Ns 0) 5))]) (rest := []) C S hl Z.2.2.1.1 rfl (c_unsetNumber Z.2.2.1 ((Ns 0) 5) (by first | omega | exact hL _ | exact hP _ | exact hF _) hL) (cwV 1 C.2.2.2.2 gX3_tryLevel_X1_unsetNumber rfl rfl rfl (by decide +kernel) ⟨Nat.le_of_ble_eq_true rfl, Nat.le_of_ble_eq_true rfl⟩) rfl rfl (Nat.le_of_ble_eq_true rfl) ⟨Nat.le_of_ble_eq_true rfl, Nat.le_of_ble_eq_true rfl⟩ dX3_tryLevel_145 (fun f H locs hv S => ?_)
              obtain ⟨O1, F1⟩ := hv
              have Z := CL_n Z F1 O1
              refine lv_iload C.1 C.2.1 dX3_tryLevel_148 (lv_at hl 1 rfl) ?_
              exact q_retQi C S hr hlk ⟨_, _, _, _, cu, kk, wq, ac, Z, tb_unset C0 (by omega) TB3, tv_unset T3 _, hcu, hkk, Or.inr (hsp.resolve_left (fun q => c60 q.1))⟩ dX3_tryLevel_150
            · obtain rfl : sp = 0 := by first | exact c60 | exact Decidable.not_not.mp c60
              have hres := hsp.resolve_right (fun q => by rcases q.1 with q | q <;> exact absurd q (by decide))
              have h37 := T3.2.2.2.2.2.2.1
              refine lv_aload_n C.1 C.2.1 dX3_tryLevel_63 rfl (lv_at hl 5 rfl) ?_
              refine o_get (v := .int (nI (I3 3))) C S Z.2.2.2.2.1 rfl inX3_tryLevel_X3 3 (Nat.le_of_ble_eq_true rfl) lkX3_tryLevel_36 rfl dX3_tryLevel_64 ?_
              refine lv_sipush (v := nI 5000) C.1 C.2.1 dX3_tryLevel_67 (by decide) ?_
              refine q_lt (tgt := 80) C (by omega) (by decide) dX3_tryLevel_70 (by decide) (fun c70 => ?_) (fun c70 => ?_)
              · obtain ⟨k1, rfl⟩ : ∃ k1, kk = k1 + 1 := ⟨kk - 1, by omega⟩
                refine lv_aload_n C.1 C.2.1 dX3_tryLevel_80 rfl (lv_at hl 5 rfl) ?_
                refine lv_dup C.1 C.2.1 dX3_tryLevel_81 rfl ?_
                refine o_get (v := .int (nI (I3 3))) C S Z.2.2.2.2.1 rfl inX3_tryLevel_X3 3 (Nat.le_of_ble_eq_true rfl) lkX3_tryLevel_36 rfl dX3_tryLevel_82 ?_
                refine lv_iconst (v := nI 1) C.1 C.2.1 dX3_tryLevel_85 (by decide) ?_
                refine q_iadd C dX3_tryLevel_86 ?_
                refine o_puti C S Z.2.2.2.2.1 (fw_fr_rf _ 3300 (3300 + 7)) rfl inX3_tryLevel_X3 tyX3 tyX3_ok nmX3 3 (Nat.le_of_ble_eq_true rfl) rfl lkX3_tryLevel_36 rfl rfl ⟨by decide, by decide⟩ dX3_tryLevel_87 (fun f H locs S O1 F1 => ?_)
                have Z := CL_s Z F1 O1
                refine lv_aload_n C.1 C.2.1 dX3_tryLevel_90 rfl (lv_at hl 7 rfl) ?_
                refine lv_iload C.1 C.2.1 dX3_tryLevel_91 (lv_at hl 4 rfl) ?_
                refine lv_lload C.1 C.2.1 dX3_tryLevel_93 (lv_at hl 3 rfl) ?_
                refine q_callQv (As := [.int (nI ((Ns 0) 5)), .long uv]) (rest := []) C S hl Z.2.2.1.1 rfl (c_setNumber Z.2.2.1 ((Ns 0) 5) (by first | omega | exact hL _ | exact hP _ | exact hF _) hL uv) (cwV 2 C.2.2.2.2 gX3_tryLevel_X1_setNumber rfl rfl rfl (by decide +kernel) ⟨Nat.le_of_ble_eq_true rfl, Nat.le_of_ble_eq_true rfl⟩) rfl rfl (Nat.le_of_ble_eq_true rfl) ⟨Nat.le_of_ble_eq_true rfl, Nat.le_of_ble_eq_true rfl⟩ dX3_tryLevel_95 (fun f H locs hv S => ?_)
                obtain ⟨O1, F1⟩ := hv
                have Z := CL_n Z F1 O1
                have T4 := tv_set C0 (by omega) T3 uv
                have TB4 := tb_set2 C0 (by omega) TB3
                have hlo4 : ∀ i, i < kn → (S3 5 i).toInt32 = mI (lkC (Nn 1) (B0 2) (Ns 0) (I0 1) (K i)) ∧ lkC (Nn 1) (B0 2) (Ns 0) (I0 1) (K i) < 64 := fun i hi => ⟨by rw [T3.2.2.2.2.2.2.2.2.1 5 (by decide)]; exact C0.2.2.2 i hi, by have := lkC_le (L := Nn 1) (B := B0 2) (fr := Ns 0) (c := I0 1) (k := K i); omega⟩
                refine lv_aload_n C.1 C.2.1 dX3_tryLevel_98 rfl (lv_at hl 5 rfl) ?_
                refine lv_iload_n C.1 C.2.1 dX3_tryLevel_99 rfl (lv_at hl 6 rfl) ?_
                refine lv_aload_n C.1 C.2.1 dX3_tryLevel_100 rfl (lv_at hl 7 rfl) ?_
                refine lv_aload_n C.1 C.2.1 dX3_tryLevel_101 rfl (lv_at hl 8 rfl) ?_
                refine q_callSi (As := [.int (nI 5), .ref (aC 0), .ref (aC 2)]) (rest := []) C S hl Z.2.2.2.2.1.1 rfl (s_isGood (CL_rf Z) 5 (by decide) (fun i => lkC (Nn 1) (B0 2) (Ns 0) (I0 1) (K i)) hlo4 hL) (cwV 3 C.2.2.2.2 gX3_tryLevel_X3_isGood rfl rfl rfl (by decide +kernel) ⟨Nat.le_of_ble_eq_true rfl, Nat.le_of_ble_eq_true rfl⟩) rfl rfl (Nat.le_of_ble_eq_true rfl) ⟨Nat.le_of_ble_eq_true rfl, Nat.le_of_ble_eq_true rfl⟩ dX3_tryLevel_102 (fun v hv => ?_)
                have hv : v = bI (gdC K kn (Nn 1) (B0 2) (J0 3) (Ns 0) (I0 1) 6 (va_up cu 5 uv)) := hv.trans (congrArg bI (gd_step C0 (by omega) hg3 T4))
                subst hv
                refine q_ifeqB (tgt := 119) C dX3_tryLevel_105 (by decide) (fun c105 => ?_) (fun c105 => ?_)
                · obtain ⟨cu2, k2, wq2, ac2, T5, TB5, hcu2, hk2, hs5⟩ : ∃ cu2 k2 wq2 ac2, tvR B0 J0 I0 S0 (Ns 0) 6 cu2 k2 wq2 ac2 (setB B3 ((Nn 1) ((Ns 0) 5))) (setJ J3 ((Nn 1) ((Ns 0) 5)) uv) (va_up I3 3 ((I3 3) + 1)) S3 ∧ (∀ r, (setB B3 ((Nn 1) ((Ns 0) 5))) 2 r = knL (B0 2) (Ns 0) 6 r) ∧ (∀ j, j < 6 → cu2 j = va_up cu 5 uv j) ∧ k2 ≤ k1 ∧ (((0 : Int32) = 0 ∧ tyR (Nn 1) B0 J0 (Ns 0) (I0 1) K kn k 5 cur wc acc = tyB (Nn 1) B0 J0 (Ns 0) (I0 1) K kn k2 6 cu2 wq2 ac2) ∨ (((0 : Int32) = -3 ∨ (0 : Int32) = -4) ∧ tyR (Nn 1) B0 J0 (Ns 0) (I0 1) K kn k 5 cur wc acc = ((0 : Int32), 5000 - k2, ac2))) := ⟨va_up cu 5 uv, k1, wq, ac, T4, TB4, fun _ _ => rfl, Nat.le_refl _, Or.inl ⟨rfl, hres.2.trans (it_bad c105)⟩⟩
                  have hcu3 : ∀ j, j < 5 → cu2 j = cur j := fun j hj => (hcu2 j (by omega)).trans ((up_n (by omega)).trans (hcu j hj))
                  have e5 : cu2 5 = uv := (hcu2 5 (by omega)).trans (up_s _ _ _)
                  refine lv_lload C.1 C.2.1 dX3_tryLevel_119 (lv_at hl 3 rfl) ?_
                  refine lv_lload C.1 C.2.1 dX3_tryLevel_121 (lv_at hl 2 rfl) ?_
                  refine q_lcmp_ne (tgt := 130) C dX3_tryLevel_123 dX3_tryLevel_124 (by decide) (fun c123 => ?_) (fun c123 => ?_)
                  · refine lv_lload C.1 C.2.1 dX3_tryLevel_130 (lv_at hl 3 rfl) ?_
                    refine lv_lconst (v := 1) C.1 C.2.1 dX3_tryLevel_132 (by decide) ?_
                    refine lv_ladd C.1 C.2.1 dX3_tryLevel_133 ?_
                    refine lv_lstore (lv' := [(5, .long (uv + 1)), (10, .int (nI z)), (9, .int 0), (7, .long ((Jn 6) ((Nn 1) ((Ns 0) 5)))), (4, .int (nI ((Ns 0) 5))), (0, .ref (aC 3)), (1, .int (nI 5)), (2, .ref (aC 0)), (3, .ref (aC 2))]) C.1 C.2.1 dX3_tryLevel_134 hl (by decide) rfl (fun ls hl => ?_)
                    refine q_iinc (d := 1) (lv' := [(10, .int (nI (z + 1))), (5, .long (uv + 1)), (9, .int 0), (7, .long ((Jn 6) ((Nn 1) ((Ns 0) 5)))), (4, .int (nI ((Ns 0) 5))), (0, .ref (aC 3)), (1, .int (nI 5)), (2, .ref (aC 0)), (3, .ref (aC 2))]) C dX3_tryLevel_136 hl (k := 1) rfl (by decide) (by decide) rfl (fun ls hl => ?_)
                    refine lv_goto (tgt := 50) C.1 C.2.1 dX3_tryLevel_139 (by decide) ?_
                    exact ih50 (uv + 1) (z + 1) 0 (setB B3 ((Nn 1) ((Ns 0) 5))) (setJ J3 ((Nn 1) ((Ns 0) 5)) uv) (va_up I3 3 ((I3 3) + 1)) S3 cu2 k2 wq2 ac2 (by omega) (by omega) (by omega) (tb_dn C0 (by omega) TB5) (tv_down T5) hcu3 (by rw [gdC_cur C0.1 (by omega) (fun j hj => (hcu3 j hj).trans (hcu j hj).symm)]; exact hg3) (hs5.imp (fun q => ⟨q.1, q.2.trans (tv_ne e5 (fun q => c123 (q.trans (congrFun (T.2.1 6 (by decide)).symm _))))⟩) id) _ _ _ _ S Z (lv_sub hl [0, 2, 3, 1, 4, 5, 6, 7, 8] rfl)
                  · refine lv_goto (tgt := 142) C.1 C.2.1 dX3_tryLevel_127 (by decide) ?_
                    refine lv_aload_n C.1 C.2.1 dX3_tryLevel_142 rfl (lv_at hl 7 rfl) ?_
                    refine lv_iload C.1 C.2.1 dX3_tryLevel_143 (lv_at hl 4 rfl) ?_
                    refine q_callQv (As := [.int (nI ((Ns 0) 5))]) (rest := []) C S hl Z.2.2.1.1 rfl (c_unsetNumber Z.2.2.1 ((Ns 0) 5) (by first | omega | exact hL _ | exact hP _ | exact hF _) hL) (cwV 1 C.2.2.2.2 gX3_tryLevel_X1_unsetNumber rfl rfl rfl (by decide +kernel) ⟨Nat.le_of_ble_eq_true rfl, Nat.le_of_ble_eq_true rfl⟩) rfl rfl (Nat.le_of_ble_eq_true rfl) ⟨Nat.le_of_ble_eq_true rfl, Nat.le_of_ble_eq_true rfl⟩ dX3_tryLevel_145 (fun f H locs hv S => ?_)
                    obtain ⟨O1, F1⟩ := hv
                    have Z := CL_n Z F1 O1
                    refine lv_iload C.1 C.2.1 dX3_tryLevel_148 (lv_at hl 1 rfl) ?_
                    exact q_retQi C S hr hlk ⟨_, _, _, _, cu2, k2, wq2, ac2, Z, tb_unset C0 (by omega) (tb_dn C0 (by omega) TB5), tv_unset (tv_down T5) _, hcu3, by omega, hs5.imp (fun q => ⟨q.1, q.2.trans (tv_eq e5 (c123.trans (congrFun (T.2.1 6 (by decide)) _)))⟩) id⟩ dX3_tryLevel_150
                · refine lv_aload_n C.1 C.2.1 dX3_tryLevel_108 rfl (lv_at hl 5 rfl) ?_
                  refine lv_iload_n C.1 C.2.1 dX3_tryLevel_109 rfl (lv_at hl 6 rfl) ?_
                  refine lv_iconst (v := nI 1) C.1 C.2.1 dX3_tryLevel_110 (by decide) ?_
                  refine q_iadd C dX3_tryLevel_111 ?_
                  refine lv_aload_n C.1 C.2.1 dX3_tryLevel_112 rfl (lv_at hl 7 rfl) ?_
                  refine lv_aload_n C.1 C.2.1 dX3_tryLevel_113 rfl (lv_at hl 8 rfl) ?_
                  refine q_callQi (As := [.int (nI 6), .ref (aC 0), .ref (aC 2)]) (rest := []) C S hl Z.2.2.2.2.1.1 rfl (s_try6 (CL_rf Z) (va_up cu 5 uv) k1 wq ac C0 (by omega) TB4 T4 c105 hL hF) (cwV 3 C.2.2.2.2 gX3_tryLevel_X3_tryLevel rfl rfl rfl (by decide +kernel) ⟨Nat.le_of_ble_eq_true rfl, Nat.le_of_ble_eq_true rfl⟩) rfl rfl (Nat.le_of_ble_eq_true rfl) ⟨Nat.le_of_ble_eq_true rfl, Nat.le_of_ble_eq_true rfl⟩ dX3_tryLevel_114 (fun v f H locs hv S => ?_)
                  obtain ⟨B5, J5, I5, S5, cu2, k2, wq2, ac2, Z1, TB5, T5, hcu2, hk2, hs5⟩ := hv
                  have Z := CL_tr Z Z1
                  have hs5 : (v = 0 ∧ tyR (Nn 1) B0 J0 (Ns 0) (I0 1) K kn k 5 cur wc acc = tyB (Nn 1) B0 J0 (Ns 0) (I0 1) K kn k2 6 cu2 wq2 ac2) ∨ ((v = -3 ∨ v = -4) ∧ tyR (Nn 1) B0 J0 (Ns 0) (I0 1) K kn k 5 cur wc acc = (v, 5000 - k2, ac2)) := hs5.imp (fun q => ⟨q.1, hres.2.trans ((it_good c105).trans q.2)⟩) (fun q => ⟨q.1, hres.2.trans ((it_good c105).trans q.2)⟩)
                  refine lv_istore (lv' := [(9, .int v), (10, .int (nI z)), (7, .long ((Jn 6) ((Nn 1) ((Ns 0) 5)))), (5, .long uv), (4, .int (nI ((Ns 0) 5))), (0, .ref (aC 3)), (1, .int (nI 5)), (2, .ref (aC 0)), (3, .ref (aC 2))]) C.1 C.2.1 dX3_tryLevel_117 hl (by decide) rfl (fun ls hl => ?_)
                  have hcu3 : ∀ j, j < 5 → cu2 j = cur j := fun j hj => (hcu2 j (by omega)).trans ((up_n (by omega)).trans (hcu j hj))
                  have e5 : cu2 5 = uv := (hcu2 5 (by omega)).trans (up_s _ _ _)
                  refine lv_lload C.1 C.2.1 dX3_tryLevel_119 (lv_at hl 3 rfl) ?_
                  refine lv_lload C.1 C.2.1 dX3_tryLevel_121 (lv_at hl 2 rfl) ?_
                  refine q_lcmp_ne (tgt := 130) C dX3_tryLevel_123 dX3_tryLevel_124 (by decide) (fun c123 => ?_) (fun c123 => ?_)
                  · refine lv_lload C.1 C.2.1 dX3_tryLevel_130 (lv_at hl 3 rfl) ?_
                    refine lv_lconst (v := 1) C.1 C.2.1 dX3_tryLevel_132 (by decide) ?_
                    refine lv_ladd C.1 C.2.1 dX3_tryLevel_133 ?_
                    refine lv_lstore (lv' := [(5, .long (uv + 1)), (9, .int v), (10, .int (nI z)), (7, .long ((Jn 6) ((Nn 1) ((Ns 0) 5)))), (4, .int (nI ((Ns 0) 5))), (0, .ref (aC 3)), (1, .int (nI 5)), (2, .ref (aC 0)), (3, .ref (aC 2))]) C.1 C.2.1 dX3_tryLevel_134 hl (by decide) rfl (fun ls hl => ?_)
                    refine q_iinc (d := 1) (lv' := [(10, .int (nI (z + 1))), (5, .long (uv + 1)), (9, .int v), (7, .long ((Jn 6) ((Nn 1) ((Ns 0) 5)))), (4, .int (nI ((Ns 0) 5))), (0, .ref (aC 3)), (1, .int (nI 5)), (2, .ref (aC 0)), (3, .ref (aC 2))]) C dX3_tryLevel_136 hl (k := 2) rfl (by decide) (by decide) rfl (fun ls hl => ?_)
                    refine lv_goto (tgt := 50) C.1 C.2.1 dX3_tryLevel_139 (by decide) ?_
                    exact ih50 (uv + 1) (z + 1) v B5 J5 I5 S5 cu2 k2 wq2 ac2 (by omega) (by omega) (by omega) (tb_dn C0 (by omega) TB5) (tv_down T5) hcu3 (by rw [gdC_cur C0.1 (by omega) (fun j hj => (hcu3 j hj).trans (hcu j hj).symm)]; exact hg3) (hs5.imp (fun q => ⟨q.1, q.2.trans (tv_ne e5 (fun q => c123 (q.trans (congrFun (T.2.1 6 (by decide)).symm _))))⟩) id) _ _ _ _ S Z (lv_sub hl [0, 2, 3, 1, 4, 5, 6, 7, 8] rfl)
                  · refine lv_goto (tgt := 142) C.1 C.2.1 dX3_tryLevel_127 (by decide) ?_
                    refine lv_aload_n C.1 C.2.1 dX3_tryLevel_142 rfl (lv_at hl 7 rfl) ?_
                    refine lv_iload C.1 C.2.1 dX3_tryLevel_143 (lv_at hl 4 rfl) ?_
                    refine q_callQv (As := [.int (nI ((Ns 0) 5))]) (rest := []) C S hl Z.2.2.1.1 rfl (c_unsetNumber Z.2.2.1 ((Ns 0) 5) (by first | omega | exact hL _ | exact hP _ | exact hF _) hL) (cwV 1 C.2.2.2.2 gX3_tryLevel_X1_unsetNumber rfl rfl rfl (by decide +kernel) ⟨Nat.le_of_ble_eq_true rfl, Nat.le_of_ble_eq_true rfl⟩) rfl rfl (Nat.le_of_ble_eq_true rfl) ⟨Nat.le_of_ble_eq_true rfl, Nat.le_of_ble_eq_true rfl⟩ dX3_tryLevel_145 (fun f H locs hv S => ?_)
                    obtain ⟨O1, F1⟩ := hv
                    have Z := CL_n Z F1 O1
                    refine lv_iload C.1 C.2.1 dX3_tryLevel_148 (lv_at hl 0 rfl) ?_
                    exact q_retQi C S hr hlk ⟨_, _, _, _, cu2, k2, wq2, ac2, Z, tb_unset C0 (by omega) (tb_dn C0 (by omega) TB5), tv_unset (tv_down T5) _, hcu3, by omega, hs5.imp (fun q => ⟨q.1, q.2.trans (tv_eq e5 (c123.trans (congrFun (T.2.1 6 (by decide)) _)))⟩) id⟩ dX3_tryLevel_150
              · obtain rfl : kk = 0 := by omega
                refine lv_bipush (v := (-3)) C.1 C.2.1 dX3_tryLevel_73 (by decide) ?_
                refine lv_istore (lv' := [(9, .int (-3)), (10, .int (nI z)), (7, .long ((Jn 6) ((Nn 1) ((Ns 0) 5)))), (5, .long uv), (4, .int (nI ((Ns 0) 5))), (0, .ref (aC 3)), (1, .int (nI 5)), (2, .ref (aC 0)), (3, .ref (aC 2))]) C.1 C.2.1 dX3_tryLevel_75 hl (by decide) rfl (fun ls hl => ?_)
                refine lv_goto (tgt := 142) C.1 C.2.1 dX3_tryLevel_77 (by decide) ?_
                refine lv_aload_n C.1 C.2.1 dX3_tryLevel_142 rfl (lv_at hl 7 rfl) ?_
                refine lv_iload C.1 C.2.1 dX3_tryLevel_143 (lv_at hl 4 rfl) ?_
                refine q_callQv (As := [.int (nI ((Ns 0) 5))]) (rest := []) C S hl Z.2.2.1.1 rfl (c_unsetNumber Z.2.2.1 ((Ns 0) 5) (by first | omega | exact hL _ | exact hP _ | exact hF _) hL) (cwV 1 C.2.2.2.2 gX3_tryLevel_X1_unsetNumber rfl rfl rfl (by decide +kernel) ⟨Nat.le_of_ble_eq_true rfl, Nat.le_of_ble_eq_true rfl⟩) rfl rfl (Nat.le_of_ble_eq_true rfl) ⟨Nat.le_of_ble_eq_true rfl, Nat.le_of_ble_eq_true rfl⟩ dX3_tryLevel_145 (fun f H locs hv S => ?_)
                obtain ⟨O1, F1⟩ := hv
                have Z := CL_n Z F1 O1
                refine lv_iload C.1 C.2.1 dX3_tryLevel_148 (lv_at hl 0 rfl) ?_
                exact q_retQi C S hr hlk ⟨_, _, _, _, cu, 0, wq, ac, Z, tb_unset C0 (by omega) TB3, tv_unset T3 _, hcu, Nat.zero_le _, Or.inr ⟨Or.inl rfl, hres.2.trans it_0⟩⟩ dX3_tryLevel_150
      exact lp50 (k + 1) ((Jn 5) ((Nn 1) ((Ns 0) 5))) 0 0 Bn Jn Is Js cur k wc acc (by omega) (by omega) (Nat.le_refl _) (fun r _ => TB r) T (fun _ _ => rfl) hg (Or.inl ⟨rfl, (itA_lt (by omega)).trans (by rw [T.2.1 5 (by decide)]; rfl)⟩) _ _ _ _ S Z (lv_sub hl [0, 1, 2, 3, 4, 5, 6, 7, 8] rfl)
    · exact absurd c11 (by decide)
set_option maxHeartbeats 4000000 in
set_option maxRecDepth 100000 in
theorem s_try4 {l : Launch} {G : fw_G} {A : Nat → Prop} {f0 : fw_F} {hc : Nat} {aC an ar as_ : Nat → Nat} {In : Nat → Nat} {Nn : Nat → Nat → Nat} {Bn : Nat → Nat → Bool} {Jn : Nat → Nat → Int64} {Ir : Nat → Nat} {Nr : Nat → Nat → Nat} {Br : Nat → Nat → Bool} {Jr : Nat → Nat → Int64} {Is : Nat → Nat} {Ns : Nat → Nat → Nat} {Bs : Nat → Nat → Bool} {Js : Nat → Nat → Int64} {Ic : Nat → Nat} {Nc : Nat → Nat → Nat} {kn : Nat} {K : Nat → kRT} {mn : Nat} {M : Nat → sNT} (Z : CL G f0 f0 hc aC an ar as_ In Nn Bn Jn Ir Nr Br Jr Is Ns Bs Js Ic Nc kn K mn M) {B0 : Nat → Nat → Bool} {J0 : Nat → Nat → Int64} {I0 : Nat → Nat} {S0 : Nat → Nat → Int64} (cur : Nat → Int64) (k wc : Nat) (acc : Nat → Nat → Int64) (C0 : tvC (Nn 1) B0 S0 (Ns 0) (I0 1) K kn) (han : 4 ≤ I0 1) (TB : ∀ r, Bn 2 r = knL (B0 2) (Ns 0) 4 r) (T : tvR B0 J0 I0 S0 (Ns 0) 4 cur k wc acc Bn Jn Is Js) (hg : gdC K kn (Nn 1) (B0 2) (J0 3) (Ns 0) (I0 1) 4 cur = true) (hL : ∀ i, Nn 1 i < 64) (hF : ∀ i, Ns 0 i < 64)  : Met l yX3_tryLevel wsX3_tryLevel ({ frames := 7, cells := 0, slots := 0, locals := 181 }) (va_Pc [.ref (aC 3), .int (nI 4), .ref (aC 0), .ref (aC 2)] (fw_P G A f0)) (va_Qi (fun (r : Int32) (f1 : fw_F) => tyP (Nn 1) B0 J0 I0 S0 (Ns 0) K kn 4 cur k wc acc r (fun Bq Jq Iq Sq => CL G f0 f1 hc aC an ar as_ In Nn Bq Jq Ir Nr Br Jr Iq Ns Bs Sq Ic Nc kn K mn M)) (fw_B G A) A) 0 0 A := by
  refine q_head rfl (by decide) (Nat.le_of_ble_eq_true rfl) ?_
  intro p e s m below meth c ls C hr hlk hnm P hl
  have S := P.start
  have hl : lv_has ls 11 [(0, .ref (aC 3)), (1, .int (nI 4)), (2, .ref (aC 0)), (3, .ref (aC 2))] := hl
  have h8 := C0.2.1
  have hI1 : Is 1 = I0 1 := T.2.2.2.2.1 1 (by decide) (by decide)
  have hwc : Is 2 = wc := T.2.2.2.2.2.1
  have hw2 := T.2.2.2.2.2.2.2.1
  have h3k := T.2.2.2.2.2.2.1
  refine lv_iload_n C.1 C.2.1 dX3_tryLevel_0 rfl (lv_at hl 1 rfl) ?_
  refine lv_aload_n C.1 C.2.1 dX3_tryLevel_1 rfl (lv_at hl 0 rfl) ?_
  refine o_get (v := .int (nI (Is 1))) C S Z.2.2.2.2.1 rfl inX3_tryLevel_X3 1 (Nat.le_of_ble_eq_true rfl) lkX3_tryLevel_22 rfl dX3_tryLevel_2 ?_
  refine q_ge (tgt := 14) C (by decide) (by omega) dX3_tryLevel_5 (by decide) (fun c5 => ?_) (fun c5 => ?_)
  · refine lv_aload_n C.1 C.2.1 dX3_tryLevel_14 rfl (lv_at hl 0 rfl) ?_
    refine lv_aload_n C.1 C.2.1 dX3_tryLevel_15 rfl (lv_at hl 2 rfl) ?_
    refine q_callQi (As := [.ref (aC 0)]) (rest := []) C S hl Z.2.2.2.2.1.1 rfl (c_addWay Z.2.2.2.2.1 Z.2.2.1 (by decide) (by omega) (by omega) hF hL) (cwV 1 C.2.2.2.2 gX3_tryLevel_X3_addWay rfl rfl rfl (by decide +kernel) ⟨Nat.le_of_ble_eq_true rfl, Nat.le_of_ble_eq_true rfl⟩) rfl rfl (Nat.le_of_ble_eq_true rfl) ⟨Nat.le_of_ble_eq_true rfl, Nat.le_of_ble_eq_true rfl⟩ dX3_tryLevel_16 (fun v f H locs hv S => ?_)
    obtain ⟨hv, F1⟩ := hv
    rcases hv with ⟨h1, rfl, O1⟩ | ⟨h1, rfl, O1⟩
    · have Z := CL_s Z F1 O1
      exact q_retQi C S hr hlk ⟨_, _, _, _, cur, k, wc + 1, va_up acc wc cur, Z, TB, tv_way (fun j hj => (C0.2.2.1 j hj).1) h8 (by omega) (by omega) T, fun _ _ => rfl, Nat.le_refl _, Or.inl ⟨rfl, itA_way (by omega) (by omega)⟩⟩ dX3_tryLevel_19
    · have Z := CL_s Z F1 O1
      exact q_retQi C S hr hlk ⟨_, _, _, _, cur, k, wc, acc, Z, TB, T, fun _ _ => rfl, Nat.le_refl _, Or.inr ⟨Or.inr rfl, itA_full (by omega) (by omega)⟩⟩ dX3_tryLevel_19
  · refine lv_iload_n C.1 C.2.1 dX3_tryLevel_8 rfl (lv_at hl 1 rfl) ?_
    refine lv_bipush (v := nI 8) C.1 C.2.1 dX3_tryLevel_9 (by decide) ?_
    refine q_lt (tgt := 20) C (by decide) (by decide) dX3_tryLevel_11 (by decide) (fun c11 => ?_) (fun c11 => ?_)
    · refine lv_aload_n C.1 C.2.1 dX3_tryLevel_20 rfl (lv_at hl 0 rfl) ?_
      refine o_get (v := .ref (as_ 0)) C S Z.2.2.2.2.1 rfl inX3_tryLevel_X3 0 (Nat.le_of_ble_eq_true rfl) lkX3_tryLevel_9 rfl dX3_tryLevel_21 ?_
      refine lv_iload_n C.1 C.2.1 dX3_tryLevel_24 rfl (lv_at hl 1 rfl) ?_
      refine o_nald (x := (Ns 0) 4) C S Z.2.2.2.2.1 0 (Nat.le_of_ble_eq_true rfl) rfl 4 rfl (show 4 < 32 from by first | omega | exact hL _ | exact hP _ | exact hF _) (Nat.le_of_ble_eq_true rfl) rfl dX3_tryLevel_25 ?_
      refine lv_istore (lv' := [(4, .int (nI ((Ns 0) 4))), (0, .ref (aC 3)), (1, .int (nI 4)), (2, .ref (aC 0)), (3, .ref (aC 2))]) C.1 C.2.1 dX3_tryLevel_26 hl (by decide) rfl (fun ls hl => ?_)
      refine lv_aload_n C.1 C.2.1 dX3_tryLevel_28 rfl (lv_at hl 3 rfl) ?_
      refine lv_iload C.1 C.2.1 dX3_tryLevel_29 (lv_at hl 0 rfl) ?_
      refine q_callSl (As := [.int (nI ((Ns 0) 4))]) (rest := []) C S hl Z.2.2.1.1 rfl (c_lowOf Z.2.2.1 ((Ns 0) 4) (by first | omega | exact hL _ | exact hP _ | exact hF _) hL) (cwV 1 C.2.2.2.2 gX3_tryLevel_X1_lowOf rfl rfl rfl (by decide +kernel) ⟨Nat.le_of_ble_eq_true rfl, Nat.le_of_ble_eq_true rfl⟩) rfl rfl (Nat.le_of_ble_eq_true rfl) ⟨Nat.le_of_ble_eq_true rfl, Nat.le_of_ble_eq_true rfl⟩ dX3_tryLevel_31 (fun v hv => ?_)
      subst hv
      refine lv_lstore (lv' := [(5, .long ((Jn 5) ((Nn 1) ((Ns 0) 4)))), (4, .int (nI ((Ns 0) 4))), (0, .ref (aC 3)), (1, .int (nI 4)), (2, .ref (aC 0)), (3, .ref (aC 2))]) C.1 C.2.1 dX3_tryLevel_34 hl (by decide) rfl (fun ls hl => ?_)
      refine lv_aload_n C.1 C.2.1 dX3_tryLevel_36 rfl (lv_at hl 4 rfl) ?_
      refine lv_iload C.1 C.2.1 dX3_tryLevel_37 (lv_at hl 1 rfl) ?_
      refine q_callSl (As := [.int (nI ((Ns 0) 4))]) (rest := []) C S hl Z.2.2.1.1 rfl (c_highOf Z.2.2.1 ((Ns 0) 4) (by first | omega | exact hL _ | exact hP _ | exact hF _) hL) (cwV 1 C.2.2.2.2 gX3_tryLevel_X1_highOf rfl rfl rfl (by decide +kernel) ⟨Nat.le_of_ble_eq_true rfl, Nat.le_of_ble_eq_true rfl⟩) rfl rfl (Nat.le_of_ble_eq_true rfl) ⟨Nat.le_of_ble_eq_true rfl, Nat.le_of_ble_eq_true rfl⟩ dX3_tryLevel_39 (fun v hv => ?_)
      subst hv
      refine lv_lstore (lv' := [(7, .long ((Jn 6) ((Nn 1) ((Ns 0) 4)))), (5, .long ((Jn 5) ((Nn 1) ((Ns 0) 4)))), (4, .int (nI ((Ns 0) 4))), (0, .ref (aC 3)), (1, .int (nI 4)), (2, .ref (aC 0)), (3, .ref (aC 2))]) C.1 C.2.1 dX3_tryLevel_42 hl (by decide) rfl (fun ls hl => ?_)
      refine lv_iconst (v := 0) C.1 C.2.1 dX3_tryLevel_44 (by decide) ?_
      refine lv_istore (lv' := [(9, .int 0), (7, .long ((Jn 6) ((Nn 1) ((Ns 0) 4)))), (5, .long ((Jn 5) ((Nn 1) ((Ns 0) 4)))), (4, .int (nI ((Ns 0) 4))), (0, .ref (aC 3)), (1, .int (nI 4)), (2, .ref (aC 0)), (3, .ref (aC 2))]) C.1 C.2.1 dX3_tryLevel_45 hl (by decide) rfl (fun ls hl => ?_)
      refine lv_iconst (v := nI 0) C.1 C.2.1 dX3_tryLevel_47 (by decide) ?_
      refine lv_istore (lv' := [(10, .int (nI 0)), (9, .int 0), (7, .long ((Jn 6) ((Nn 1) ((Ns 0) 4)))), (5, .long ((Jn 5) ((Nn 1) ((Ns 0) 4)))), (4, .int (nI ((Ns 0) 4))), (0, .ref (aC 3)), (1, .int (nI 4)), (2, .ref (aC 0)), (3, .ref (aC 2))]) C.1 C.2.1 dX3_tryLevel_48 hl (by decide) rfl (fun ls hl => ?_)
      have lp50 : ∀ (n50 : Nat) (uv : Int64) (z : Nat) (sp : Int32) (B3 : Nat → Nat → Bool) (J3 : Nat → Nat → Int64) (I3 : Nat → Nat) (S3 : Nat → Nat → Int64) (cu : Nat → Int64) (kk : Nat) (wq : Nat) (ac : Nat → Nat → Int64), kk < n50 → (z + kk ≤ 5000) → (kk ≤ k) → (∀ r, r ≠ Ns 0 4 → B3 2 r = knL (B0 2) (Ns 0) 4 r) → (tvR B0 J0 I0 S0 (Ns 0) 4 cu kk wq ac B3 J3 I3 S3) → (∀ j, j < 4 → cu j = cur j) → (gdC K kn (Nn 1) (B0 2) (J0 3) (Ns 0) (I0 1) 4 cu = true) → ((sp = 0 ∧ tyR (Nn 1) B0 J0 (Ns 0) (I0 1) K kn k 4 cur wc acc = tyT (Nn 1) B0 J0 (Ns 0) (I0 1) K kn kk 4 (va_up cu 4 uv) wq ac) ∨ ((sp = -3 ∨ sp = -4) ∧ tyR (Nn 1) B0 J0 (Ns 0) (I0 1) K kn k 4 cur wc acc = (sp, 5000 - kk, ac))) → ∀ (f : fw_F) (H : Heap) (locs : List Loc) (ls : Array Slot), fw_S G A s f H locs → CL G f0 f hc aC an ar as_ In Nn B3 J3 Ir Nr Br Jr I3 Ns Bs S3 Ic Nc kn K mn M → lv_has ls 11 [(10, .int (nI z)), (9, .int sp), (7, .long ((Jn 6) ((Nn 1) ((Ns 0) 4)))), (5, .long uv), (4, .int (nI ((Ns 0) 4))), (0, .ref (aC 3)), (1, .int (nI 4)), (2, .ref (aC 0)), (3, .ref (aC 2))] → W p l e ({ frames := 7, cells := 0, slots := 0, locals := 181 }) s m [.ref (aC 3), .int (nI 4), .ref (aC 0), .ref (aC 2)].toArray below meth c H locs 0 0 (MQ below (va_Qi (fun (r : Int32) (f1 : fw_F) => tyP (Nn 1) B0 J0 I0 S0 (Ns 0) K kn 4 cur k wc acc r (fun Bq Jq Iq Sq => CL G f0 f1 hc aC an ar as_ In Nn Bq Jq Ir Nr Br Jr Iq Ns Bs Sq Ic Nc kn K mn M)) (fw_B G A) A) [.ref (aC 3), .int (nI 4), .ref (aC 0), .ref (aC 2)].toArray s 0 0 A) (F0 m 50 ls []) := by
        intro n50
        induction n50 with
        | zero => intro uv z sp B3 J3 I3 S3 cu kk wq ac hme50; exact absurd hme50 (Nat.not_lt_zero _)
        | succ n50 ih50 =>
          intro uv z sp B3 J3 I3 S3 cu kk wq ac hme50 hzk hkk TB3 T3 hcu hg3 hsp f H locs ls S Z hl
          refine lv_iload C.1 C.2.1 dX3_tryLevel_50 (lv_at hl 0 rfl) ?_
          refine lv_sipush (v := nI 5000) C.1 C.2.1 dX3_tryLevel_52 (by decide) ?_
          refine q_gt (tgt := 142) C (by omega) (by decide) dX3_tryLevel_55 (by decide) (fun c55 => ?_) (fun c55 => ?_)
          · exact absurd c55 (by omega)
          · refine lv_iload C.1 C.2.1 dX3_tryLevel_58 (lv_at hl 1 rfl) ?_
            refine lv_if_ne (tgt := 142) C.1 C.2.1 dX3_tryLevel_60 (by decide) (fun c60 => ?_) (fun c60 => ?_)
            · refine lv_aload_n C.1 C.2.1 dX3_tryLevel_142 rfl (lv_at hl 7 rfl) ?_
              refine lv_iload C.1 C.2.1 dX3_tryLevel_143 (lv_at hl 4 rfl) ?_
              refine q_callQv (As := [.int (nI ((Ns 0) 4))]) (rest := []) C S hl Z.2.2.1.1 rfl (c_unsetNumber Z.2.2.1 ((Ns 0) 4) (by first | omega | exact hL _ | exact hP _ | exact hF _) hL) (cwV 1 C.2.2.2.2 gX3_tryLevel_X1_unsetNumber rfl rfl rfl (by decide +kernel) ⟨Nat.le_of_ble_eq_true rfl, Nat.le_of_ble_eq_true rfl⟩) rfl rfl (Nat.le_of_ble_eq_true rfl) ⟨Nat.le_of_ble_eq_true rfl, Nat.le_of_ble_eq_true rfl⟩ dX3_tryLevel_145 (fun f H locs hv S => ?_)
              obtain ⟨O1, F1⟩ := hv
              have Z := CL_n Z F1 O1
              refine lv_iload C.1 C.2.1 dX3_tryLevel_148 (lv_at hl 1 rfl) ?_
              exact q_retQi C S hr hlk ⟨_, _, _, _, cu, kk, wq, ac, Z, tb_unset C0 (by omega) TB3, tv_unset T3 _, hcu, hkk, Or.inr (hsp.resolve_left (fun q => c60 q.1))⟩ dX3_tryLevel_150
            · obtain rfl : sp = 0 := by first | exact c60 | exact Decidable.not_not.mp c60
              have hres := hsp.resolve_right (fun q => by rcases q.1 with q | q <;> exact absurd q (by decide))
              have h37 := T3.2.2.2.2.2.2.1
              refine lv_aload_n C.1 C.2.1 dX3_tryLevel_63 rfl (lv_at hl 5 rfl) ?_
              refine o_get (v := .int (nI (I3 3))) C S Z.2.2.2.2.1 rfl inX3_tryLevel_X3 3 (Nat.le_of_ble_eq_true rfl) lkX3_tryLevel_36 rfl dX3_tryLevel_64 ?_
              refine lv_sipush (v := nI 5000) C.1 C.2.1 dX3_tryLevel_67 (by decide) ?_
              refine q_lt (tgt := 80) C (by omega) (by decide) dX3_tryLevel_70 (by decide) (fun c70 => ?_) (fun c70 => ?_)
              · obtain ⟨k1, rfl⟩ : ∃ k1, kk = k1 + 1 := ⟨kk - 1, by omega⟩
                refine lv_aload_n C.1 C.2.1 dX3_tryLevel_80 rfl (lv_at hl 5 rfl) ?_
                refine lv_dup C.1 C.2.1 dX3_tryLevel_81 rfl ?_
                refine o_get (v := .int (nI (I3 3))) C S Z.2.2.2.2.1 rfl inX3_tryLevel_X3 3 (Nat.le_of_ble_eq_true rfl) lkX3_tryLevel_36 rfl dX3_tryLevel_82 ?_
                refine lv_iconst (v := nI 1) C.1 C.2.1 dX3_tryLevel_85 (by decide) ?_
                refine q_iadd C dX3_tryLevel_86 ?_
                refine o_puti C S Z.2.2.2.2.1 (fw_fr_rf _ 3300 (3300 + 7)) rfl inX3_tryLevel_X3 tyX3 tyX3_ok nmX3 3 (Nat.le_of_ble_eq_true rfl) rfl lkX3_tryLevel_36 rfl rfl ⟨by decide, by decide⟩ dX3_tryLevel_87 (fun f H locs S O1 F1 => ?_)
                have Z := CL_s Z F1 O1
                refine lv_aload_n C.1 C.2.1 dX3_tryLevel_90 rfl (lv_at hl 7 rfl) ?_
                refine lv_iload C.1 C.2.1 dX3_tryLevel_91 (lv_at hl 4 rfl) ?_
                refine lv_lload C.1 C.2.1 dX3_tryLevel_93 (lv_at hl 3 rfl) ?_
                refine q_callQv (As := [.int (nI ((Ns 0) 4)), .long uv]) (rest := []) C S hl Z.2.2.1.1 rfl (c_setNumber Z.2.2.1 ((Ns 0) 4) (by first | omega | exact hL _ | exact hP _ | exact hF _) hL uv) (cwV 2 C.2.2.2.2 gX3_tryLevel_X1_setNumber rfl rfl rfl (by decide +kernel) ⟨Nat.le_of_ble_eq_true rfl, Nat.le_of_ble_eq_true rfl⟩) rfl rfl (Nat.le_of_ble_eq_true rfl) ⟨Nat.le_of_ble_eq_true rfl, Nat.le_of_ble_eq_true rfl⟩ dX3_tryLevel_95 (fun f H locs hv S => ?_)
                obtain ⟨O1, F1⟩ := hv
                have Z := CL_n Z F1 O1
                have T4 := tv_set C0 (by omega) T3 uv
                have TB4 := tb_set2 C0 (by omega) TB3
                have hlo4 : ∀ i, i < kn → (S3 5 i).toInt32 = mI (lkC (Nn 1) (B0 2) (Ns 0) (I0 1) (K i)) ∧ lkC (Nn 1) (B0 2) (Ns 0) (I0 1) (K i) < 64 := fun i hi => ⟨by rw [T3.2.2.2.2.2.2.2.2.1 5 (by decide)]; exact C0.2.2.2 i hi, by have := lkC_le (L := Nn 1) (B := B0 2) (fr := Ns 0) (c := I0 1) (k := K i); omega⟩
                refine lv_aload_n C.1 C.2.1 dX3_tryLevel_98 rfl (lv_at hl 5 rfl) ?_
                refine lv_iload_n C.1 C.2.1 dX3_tryLevel_99 rfl (lv_at hl 6 rfl) ?_
                refine lv_aload_n C.1 C.2.1 dX3_tryLevel_100 rfl (lv_at hl 7 rfl) ?_
                refine lv_aload_n C.1 C.2.1 dX3_tryLevel_101 rfl (lv_at hl 8 rfl) ?_
                refine q_callSi (As := [.int (nI 4), .ref (aC 0), .ref (aC 2)]) (rest := []) C S hl Z.2.2.2.2.1.1 rfl (s_isGood (CL_rf Z) 4 (by decide) (fun i => lkC (Nn 1) (B0 2) (Ns 0) (I0 1) (K i)) hlo4 hL) (cwV 3 C.2.2.2.2 gX3_tryLevel_X3_isGood rfl rfl rfl (by decide +kernel) ⟨Nat.le_of_ble_eq_true rfl, Nat.le_of_ble_eq_true rfl⟩) rfl rfl (Nat.le_of_ble_eq_true rfl) ⟨Nat.le_of_ble_eq_true rfl, Nat.le_of_ble_eq_true rfl⟩ dX3_tryLevel_102 (fun v hv => ?_)
                have hv : v = bI (gdC K kn (Nn 1) (B0 2) (J0 3) (Ns 0) (I0 1) 5 (va_up cu 4 uv)) := hv.trans (congrArg bI (gd_step C0 (by omega) hg3 T4))
                subst hv
                refine q_ifeqB (tgt := 119) C dX3_tryLevel_105 (by decide) (fun c105 => ?_) (fun c105 => ?_)
                · obtain ⟨cu2, k2, wq2, ac2, T5, TB5, hcu2, hk2, hs5⟩ : ∃ cu2 k2 wq2 ac2, tvR B0 J0 I0 S0 (Ns 0) 5 cu2 k2 wq2 ac2 (setB B3 ((Nn 1) ((Ns 0) 4))) (setJ J3 ((Nn 1) ((Ns 0) 4)) uv) (va_up I3 3 ((I3 3) + 1)) S3 ∧ (∀ r, (setB B3 ((Nn 1) ((Ns 0) 4))) 2 r = knL (B0 2) (Ns 0) 5 r) ∧ (∀ j, j < 5 → cu2 j = va_up cu 4 uv j) ∧ k2 ≤ k1 ∧ (((0 : Int32) = 0 ∧ tyR (Nn 1) B0 J0 (Ns 0) (I0 1) K kn k 4 cur wc acc = tyB (Nn 1) B0 J0 (Ns 0) (I0 1) K kn k2 5 cu2 wq2 ac2) ∨ (((0 : Int32) = -3 ∨ (0 : Int32) = -4) ∧ tyR (Nn 1) B0 J0 (Ns 0) (I0 1) K kn k 4 cur wc acc = ((0 : Int32), 5000 - k2, ac2))) := ⟨va_up cu 4 uv, k1, wq, ac, T4, TB4, fun _ _ => rfl, Nat.le_refl _, Or.inl ⟨rfl, hres.2.trans (it_bad c105)⟩⟩
                  have hcu3 : ∀ j, j < 4 → cu2 j = cur j := fun j hj => (hcu2 j (by omega)).trans ((up_n (by omega)).trans (hcu j hj))
                  have e5 : cu2 4 = uv := (hcu2 4 (by omega)).trans (up_s _ _ _)
                  refine lv_lload C.1 C.2.1 dX3_tryLevel_119 (lv_at hl 3 rfl) ?_
                  refine lv_lload C.1 C.2.1 dX3_tryLevel_121 (lv_at hl 2 rfl) ?_
                  refine q_lcmp_ne (tgt := 130) C dX3_tryLevel_123 dX3_tryLevel_124 (by decide) (fun c123 => ?_) (fun c123 => ?_)
                  · refine lv_lload C.1 C.2.1 dX3_tryLevel_130 (lv_at hl 3 rfl) ?_
                    refine lv_lconst (v := 1) C.1 C.2.1 dX3_tryLevel_132 (by decide) ?_
                    refine lv_ladd C.1 C.2.1 dX3_tryLevel_133 ?_
                    refine lv_lstore (lv' := [(5, .long (uv + 1)), (10, .int (nI z)), (9, .int 0), (7, .long ((Jn 6) ((Nn 1) ((Ns 0) 4)))), (4, .int (nI ((Ns 0) 4))), (0, .ref (aC 3)), (1, .int (nI 4)), (2, .ref (aC 0)), (3, .ref (aC 2))]) C.1 C.2.1 dX3_tryLevel_134 hl (by decide) rfl (fun ls hl => ?_)
                    refine q_iinc (d := 1) (lv' := [(10, .int (nI (z + 1))), (5, .long (uv + 1)), (9, .int 0), (7, .long ((Jn 6) ((Nn 1) ((Ns 0) 4)))), (4, .int (nI ((Ns 0) 4))), (0, .ref (aC 3)), (1, .int (nI 4)), (2, .ref (aC 0)), (3, .ref (aC 2))]) C dX3_tryLevel_136 hl (k := 1) rfl (by decide) (by decide) rfl (fun ls hl => ?_)
                    refine lv_goto (tgt := 50) C.1 C.2.1 dX3_tryLevel_139 (by decide) ?_
                    exact ih50 (uv + 1) (z + 1) 0 (setB B3 ((Nn 1) ((Ns 0) 4))) (setJ J3 ((Nn 1) ((Ns 0) 4)) uv) (va_up I3 3 ((I3 3) + 1)) S3 cu2 k2 wq2 ac2 (by omega) (by omega) (by omega) (tb_dn C0 (by omega) TB5) (tv_down T5) hcu3 (by rw [gdC_cur C0.1 (by omega) (fun j hj => (hcu3 j hj).trans (hcu j hj).symm)]; exact hg3) (hs5.imp (fun q => ⟨q.1, q.2.trans (tv_ne e5 (fun q => c123 (q.trans (congrFun (T.2.1 6 (by decide)).symm _))))⟩) id) _ _ _ _ S Z (lv_sub hl [0, 2, 3, 1, 4, 5, 6, 7, 8] rfl)
                  · refine lv_goto (tgt := 142) C.1 C.2.1 dX3_tryLevel_127 (by decide) ?_
                    refine lv_aload_n C.1 C.2.1 dX3_tryLevel_142 rfl (lv_at hl 7 rfl) ?_
                    refine lv_iload C.1 C.2.1 dX3_tryLevel_143 (lv_at hl 4 rfl) ?_
                    refine q_callQv (As := [.int (nI ((Ns 0) 4))]) (rest := []) C S hl Z.2.2.1.1 rfl (c_unsetNumber Z.2.2.1 ((Ns 0) 4) (by first | omega | exact hL _ | exact hP _ | exact hF _) hL) (cwV 1 C.2.2.2.2 gX3_tryLevel_X1_unsetNumber rfl rfl rfl (by decide +kernel) ⟨Nat.le_of_ble_eq_true rfl, Nat.le_of_ble_eq_true rfl⟩) rfl rfl (Nat.le_of_ble_eq_true rfl) ⟨Nat.le_of_ble_eq_true rfl, Nat.le_of_ble_eq_true rfl⟩ dX3_tryLevel_145 (fun f H locs hv S => ?_)
                    obtain ⟨O1, F1⟩ := hv
                    have Z := CL_n Z F1 O1
                    refine lv_iload C.1 C.2.1 dX3_tryLevel_148 (lv_at hl 1 rfl) ?_
                    exact q_retQi C S hr hlk ⟨_, _, _, _, cu2, k2, wq2, ac2, Z, tb_unset C0 (by omega) (tb_dn C0 (by omega) TB5), tv_unset (tv_down T5) _, hcu3, by omega, hs5.imp (fun q => ⟨q.1, q.2.trans (tv_eq e5 (c123.trans (congrFun (T.2.1 6 (by decide)) _)))⟩) id⟩ dX3_tryLevel_150
                · refine lv_aload_n C.1 C.2.1 dX3_tryLevel_108 rfl (lv_at hl 5 rfl) ?_
                  refine lv_iload_n C.1 C.2.1 dX3_tryLevel_109 rfl (lv_at hl 6 rfl) ?_
                  refine lv_iconst (v := nI 1) C.1 C.2.1 dX3_tryLevel_110 (by decide) ?_
                  refine q_iadd C dX3_tryLevel_111 ?_
                  refine lv_aload_n C.1 C.2.1 dX3_tryLevel_112 rfl (lv_at hl 7 rfl) ?_
                  refine lv_aload_n C.1 C.2.1 dX3_tryLevel_113 rfl (lv_at hl 8 rfl) ?_
                  refine q_callQi (As := [.int (nI 5), .ref (aC 0), .ref (aC 2)]) (rest := []) C S hl Z.2.2.2.2.1.1 rfl (s_try5 (CL_rf Z) (va_up cu 4 uv) k1 wq ac C0 (by omega) TB4 T4 c105 hL hF) (cwV 3 C.2.2.2.2 gX3_tryLevel_X3_tryLevel rfl rfl rfl (by decide +kernel) ⟨Nat.le_of_ble_eq_true rfl, Nat.le_of_ble_eq_true rfl⟩) rfl rfl (Nat.le_of_ble_eq_true rfl) ⟨Nat.le_of_ble_eq_true rfl, Nat.le_of_ble_eq_true rfl⟩ dX3_tryLevel_114 (fun v f H locs hv S => ?_)
                  obtain ⟨B5, J5, I5, S5, cu2, k2, wq2, ac2, Z1, TB5, T5, hcu2, hk2, hs5⟩ := hv
                  have Z := CL_tr Z Z1
                  have hs5 : (v = 0 ∧ tyR (Nn 1) B0 J0 (Ns 0) (I0 1) K kn k 4 cur wc acc = tyB (Nn 1) B0 J0 (Ns 0) (I0 1) K kn k2 5 cu2 wq2 ac2) ∨ ((v = -3 ∨ v = -4) ∧ tyR (Nn 1) B0 J0 (Ns 0) (I0 1) K kn k 4 cur wc acc = (v, 5000 - k2, ac2)) := hs5.imp (fun q => ⟨q.1, hres.2.trans ((it_good c105).trans q.2)⟩) (fun q => ⟨q.1, hres.2.trans ((it_good c105).trans q.2)⟩)
                  refine lv_istore (lv' := [(9, .int v), (10, .int (nI z)), (7, .long ((Jn 6) ((Nn 1) ((Ns 0) 4)))), (5, .long uv), (4, .int (nI ((Ns 0) 4))), (0, .ref (aC 3)), (1, .int (nI 4)), (2, .ref (aC 0)), (3, .ref (aC 2))]) C.1 C.2.1 dX3_tryLevel_117 hl (by decide) rfl (fun ls hl => ?_)
                  have hcu3 : ∀ j, j < 4 → cu2 j = cur j := fun j hj => (hcu2 j (by omega)).trans ((up_n (by omega)).trans (hcu j hj))
                  have e5 : cu2 4 = uv := (hcu2 4 (by omega)).trans (up_s _ _ _)
                  refine lv_lload C.1 C.2.1 dX3_tryLevel_119 (lv_at hl 3 rfl) ?_
                  refine lv_lload C.1 C.2.1 dX3_tryLevel_121 (lv_at hl 2 rfl) ?_
                  refine q_lcmp_ne (tgt := 130) C dX3_tryLevel_123 dX3_tryLevel_124 (by decide) (fun c123 => ?_) (fun c123 => ?_)
                  · refine lv_lload C.1 C.2.1 dX3_tryLevel_130 (lv_at hl 3 rfl) ?_
                    refine lv_lconst (v := 1) C.1 C.2.1 dX3_tryLevel_132 (by decide) ?_
                    refine lv_ladd C.1 C.2.1 dX3_tryLevel_133 ?_
                    refine lv_lstore (lv' := [(5, .long (uv + 1)), (9, .int v), (10, .int (nI z)), (7, .long ((Jn 6) ((Nn 1) ((Ns 0) 4)))), (4, .int (nI ((Ns 0) 4))), (0, .ref (aC 3)), (1, .int (nI 4)), (2, .ref (aC 0)), (3, .ref (aC 2))]) C.1 C.2.1 dX3_tryLevel_134 hl (by decide) rfl (fun ls hl => ?_)
                    refine q_iinc (d := 1) (lv' := [(10, .int (nI (z + 1))), (5, .long (uv + 1)), (9, .int v), (7, .long ((Jn 6) ((Nn 1) ((Ns 0) 4)))), (4, .int (nI ((Ns 0) 4))), (0, .ref (aC 3)), (1, .int (nI 4)), (2, .ref (aC 0)), (3, .ref (aC 2))]) C dX3_tryLevel_136 hl (k := 2) rfl (by decide) (by decide) rfl (fun ls hl => ?_)
                    refine lv_goto (tgt := 50) C.1 C.2.1 dX3_tryLevel_139 (by decide) ?_
                    exact ih50 (uv + 1) (z + 1) v B5 J5 I5 S5 cu2 k2 wq2 ac2 (by omega) (by omega) (by omega) (tb_dn C0 (by omega) TB5) (tv_down T5) hcu3 (by rw [gdC_cur C0.1 (by omega) (fun j hj => (hcu3 j hj).trans (hcu j hj).symm)]; exact hg3) (hs5.imp (fun q => ⟨q.1, q.2.trans (tv_ne e5 (fun q => c123 (q.trans (congrFun (T.2.1 6 (by decide)).symm _))))⟩) id) _ _ _ _ S Z (lv_sub hl [0, 2, 3, 1, 4, 5, 6, 7, 8] rfl)
                  · refine lv_goto (tgt := 142) C.1 C.2.1 dX3_tryLevel_127 (by decide) ?_
                    refine lv_aload_n C.1 C.2.1 dX3_tryLevel_142 rfl (lv_at hl 7 rfl) ?_
                    refine lv_iload C.1 C.2.1 dX3_tryLevel_143 (lv_at hl 4 rfl) ?_
                    refine q_callQv (As := [.int (nI ((Ns 0) 4))]) (rest := []) C S hl Z.2.2.1.1 rfl (c_unsetNumber Z.2.2.1 ((Ns 0) 4) (by first | omega | exact hL _ | exact hP _ | exact hF _) hL) (cwV 1 C.2.2.2.2 gX3_tryLevel_X1_unsetNumber rfl rfl rfl (by decide +kernel) ⟨Nat.le_of_ble_eq_true rfl, Nat.le_of_ble_eq_true rfl⟩) rfl rfl (Nat.le_of_ble_eq_true rfl) ⟨Nat.le_of_ble_eq_true rfl, Nat.le_of_ble_eq_true rfl⟩ dX3_tryLevel_145 (fun f H locs hv S => ?_)
                    obtain ⟨O1, F1⟩ := hv
                    have Z := CL_n Z F1 O1
                    refine lv_iload C.1 C.2.1 dX3_tryLevel_148 (lv_at hl 0 rfl) ?_
                    exact q_retQi C S hr hlk ⟨_, _, _, _, cu2, k2, wq2, ac2, Z, tb_unset C0 (by omega) (tb_dn C0 (by omega) TB5), tv_unset (tv_down T5) _, hcu3, by omega, hs5.imp (fun q => ⟨q.1, q.2.trans (tv_eq e5 (c123.trans (congrFun (T.2.1 6 (by decide)) _)))⟩) id⟩ dX3_tryLevel_150
              · obtain rfl : kk = 0 := by omega
                refine lv_bipush (v := (-3)) C.1 C.2.1 dX3_tryLevel_73 (by decide) ?_
                refine lv_istore (lv' := [(9, .int (-3)), (10, .int (nI z)), (7, .long ((Jn 6) ((Nn 1) ((Ns 0) 4)))), (5, .long uv), (4, .int (nI ((Ns 0) 4))), (0, .ref (aC 3)), (1, .int (nI 4)), (2, .ref (aC 0)), (3, .ref (aC 2))]) C.1 C.2.1 dX3_tryLevel_75 hl (by decide) rfl (fun ls hl => ?_)
                refine lv_goto (tgt := 142) C.1 C.2.1 dX3_tryLevel_77 (by decide) ?_
                refine lv_aload_n C.1 C.2.1 dX3_tryLevel_142 rfl (lv_at hl 7 rfl) ?_
                refine lv_iload C.1 C.2.1 dX3_tryLevel_143 (lv_at hl 4 rfl) ?_
                refine q_callQv (As := [.int (nI ((Ns 0) 4))]) (rest := []) C S hl Z.2.2.1.1 rfl (c_unsetNumber Z.2.2.1 ((Ns 0) 4) (by first | omega | exact hL _ | exact hP _ | exact hF _) hL) (cwV 1 C.2.2.2.2 gX3_tryLevel_X1_unsetNumber rfl rfl rfl (by decide +kernel) ⟨Nat.le_of_ble_eq_true rfl, Nat.le_of_ble_eq_true rfl⟩) rfl rfl (Nat.le_of_ble_eq_true rfl) ⟨Nat.le_of_ble_eq_true rfl, Nat.le_of_ble_eq_true rfl⟩ dX3_tryLevel_145 (fun f H locs hv S => ?_)
                obtain ⟨O1, F1⟩ := hv
                have Z := CL_n Z F1 O1
                refine lv_iload C.1 C.2.1 dX3_tryLevel_148 (lv_at hl 0 rfl) ?_
                exact q_retQi C S hr hlk ⟨_, _, _, _, cu, 0, wq, ac, Z, tb_unset C0 (by omega) TB3, tv_unset T3 _, hcu, Nat.zero_le _, Or.inr ⟨Or.inl rfl, hres.2.trans it_0⟩⟩ dX3_tryLevel_150
      exact lp50 (k + 1) ((Jn 5) ((Nn 1) ((Ns 0) 4))) 0 0 Bn Jn Is Js cur k wc acc (by omega) (by omega) (Nat.le_refl _) (fun r _ => TB r) T (fun _ _ => rfl) hg (Or.inl ⟨rfl, (itA_lt (by omega)).trans (by rw [T.2.1 5 (by decide)]; rfl)⟩) _ _ _ _ S Z (lv_sub hl [0, 1, 2, 3, 4, 5, 6, 7, 8] rfl)
    · exact absurd c11 (by decide)
set_option maxHeartbeats 4000000 in
set_option maxRecDepth 100000 in
theorem s_try3 {l : Launch} {G : fw_G} {A : Nat → Prop} {f0 : fw_F} {hc : Nat} {aC an ar as_ : Nat → Nat} {In : Nat → Nat} {Nn : Nat → Nat → Nat} {Bn : Nat → Nat → Bool} {Jn : Nat → Nat → Int64} {Ir : Nat → Nat} {Nr : Nat → Nat → Nat} {Br : Nat → Nat → Bool} {Jr : Nat → Nat → Int64} {Is : Nat → Nat} {Ns : Nat → Nat → Nat} {Bs : Nat → Nat → Bool} {Js : Nat → Nat → Int64} {Ic : Nat → Nat} {Nc : Nat → Nat → Nat} {kn : Nat} {K : Nat → kRT} {mn : Nat} {M : Nat → sNT} (Z : CL G f0 f0 hc aC an ar as_ In Nn Bn Jn Ir Nr Br Jr Is Ns Bs Js Ic Nc kn K mn M) {B0 : Nat → Nat → Bool} {J0 : Nat → Nat → Int64} {I0 : Nat → Nat} {S0 : Nat → Nat → Int64} (cur : Nat → Int64) (k wc : Nat) (acc : Nat → Nat → Int64) (C0 : tvC (Nn 1) B0 S0 (Ns 0) (I0 1) K kn) (han : 3 ≤ I0 1) (TB : ∀ r, Bn 2 r = knL (B0 2) (Ns 0) 3 r) (T : tvR B0 J0 I0 S0 (Ns 0) 3 cur k wc acc Bn Jn Is Js) (hg : gdC K kn (Nn 1) (B0 2) (J0 3) (Ns 0) (I0 1) 3 cur = true) (hL : ∀ i, Nn 1 i < 64) (hF : ∀ i, Ns 0 i < 64)  : Met l yX3_tryLevel wsX3_tryLevel ({ frames := 8, cells := 0, slots := 0, locals := 211 }) (va_Pc [.ref (aC 3), .int (nI 3), .ref (aC 0), .ref (aC 2)] (fw_P G A f0)) (va_Qi (fun (r : Int32) (f1 : fw_F) => tyP (Nn 1) B0 J0 I0 S0 (Ns 0) K kn 3 cur k wc acc r (fun Bq Jq Iq Sq => CL G f0 f1 hc aC an ar as_ In Nn Bq Jq Ir Nr Br Jr Iq Ns Bs Sq Ic Nc kn K mn M)) (fw_B G A) A) 0 0 A := by
  refine q_head rfl (by decide) (Nat.le_of_ble_eq_true rfl) ?_
  intro p e s m below meth c ls C hr hlk hnm P hl
  have S := P.start
  have hl : lv_has ls 11 [(0, .ref (aC 3)), (1, .int (nI 3)), (2, .ref (aC 0)), (3, .ref (aC 2))] := hl
  have h8 := C0.2.1
  have hI1 : Is 1 = I0 1 := T.2.2.2.2.1 1 (by decide) (by decide)
  have hwc : Is 2 = wc := T.2.2.2.2.2.1
  have hw2 := T.2.2.2.2.2.2.2.1
  have h3k := T.2.2.2.2.2.2.1
  refine lv_iload_n C.1 C.2.1 dX3_tryLevel_0 rfl (lv_at hl 1 rfl) ?_
  refine lv_aload_n C.1 C.2.1 dX3_tryLevel_1 rfl (lv_at hl 0 rfl) ?_
  refine o_get (v := .int (nI (Is 1))) C S Z.2.2.2.2.1 rfl inX3_tryLevel_X3 1 (Nat.le_of_ble_eq_true rfl) lkX3_tryLevel_22 rfl dX3_tryLevel_2 ?_
  refine q_ge (tgt := 14) C (by decide) (by omega) dX3_tryLevel_5 (by decide) (fun c5 => ?_) (fun c5 => ?_)
  · refine lv_aload_n C.1 C.2.1 dX3_tryLevel_14 rfl (lv_at hl 0 rfl) ?_
    refine lv_aload_n C.1 C.2.1 dX3_tryLevel_15 rfl (lv_at hl 2 rfl) ?_
    refine q_callQi (As := [.ref (aC 0)]) (rest := []) C S hl Z.2.2.2.2.1.1 rfl (c_addWay Z.2.2.2.2.1 Z.2.2.1 (by decide) (by omega) (by omega) hF hL) (cwV 1 C.2.2.2.2 gX3_tryLevel_X3_addWay rfl rfl rfl (by decide +kernel) ⟨Nat.le_of_ble_eq_true rfl, Nat.le_of_ble_eq_true rfl⟩) rfl rfl (Nat.le_of_ble_eq_true rfl) ⟨Nat.le_of_ble_eq_true rfl, Nat.le_of_ble_eq_true rfl⟩ dX3_tryLevel_16 (fun v f H locs hv S => ?_)
    obtain ⟨hv, F1⟩ := hv
    rcases hv with ⟨h1, rfl, O1⟩ | ⟨h1, rfl, O1⟩
    · have Z := CL_s Z F1 O1
      exact q_retQi C S hr hlk ⟨_, _, _, _, cur, k, wc + 1, va_up acc wc cur, Z, TB, tv_way (fun j hj => (C0.2.2.1 j hj).1) h8 (by omega) (by omega) T, fun _ _ => rfl, Nat.le_refl _, Or.inl ⟨rfl, itA_way (by omega) (by omega)⟩⟩ dX3_tryLevel_19
    · have Z := CL_s Z F1 O1
      exact q_retQi C S hr hlk ⟨_, _, _, _, cur, k, wc, acc, Z, TB, T, fun _ _ => rfl, Nat.le_refl _, Or.inr ⟨Or.inr rfl, itA_full (by omega) (by omega)⟩⟩ dX3_tryLevel_19
  · refine lv_iload_n C.1 C.2.1 dX3_tryLevel_8 rfl (lv_at hl 1 rfl) ?_
    refine lv_bipush (v := nI 8) C.1 C.2.1 dX3_tryLevel_9 (by decide) ?_
    refine q_lt (tgt := 20) C (by decide) (by decide) dX3_tryLevel_11 (by decide) (fun c11 => ?_) (fun c11 => ?_)
    · refine lv_aload_n C.1 C.2.1 dX3_tryLevel_20 rfl (lv_at hl 0 rfl) ?_
      refine o_get (v := .ref (as_ 0)) C S Z.2.2.2.2.1 rfl inX3_tryLevel_X3 0 (Nat.le_of_ble_eq_true rfl) lkX3_tryLevel_9 rfl dX3_tryLevel_21 ?_
      refine lv_iload_n C.1 C.2.1 dX3_tryLevel_24 rfl (lv_at hl 1 rfl) ?_
      refine o_nald (x := (Ns 0) 3) C S Z.2.2.2.2.1 0 (Nat.le_of_ble_eq_true rfl) rfl 3 rfl (show 3 < 32 from by first | omega | exact hL _ | exact hP _ | exact hF _) (Nat.le_of_ble_eq_true rfl) rfl dX3_tryLevel_25 ?_
      refine lv_istore (lv' := [(4, .int (nI ((Ns 0) 3))), (0, .ref (aC 3)), (1, .int (nI 3)), (2, .ref (aC 0)), (3, .ref (aC 2))]) C.1 C.2.1 dX3_tryLevel_26 hl (by decide) rfl (fun ls hl => ?_)
      refine lv_aload_n C.1 C.2.1 dX3_tryLevel_28 rfl (lv_at hl 3 rfl) ?_
      refine lv_iload C.1 C.2.1 dX3_tryLevel_29 (lv_at hl 0 rfl) ?_
      refine q_callSl (As := [.int (nI ((Ns 0) 3))]) (rest := []) C S hl Z.2.2.1.1 rfl (c_lowOf Z.2.2.1 ((Ns 0) 3) (by first | omega | exact hL _ | exact hP _ | exact hF _) hL) (cwV 1 C.2.2.2.2 gX3_tryLevel_X1_lowOf rfl rfl rfl (by decide +kernel) ⟨Nat.le_of_ble_eq_true rfl, Nat.le_of_ble_eq_true rfl⟩) rfl rfl (Nat.le_of_ble_eq_true rfl) ⟨Nat.le_of_ble_eq_true rfl, Nat.le_of_ble_eq_true rfl⟩ dX3_tryLevel_31 (fun v hv => ?_)
      subst hv
      refine lv_lstore (lv' := [(5, .long ((Jn 5) ((Nn 1) ((Ns 0) 3)))), (4, .int (nI ((Ns 0) 3))), (0, .ref (aC 3)), (1, .int (nI 3)), (2, .ref (aC 0)), (3, .ref (aC 2))]) C.1 C.2.1 dX3_tryLevel_34 hl (by decide) rfl (fun ls hl => ?_)
      refine lv_aload_n C.1 C.2.1 dX3_tryLevel_36 rfl (lv_at hl 4 rfl) ?_
      refine lv_iload C.1 C.2.1 dX3_tryLevel_37 (lv_at hl 1 rfl) ?_
      refine q_callSl (As := [.int (nI ((Ns 0) 3))]) (rest := []) C S hl Z.2.2.1.1 rfl (c_highOf Z.2.2.1 ((Ns 0) 3) (by first | omega | exact hL _ | exact hP _ | exact hF _) hL) (cwV 1 C.2.2.2.2 gX3_tryLevel_X1_highOf rfl rfl rfl (by decide +kernel) ⟨Nat.le_of_ble_eq_true rfl, Nat.le_of_ble_eq_true rfl⟩) rfl rfl (Nat.le_of_ble_eq_true rfl) ⟨Nat.le_of_ble_eq_true rfl, Nat.le_of_ble_eq_true rfl⟩ dX3_tryLevel_39 (fun v hv => ?_)
      subst hv
      refine lv_lstore (lv' := [(7, .long ((Jn 6) ((Nn 1) ((Ns 0) 3)))), (5, .long ((Jn 5) ((Nn 1) ((Ns 0) 3)))), (4, .int (nI ((Ns 0) 3))), (0, .ref (aC 3)), (1, .int (nI 3)), (2, .ref (aC 0)), (3, .ref (aC 2))]) C.1 C.2.1 dX3_tryLevel_42 hl (by decide) rfl (fun ls hl => ?_)
      refine lv_iconst (v := 0) C.1 C.2.1 dX3_tryLevel_44 (by decide) ?_
      refine lv_istore (lv' := [(9, .int 0), (7, .long ((Jn 6) ((Nn 1) ((Ns 0) 3)))), (5, .long ((Jn 5) ((Nn 1) ((Ns 0) 3)))), (4, .int (nI ((Ns 0) 3))), (0, .ref (aC 3)), (1, .int (nI 3)), (2, .ref (aC 0)), (3, .ref (aC 2))]) C.1 C.2.1 dX3_tryLevel_45 hl (by decide) rfl (fun ls hl => ?_)
      refine lv_iconst (v := nI 0) C.1 C.2.1 dX3_tryLevel_47 (by decide) ?_
      refine lv_istore (lv' := [(10, .int (nI 0)), (9, .int 0), (7, .long ((Jn 6) ((Nn 1) ((Ns 0) 3)))), (5, .long ((Jn 5) ((Nn 1) ((Ns 0) 3)))), (4, .int (nI ((Ns 0) 3))), (0, .ref (aC 3)), (1, .int (nI 3)), (2, .ref (aC 0)), (3, .ref (aC 2))]) C.1 C.2.1 dX3_tryLevel_48 hl (by decide) rfl (fun ls hl => ?_)
      have lp50 : ∀ (n50 : Nat) (uv : Int64) (z : Nat) (sp : Int32) (B3 : Nat → Nat → Bool) (J3 : Nat → Nat → Int64) (I3 : Nat → Nat) (S3 : Nat → Nat → Int64) (cu : Nat → Int64) (kk : Nat) (wq : Nat) (ac : Nat → Nat → Int64), kk < n50 → (z + kk ≤ 5000) → (kk ≤ k) → (∀ r, r ≠ Ns 0 3 → B3 2 r = knL (B0 2) (Ns 0) 3 r) → (tvR B0 J0 I0 S0 (Ns 0) 3 cu kk wq ac B3 J3 I3 S3) → (∀ j, j < 3 → cu j = cur j) → (gdC K kn (Nn 1) (B0 2) (J0 3) (Ns 0) (I0 1) 3 cu = true) → ((sp = 0 ∧ tyR (Nn 1) B0 J0 (Ns 0) (I0 1) K kn k 3 cur wc acc = tyT (Nn 1) B0 J0 (Ns 0) (I0 1) K kn kk 3 (va_up cu 3 uv) wq ac) ∨ ((sp = -3 ∨ sp = -4) ∧ tyR (Nn 1) B0 J0 (Ns 0) (I0 1) K kn k 3 cur wc acc = (sp, 5000 - kk, ac))) → ∀ (f : fw_F) (H : Heap) (locs : List Loc) (ls : Array Slot), fw_S G A s f H locs → CL G f0 f hc aC an ar as_ In Nn B3 J3 Ir Nr Br Jr I3 Ns Bs S3 Ic Nc kn K mn M → lv_has ls 11 [(10, .int (nI z)), (9, .int sp), (7, .long ((Jn 6) ((Nn 1) ((Ns 0) 3)))), (5, .long uv), (4, .int (nI ((Ns 0) 3))), (0, .ref (aC 3)), (1, .int (nI 3)), (2, .ref (aC 0)), (3, .ref (aC 2))] → W p l e ({ frames := 8, cells := 0, slots := 0, locals := 211 }) s m [.ref (aC 3), .int (nI 3), .ref (aC 0), .ref (aC 2)].toArray below meth c H locs 0 0 (MQ below (va_Qi (fun (r : Int32) (f1 : fw_F) => tyP (Nn 1) B0 J0 I0 S0 (Ns 0) K kn 3 cur k wc acc r (fun Bq Jq Iq Sq => CL G f0 f1 hc aC an ar as_ In Nn Bq Jq Ir Nr Br Jr Iq Ns Bs Sq Ic Nc kn K mn M)) (fw_B G A) A) [.ref (aC 3), .int (nI 3), .ref (aC 0), .ref (aC 2)].toArray s 0 0 A) (F0 m 50 ls []) := by
        intro n50
        induction n50 with
        | zero => intro uv z sp B3 J3 I3 S3 cu kk wq ac hme50; exact absurd hme50 (Nat.not_lt_zero _)
        | succ n50 ih50 =>
          intro uv z sp B3 J3 I3 S3 cu kk wq ac hme50 hzk hkk TB3 T3 hcu hg3 hsp f H locs ls S Z hl
          refine lv_iload C.1 C.2.1 dX3_tryLevel_50 (lv_at hl 0 rfl) ?_
          refine lv_sipush (v := nI 5000) C.1 C.2.1 dX3_tryLevel_52 (by decide) ?_
          refine q_gt (tgt := 142) C (by omega) (by decide) dX3_tryLevel_55 (by decide) (fun c55 => ?_) (fun c55 => ?_)
          · exact absurd c55 (by omega)
          · refine lv_iload C.1 C.2.1 dX3_tryLevel_58 (lv_at hl 1 rfl) ?_
            refine lv_if_ne (tgt := 142) C.1 C.2.1 dX3_tryLevel_60 (by decide) (fun c60 => ?_) (fun c60 => ?_)
            · refine lv_aload_n C.1 C.2.1 dX3_tryLevel_142 rfl (lv_at hl 7 rfl) ?_
              refine lv_iload C.1 C.2.1 dX3_tryLevel_143 (lv_at hl 4 rfl) ?_
              refine q_callQv (As := [.int (nI ((Ns 0) 3))]) (rest := []) C S hl Z.2.2.1.1 rfl (c_unsetNumber Z.2.2.1 ((Ns 0) 3) (by first | omega | exact hL _ | exact hP _ | exact hF _) hL) (cwV 1 C.2.2.2.2 gX3_tryLevel_X1_unsetNumber rfl rfl rfl (by decide +kernel) ⟨Nat.le_of_ble_eq_true rfl, Nat.le_of_ble_eq_true rfl⟩) rfl rfl (Nat.le_of_ble_eq_true rfl) ⟨Nat.le_of_ble_eq_true rfl, Nat.le_of_ble_eq_true rfl⟩ dX3_tryLevel_145 (fun f H locs hv S => ?_)
              obtain ⟨O1, F1⟩ := hv
              have Z := CL_n Z F1 O1
              refine lv_iload C.1 C.2.1 dX3_tryLevel_148 (lv_at hl 1 rfl) ?_
              exact q_retQi C S hr hlk ⟨_, _, _, _, cu, kk, wq, ac, Z, tb_unset C0 (by omega) TB3, tv_unset T3 _, hcu, hkk, Or.inr (hsp.resolve_left (fun q => c60 q.1))⟩ dX3_tryLevel_150
            · obtain rfl : sp = 0 := by first | exact c60 | exact Decidable.not_not.mp c60
              have hres := hsp.resolve_right (fun q => by rcases q.1 with q | q <;> exact absurd q (by decide))
              have h37 := T3.2.2.2.2.2.2.1
              refine lv_aload_n C.1 C.2.1 dX3_tryLevel_63 rfl (lv_at hl 5 rfl) ?_
              refine o_get (v := .int (nI (I3 3))) C S Z.2.2.2.2.1 rfl inX3_tryLevel_X3 3 (Nat.le_of_ble_eq_true rfl) lkX3_tryLevel_36 rfl dX3_tryLevel_64 ?_
              refine lv_sipush (v := nI 5000) C.1 C.2.1 dX3_tryLevel_67 (by decide) ?_
              refine q_lt (tgt := 80) C (by omega) (by decide) dX3_tryLevel_70 (by decide) (fun c70 => ?_) (fun c70 => ?_)
              · obtain ⟨k1, rfl⟩ : ∃ k1, kk = k1 + 1 := ⟨kk - 1, by omega⟩
                refine lv_aload_n C.1 C.2.1 dX3_tryLevel_80 rfl (lv_at hl 5 rfl) ?_
                refine lv_dup C.1 C.2.1 dX3_tryLevel_81 rfl ?_
                refine o_get (v := .int (nI (I3 3))) C S Z.2.2.2.2.1 rfl inX3_tryLevel_X3 3 (Nat.le_of_ble_eq_true rfl) lkX3_tryLevel_36 rfl dX3_tryLevel_82 ?_
                refine lv_iconst (v := nI 1) C.1 C.2.1 dX3_tryLevel_85 (by decide) ?_
                refine q_iadd C dX3_tryLevel_86 ?_
                refine o_puti C S Z.2.2.2.2.1 (fw_fr_rf _ 3300 (3300 + 7)) rfl inX3_tryLevel_X3 tyX3 tyX3_ok nmX3 3 (Nat.le_of_ble_eq_true rfl) rfl lkX3_tryLevel_36 rfl rfl ⟨by decide, by decide⟩ dX3_tryLevel_87 (fun f H locs S O1 F1 => ?_)
                have Z := CL_s Z F1 O1
                refine lv_aload_n C.1 C.2.1 dX3_tryLevel_90 rfl (lv_at hl 7 rfl) ?_
                refine lv_iload C.1 C.2.1 dX3_tryLevel_91 (lv_at hl 4 rfl) ?_
                refine lv_lload C.1 C.2.1 dX3_tryLevel_93 (lv_at hl 3 rfl) ?_
                refine q_callQv (As := [.int (nI ((Ns 0) 3)), .long uv]) (rest := []) C S hl Z.2.2.1.1 rfl (c_setNumber Z.2.2.1 ((Ns 0) 3) (by first | omega | exact hL _ | exact hP _ | exact hF _) hL uv) (cwV 2 C.2.2.2.2 gX3_tryLevel_X1_setNumber rfl rfl rfl (by decide +kernel) ⟨Nat.le_of_ble_eq_true rfl, Nat.le_of_ble_eq_true rfl⟩) rfl rfl (Nat.le_of_ble_eq_true rfl) ⟨Nat.le_of_ble_eq_true rfl, Nat.le_of_ble_eq_true rfl⟩ dX3_tryLevel_95 (fun f H locs hv S => ?_)
                obtain ⟨O1, F1⟩ := hv
                have Z := CL_n Z F1 O1
                have T4 := tv_set C0 (by omega) T3 uv
                have TB4 := tb_set2 C0 (by omega) TB3
                have hlo4 : ∀ i, i < kn → (S3 5 i).toInt32 = mI (lkC (Nn 1) (B0 2) (Ns 0) (I0 1) (K i)) ∧ lkC (Nn 1) (B0 2) (Ns 0) (I0 1) (K i) < 64 := fun i hi => ⟨by rw [T3.2.2.2.2.2.2.2.2.1 5 (by decide)]; exact C0.2.2.2 i hi, by have := lkC_le (L := Nn 1) (B := B0 2) (fr := Ns 0) (c := I0 1) (k := K i); omega⟩
                refine lv_aload_n C.1 C.2.1 dX3_tryLevel_98 rfl (lv_at hl 5 rfl) ?_
                refine lv_iload_n C.1 C.2.1 dX3_tryLevel_99 rfl (lv_at hl 6 rfl) ?_
                refine lv_aload_n C.1 C.2.1 dX3_tryLevel_100 rfl (lv_at hl 7 rfl) ?_
                refine lv_aload_n C.1 C.2.1 dX3_tryLevel_101 rfl (lv_at hl 8 rfl) ?_
                refine q_callSi (As := [.int (nI 3), .ref (aC 0), .ref (aC 2)]) (rest := []) C S hl Z.2.2.2.2.1.1 rfl (s_isGood (CL_rf Z) 3 (by decide) (fun i => lkC (Nn 1) (B0 2) (Ns 0) (I0 1) (K i)) hlo4 hL) (cwV 3 C.2.2.2.2 gX3_tryLevel_X3_isGood rfl rfl rfl (by decide +kernel) ⟨Nat.le_of_ble_eq_true rfl, Nat.le_of_ble_eq_true rfl⟩) rfl rfl (Nat.le_of_ble_eq_true rfl) ⟨Nat.le_of_ble_eq_true rfl, Nat.le_of_ble_eq_true rfl⟩ dX3_tryLevel_102 (fun v hv => ?_)
                have hv : v = bI (gdC K kn (Nn 1) (B0 2) (J0 3) (Ns 0) (I0 1) 4 (va_up cu 3 uv)) := hv.trans (congrArg bI (gd_step C0 (by omega) hg3 T4))
                subst hv
                refine q_ifeqB (tgt := 119) C dX3_tryLevel_105 (by decide) (fun c105 => ?_) (fun c105 => ?_)
                · obtain ⟨cu2, k2, wq2, ac2, T5, TB5, hcu2, hk2, hs5⟩ : ∃ cu2 k2 wq2 ac2, tvR B0 J0 I0 S0 (Ns 0) 4 cu2 k2 wq2 ac2 (setB B3 ((Nn 1) ((Ns 0) 3))) (setJ J3 ((Nn 1) ((Ns 0) 3)) uv) (va_up I3 3 ((I3 3) + 1)) S3 ∧ (∀ r, (setB B3 ((Nn 1) ((Ns 0) 3))) 2 r = knL (B0 2) (Ns 0) 4 r) ∧ (∀ j, j < 4 → cu2 j = va_up cu 3 uv j) ∧ k2 ≤ k1 ∧ (((0 : Int32) = 0 ∧ tyR (Nn 1) B0 J0 (Ns 0) (I0 1) K kn k 3 cur wc acc = tyB (Nn 1) B0 J0 (Ns 0) (I0 1) K kn k2 4 cu2 wq2 ac2) ∨ (((0 : Int32) = -3 ∨ (0 : Int32) = -4) ∧ tyR (Nn 1) B0 J0 (Ns 0) (I0 1) K kn k 3 cur wc acc = ((0 : Int32), 5000 - k2, ac2))) := ⟨va_up cu 3 uv, k1, wq, ac, T4, TB4, fun _ _ => rfl, Nat.le_refl _, Or.inl ⟨rfl, hres.2.trans (it_bad c105)⟩⟩
                  have hcu3 : ∀ j, j < 3 → cu2 j = cur j := fun j hj => (hcu2 j (by omega)).trans ((up_n (by omega)).trans (hcu j hj))
                  have e5 : cu2 3 = uv := (hcu2 3 (by omega)).trans (up_s _ _ _)
                  refine lv_lload C.1 C.2.1 dX3_tryLevel_119 (lv_at hl 3 rfl) ?_
                  refine lv_lload C.1 C.2.1 dX3_tryLevel_121 (lv_at hl 2 rfl) ?_
                  refine q_lcmp_ne (tgt := 130) C dX3_tryLevel_123 dX3_tryLevel_124 (by decide) (fun c123 => ?_) (fun c123 => ?_)
                  · refine lv_lload C.1 C.2.1 dX3_tryLevel_130 (lv_at hl 3 rfl) ?_
                    refine lv_lconst (v := 1) C.1 C.2.1 dX3_tryLevel_132 (by decide) ?_
                    refine lv_ladd C.1 C.2.1 dX3_tryLevel_133 ?_
                    refine lv_lstore (lv' := [(5, .long (uv + 1)), (10, .int (nI z)), (9, .int 0), (7, .long ((Jn 6) ((Nn 1) ((Ns 0) 3)))), (4, .int (nI ((Ns 0) 3))), (0, .ref (aC 3)), (1, .int (nI 3)), (2, .ref (aC 0)), (3, .ref (aC 2))]) C.1 C.2.1 dX3_tryLevel_134 hl (by decide) rfl (fun ls hl => ?_)
                    refine q_iinc (d := 1) (lv' := [(10, .int (nI (z + 1))), (5, .long (uv + 1)), (9, .int 0), (7, .long ((Jn 6) ((Nn 1) ((Ns 0) 3)))), (4, .int (nI ((Ns 0) 3))), (0, .ref (aC 3)), (1, .int (nI 3)), (2, .ref (aC 0)), (3, .ref (aC 2))]) C dX3_tryLevel_136 hl (k := 1) rfl (by decide) (by decide) rfl (fun ls hl => ?_)
                    refine lv_goto (tgt := 50) C.1 C.2.1 dX3_tryLevel_139 (by decide) ?_
                    exact ih50 (uv + 1) (z + 1) 0 (setB B3 ((Nn 1) ((Ns 0) 3))) (setJ J3 ((Nn 1) ((Ns 0) 3)) uv) (va_up I3 3 ((I3 3) + 1)) S3 cu2 k2 wq2 ac2 (by omega) (by omega) (by omega) (tb_dn C0 (by omega) TB5) (tv_down T5) hcu3 (by rw [gdC_cur C0.1 (by omega) (fun j hj => (hcu3 j hj).trans (hcu j hj).symm)]; exact hg3) (hs5.imp (fun q => ⟨q.1, q.2.trans (tv_ne e5 (fun q => c123 (q.trans (congrFun (T.2.1 6 (by decide)).symm _))))⟩) id) _ _ _ _ S Z (lv_sub hl [0, 2, 3, 1, 4, 5, 6, 7, 8] rfl)
                  · refine lv_goto (tgt := 142) C.1 C.2.1 dX3_tryLevel_127 (by decide) ?_
                    refine lv_aload_n C.1 C.2.1 dX3_tryLevel_142 rfl (lv_at hl 7 rfl) ?_
                    refine lv_iload C.1 C.2.1 dX3_tryLevel_143 (lv_at hl 4 rfl) ?_
                    refine q_callQv (As := [.int (nI ((Ns 0) 3))]) (rest := []) C S hl Z.2.2.1.1 rfl (c_unsetNumber Z.2.2.1 ((Ns 0) 3) (by first | omega | exact hL _ | exact hP _ | exact hF _) hL) (cwV 1 C.2.2.2.2 gX3_tryLevel_X1_unsetNumber rfl rfl rfl (by decide +kernel) ⟨Nat.le_of_ble_eq_true rfl, Nat.le_of_ble_eq_true rfl⟩) rfl rfl (Nat.le_of_ble_eq_true rfl) ⟨Nat.le_of_ble_eq_true rfl, Nat.le_of_ble_eq_true rfl⟩ dX3_tryLevel_145 (fun f H locs hv S => ?_)
                    obtain ⟨O1, F1⟩ := hv
                    have Z := CL_n Z F1 O1
                    refine lv_iload C.1 C.2.1 dX3_tryLevel_148 (lv_at hl 1 rfl) ?_
                    exact q_retQi C S hr hlk ⟨_, _, _, _, cu2, k2, wq2, ac2, Z, tb_unset C0 (by omega) (tb_dn C0 (by omega) TB5), tv_unset (tv_down T5) _, hcu3, by omega, hs5.imp (fun q => ⟨q.1, q.2.trans (tv_eq e5 (c123.trans (congrFun (T.2.1 6 (by decide)) _)))⟩) id⟩ dX3_tryLevel_150
                · refine lv_aload_n C.1 C.2.1 dX3_tryLevel_108 rfl (lv_at hl 5 rfl) ?_
                  refine lv_iload_n C.1 C.2.1 dX3_tryLevel_109 rfl (lv_at hl 6 rfl) ?_
                  refine lv_iconst (v := nI 1) C.1 C.2.1 dX3_tryLevel_110 (by decide) ?_
                  refine q_iadd C dX3_tryLevel_111 ?_
                  refine lv_aload_n C.1 C.2.1 dX3_tryLevel_112 rfl (lv_at hl 7 rfl) ?_
                  refine lv_aload_n C.1 C.2.1 dX3_tryLevel_113 rfl (lv_at hl 8 rfl) ?_
                  refine q_callQi (As := [.int (nI 4), .ref (aC 0), .ref (aC 2)]) (rest := []) C S hl Z.2.2.2.2.1.1 rfl (s_try4 (CL_rf Z) (va_up cu 3 uv) k1 wq ac C0 (by omega) TB4 T4 c105 hL hF) (cwV 3 C.2.2.2.2 gX3_tryLevel_X3_tryLevel rfl rfl rfl (by decide +kernel) ⟨Nat.le_of_ble_eq_true rfl, Nat.le_of_ble_eq_true rfl⟩) rfl rfl (Nat.le_of_ble_eq_true rfl) ⟨Nat.le_of_ble_eq_true rfl, Nat.le_of_ble_eq_true rfl⟩ dX3_tryLevel_114 (fun v f H locs hv S => ?_)
                  obtain ⟨B5, J5, I5, S5, cu2, k2, wq2, ac2, Z1, TB5, T5, hcu2, hk2, hs5⟩ := hv
                  have Z := CL_tr Z Z1
                  have hs5 : (v = 0 ∧ tyR (Nn 1) B0 J0 (Ns 0) (I0 1) K kn k 3 cur wc acc = tyB (Nn 1) B0 J0 (Ns 0) (I0 1) K kn k2 4 cu2 wq2 ac2) ∨ ((v = -3 ∨ v = -4) ∧ tyR (Nn 1) B0 J0 (Ns 0) (I0 1) K kn k 3 cur wc acc = (v, 5000 - k2, ac2)) := hs5.imp (fun q => ⟨q.1, hres.2.trans ((it_good c105).trans q.2)⟩) (fun q => ⟨q.1, hres.2.trans ((it_good c105).trans q.2)⟩)
                  refine lv_istore (lv' := [(9, .int v), (10, .int (nI z)), (7, .long ((Jn 6) ((Nn 1) ((Ns 0) 3)))), (5, .long uv), (4, .int (nI ((Ns 0) 3))), (0, .ref (aC 3)), (1, .int (nI 3)), (2, .ref (aC 0)), (3, .ref (aC 2))]) C.1 C.2.1 dX3_tryLevel_117 hl (by decide) rfl (fun ls hl => ?_)
                  have hcu3 : ∀ j, j < 3 → cu2 j = cur j := fun j hj => (hcu2 j (by omega)).trans ((up_n (by omega)).trans (hcu j hj))
                  have e5 : cu2 3 = uv := (hcu2 3 (by omega)).trans (up_s _ _ _)
                  refine lv_lload C.1 C.2.1 dX3_tryLevel_119 (lv_at hl 3 rfl) ?_
                  refine lv_lload C.1 C.2.1 dX3_tryLevel_121 (lv_at hl 2 rfl) ?_
                  refine q_lcmp_ne (tgt := 130) C dX3_tryLevel_123 dX3_tryLevel_124 (by decide) (fun c123 => ?_) (fun c123 => ?_)
                  · refine lv_lload C.1 C.2.1 dX3_tryLevel_130 (lv_at hl 3 rfl) ?_
                    refine lv_lconst (v := 1) C.1 C.2.1 dX3_tryLevel_132 (by decide) ?_
                    refine lv_ladd C.1 C.2.1 dX3_tryLevel_133 ?_
                    refine lv_lstore (lv' := [(5, .long (uv + 1)), (9, .int v), (10, .int (nI z)), (7, .long ((Jn 6) ((Nn 1) ((Ns 0) 3)))), (4, .int (nI ((Ns 0) 3))), (0, .ref (aC 3)), (1, .int (nI 3)), (2, .ref (aC 0)), (3, .ref (aC 2))]) C.1 C.2.1 dX3_tryLevel_134 hl (by decide) rfl (fun ls hl => ?_)
                    refine q_iinc (d := 1) (lv' := [(10, .int (nI (z + 1))), (5, .long (uv + 1)), (9, .int v), (7, .long ((Jn 6) ((Nn 1) ((Ns 0) 3)))), (4, .int (nI ((Ns 0) 3))), (0, .ref (aC 3)), (1, .int (nI 3)), (2, .ref (aC 0)), (3, .ref (aC 2))]) C dX3_tryLevel_136 hl (k := 2) rfl (by decide) (by decide) rfl (fun ls hl => ?_)
                    refine lv_goto (tgt := 50) C.1 C.2.1 dX3_tryLevel_139 (by decide) ?_
                    exact ih50 (uv + 1) (z + 1) v B5 J5 I5 S5 cu2 k2 wq2 ac2 (by omega) (by omega) (by omega) (tb_dn C0 (by omega) TB5) (tv_down T5) hcu3 (by rw [gdC_cur C0.1 (by omega) (fun j hj => (hcu3 j hj).trans (hcu j hj).symm)]; exact hg3) (hs5.imp (fun q => ⟨q.1, q.2.trans (tv_ne e5 (fun q => c123 (q.trans (congrFun (T.2.1 6 (by decide)).symm _))))⟩) id) _ _ _ _ S Z (lv_sub hl [0, 2, 3, 1, 4, 5, 6, 7, 8] rfl)
                  · refine lv_goto (tgt := 142) C.1 C.2.1 dX3_tryLevel_127 (by decide) ?_
                    refine lv_aload_n C.1 C.2.1 dX3_tryLevel_142 rfl (lv_at hl 7 rfl) ?_
                    refine lv_iload C.1 C.2.1 dX3_tryLevel_143 (lv_at hl 4 rfl) ?_
                    refine q_callQv (As := [.int (nI ((Ns 0) 3))]) (rest := []) C S hl Z.2.2.1.1 rfl (c_unsetNumber Z.2.2.1 ((Ns 0) 3) (by first | omega | exact hL _ | exact hP _ | exact hF _) hL) (cwV 1 C.2.2.2.2 gX3_tryLevel_X1_unsetNumber rfl rfl rfl (by decide +kernel) ⟨Nat.le_of_ble_eq_true rfl, Nat.le_of_ble_eq_true rfl⟩) rfl rfl (Nat.le_of_ble_eq_true rfl) ⟨Nat.le_of_ble_eq_true rfl, Nat.le_of_ble_eq_true rfl⟩ dX3_tryLevel_145 (fun f H locs hv S => ?_)
                    obtain ⟨O1, F1⟩ := hv
                    have Z := CL_n Z F1 O1
                    refine lv_iload C.1 C.2.1 dX3_tryLevel_148 (lv_at hl 0 rfl) ?_
                    exact q_retQi C S hr hlk ⟨_, _, _, _, cu2, k2, wq2, ac2, Z, tb_unset C0 (by omega) (tb_dn C0 (by omega) TB5), tv_unset (tv_down T5) _, hcu3, by omega, hs5.imp (fun q => ⟨q.1, q.2.trans (tv_eq e5 (c123.trans (congrFun (T.2.1 6 (by decide)) _)))⟩) id⟩ dX3_tryLevel_150
              · obtain rfl : kk = 0 := by omega
                refine lv_bipush (v := (-3)) C.1 C.2.1 dX3_tryLevel_73 (by decide) ?_
                refine lv_istore (lv' := [(9, .int (-3)), (10, .int (nI z)), (7, .long ((Jn 6) ((Nn 1) ((Ns 0) 3)))), (5, .long uv), (4, .int (nI ((Ns 0) 3))), (0, .ref (aC 3)), (1, .int (nI 3)), (2, .ref (aC 0)), (3, .ref (aC 2))]) C.1 C.2.1 dX3_tryLevel_75 hl (by decide) rfl (fun ls hl => ?_)
                refine lv_goto (tgt := 142) C.1 C.2.1 dX3_tryLevel_77 (by decide) ?_
                refine lv_aload_n C.1 C.2.1 dX3_tryLevel_142 rfl (lv_at hl 7 rfl) ?_
                refine lv_iload C.1 C.2.1 dX3_tryLevel_143 (lv_at hl 4 rfl) ?_
                refine q_callQv (As := [.int (nI ((Ns 0) 3))]) (rest := []) C S hl Z.2.2.1.1 rfl (c_unsetNumber Z.2.2.1 ((Ns 0) 3) (by first | omega | exact hL _ | exact hP _ | exact hF _) hL) (cwV 1 C.2.2.2.2 gX3_tryLevel_X1_unsetNumber rfl rfl rfl (by decide +kernel) ⟨Nat.le_of_ble_eq_true rfl, Nat.le_of_ble_eq_true rfl⟩) rfl rfl (Nat.le_of_ble_eq_true rfl) ⟨Nat.le_of_ble_eq_true rfl, Nat.le_of_ble_eq_true rfl⟩ dX3_tryLevel_145 (fun f H locs hv S => ?_)
                obtain ⟨O1, F1⟩ := hv
                have Z := CL_n Z F1 O1
                refine lv_iload C.1 C.2.1 dX3_tryLevel_148 (lv_at hl 0 rfl) ?_
                exact q_retQi C S hr hlk ⟨_, _, _, _, cu, 0, wq, ac, Z, tb_unset C0 (by omega) TB3, tv_unset T3 _, hcu, Nat.zero_le _, Or.inr ⟨Or.inl rfl, hres.2.trans it_0⟩⟩ dX3_tryLevel_150
      exact lp50 (k + 1) ((Jn 5) ((Nn 1) ((Ns 0) 3))) 0 0 Bn Jn Is Js cur k wc acc (by omega) (by omega) (Nat.le_refl _) (fun r _ => TB r) T (fun _ _ => rfl) hg (Or.inl ⟨rfl, (itA_lt (by omega)).trans (by rw [T.2.1 5 (by decide)]; rfl)⟩) _ _ _ _ S Z (lv_sub hl [0, 1, 2, 3, 4, 5, 6, 7, 8] rfl)
    · exact absurd c11 (by decide)
set_option maxHeartbeats 4000000 in
set_option maxRecDepth 100000 in
theorem s_try2 {l : Launch} {G : fw_G} {A : Nat → Prop} {f0 : fw_F} {hc : Nat} {aC an ar as_ : Nat → Nat} {In : Nat → Nat} {Nn : Nat → Nat → Nat} {Bn : Nat → Nat → Bool} {Jn : Nat → Nat → Int64} {Ir : Nat → Nat} {Nr : Nat → Nat → Nat} {Br : Nat → Nat → Bool} {Jr : Nat → Nat → Int64} {Is : Nat → Nat} {Ns : Nat → Nat → Nat} {Bs : Nat → Nat → Bool} {Js : Nat → Nat → Int64} {Ic : Nat → Nat} {Nc : Nat → Nat → Nat} {kn : Nat} {K : Nat → kRT} {mn : Nat} {M : Nat → sNT} (Z : CL G f0 f0 hc aC an ar as_ In Nn Bn Jn Ir Nr Br Jr Is Ns Bs Js Ic Nc kn K mn M) {B0 : Nat → Nat → Bool} {J0 : Nat → Nat → Int64} {I0 : Nat → Nat} {S0 : Nat → Nat → Int64} (cur : Nat → Int64) (k wc : Nat) (acc : Nat → Nat → Int64) (C0 : tvC (Nn 1) B0 S0 (Ns 0) (I0 1) K kn) (han : 2 ≤ I0 1) (TB : ∀ r, Bn 2 r = knL (B0 2) (Ns 0) 2 r) (T : tvR B0 J0 I0 S0 (Ns 0) 2 cur k wc acc Bn Jn Is Js) (hg : gdC K kn (Nn 1) (B0 2) (J0 3) (Ns 0) (I0 1) 2 cur = true) (hL : ∀ i, Nn 1 i < 64) (hF : ∀ i, Ns 0 i < 64)  : Met l yX3_tryLevel wsX3_tryLevel ({ frames := 9, cells := 0, slots := 0, locals := 241 }) (va_Pc [.ref (aC 3), .int (nI 2), .ref (aC 0), .ref (aC 2)] (fw_P G A f0)) (va_Qi (fun (r : Int32) (f1 : fw_F) => tyP (Nn 1) B0 J0 I0 S0 (Ns 0) K kn 2 cur k wc acc r (fun Bq Jq Iq Sq => CL G f0 f1 hc aC an ar as_ In Nn Bq Jq Ir Nr Br Jr Iq Ns Bs Sq Ic Nc kn K mn M)) (fw_B G A) A) 0 0 A := by
  refine q_head rfl (by decide) (Nat.le_of_ble_eq_true rfl) ?_
  intro p e s m below meth c ls C hr hlk hnm P hl
  have S := P.start
  have hl : lv_has ls 11 [(0, .ref (aC 3)), (1, .int (nI 2)), (2, .ref (aC 0)), (3, .ref (aC 2))] := hl
  have h8 := C0.2.1
  have hI1 : Is 1 = I0 1 := T.2.2.2.2.1 1 (by decide) (by decide)
  have hwc : Is 2 = wc := T.2.2.2.2.2.1
  have hw2 := T.2.2.2.2.2.2.2.1
  have h3k := T.2.2.2.2.2.2.1
  refine lv_iload_n C.1 C.2.1 dX3_tryLevel_0 rfl (lv_at hl 1 rfl) ?_
  refine lv_aload_n C.1 C.2.1 dX3_tryLevel_1 rfl (lv_at hl 0 rfl) ?_
  refine o_get (v := .int (nI (Is 1))) C S Z.2.2.2.2.1 rfl inX3_tryLevel_X3 1 (Nat.le_of_ble_eq_true rfl) lkX3_tryLevel_22 rfl dX3_tryLevel_2 ?_
  refine q_ge (tgt := 14) C (by decide) (by omega) dX3_tryLevel_5 (by decide) (fun c5 => ?_) (fun c5 => ?_)
  · refine lv_aload_n C.1 C.2.1 dX3_tryLevel_14 rfl (lv_at hl 0 rfl) ?_
    refine lv_aload_n C.1 C.2.1 dX3_tryLevel_15 rfl (lv_at hl 2 rfl) ?_
    refine q_callQi (As := [.ref (aC 0)]) (rest := []) C S hl Z.2.2.2.2.1.1 rfl (c_addWay Z.2.2.2.2.1 Z.2.2.1 (by decide) (by omega) (by omega) hF hL) (cwV 1 C.2.2.2.2 gX3_tryLevel_X3_addWay rfl rfl rfl (by decide +kernel) ⟨Nat.le_of_ble_eq_true rfl, Nat.le_of_ble_eq_true rfl⟩) rfl rfl (Nat.le_of_ble_eq_true rfl) ⟨Nat.le_of_ble_eq_true rfl, Nat.le_of_ble_eq_true rfl⟩ dX3_tryLevel_16 (fun v f H locs hv S => ?_)
    obtain ⟨hv, F1⟩ := hv
    rcases hv with ⟨h1, rfl, O1⟩ | ⟨h1, rfl, O1⟩
    · have Z := CL_s Z F1 O1
      exact q_retQi C S hr hlk ⟨_, _, _, _, cur, k, wc + 1, va_up acc wc cur, Z, TB, tv_way (fun j hj => (C0.2.2.1 j hj).1) h8 (by omega) (by omega) T, fun _ _ => rfl, Nat.le_refl _, Or.inl ⟨rfl, itA_way (by omega) (by omega)⟩⟩ dX3_tryLevel_19
    · have Z := CL_s Z F1 O1
      exact q_retQi C S hr hlk ⟨_, _, _, _, cur, k, wc, acc, Z, TB, T, fun _ _ => rfl, Nat.le_refl _, Or.inr ⟨Or.inr rfl, itA_full (by omega) (by omega)⟩⟩ dX3_tryLevel_19
  · refine lv_iload_n C.1 C.2.1 dX3_tryLevel_8 rfl (lv_at hl 1 rfl) ?_
    refine lv_bipush (v := nI 8) C.1 C.2.1 dX3_tryLevel_9 (by decide) ?_
    refine q_lt (tgt := 20) C (by decide) (by decide) dX3_tryLevel_11 (by decide) (fun c11 => ?_) (fun c11 => ?_)
    · refine lv_aload_n C.1 C.2.1 dX3_tryLevel_20 rfl (lv_at hl 0 rfl) ?_
      refine o_get (v := .ref (as_ 0)) C S Z.2.2.2.2.1 rfl inX3_tryLevel_X3 0 (Nat.le_of_ble_eq_true rfl) lkX3_tryLevel_9 rfl dX3_tryLevel_21 ?_
      refine lv_iload_n C.1 C.2.1 dX3_tryLevel_24 rfl (lv_at hl 1 rfl) ?_
      refine o_nald (x := (Ns 0) 2) C S Z.2.2.2.2.1 0 (Nat.le_of_ble_eq_true rfl) rfl 2 rfl (show 2 < 32 from by first | omega | exact hL _ | exact hP _ | exact hF _) (Nat.le_of_ble_eq_true rfl) rfl dX3_tryLevel_25 ?_
      refine lv_istore (lv' := [(4, .int (nI ((Ns 0) 2))), (0, .ref (aC 3)), (1, .int (nI 2)), (2, .ref (aC 0)), (3, .ref (aC 2))]) C.1 C.2.1 dX3_tryLevel_26 hl (by decide) rfl (fun ls hl => ?_)
      refine lv_aload_n C.1 C.2.1 dX3_tryLevel_28 rfl (lv_at hl 3 rfl) ?_
      refine lv_iload C.1 C.2.1 dX3_tryLevel_29 (lv_at hl 0 rfl) ?_
      refine q_callSl (As := [.int (nI ((Ns 0) 2))]) (rest := []) C S hl Z.2.2.1.1 rfl (c_lowOf Z.2.2.1 ((Ns 0) 2) (by first | omega | exact hL _ | exact hP _ | exact hF _) hL) (cwV 1 C.2.2.2.2 gX3_tryLevel_X1_lowOf rfl rfl rfl (by decide +kernel) ⟨Nat.le_of_ble_eq_true rfl, Nat.le_of_ble_eq_true rfl⟩) rfl rfl (Nat.le_of_ble_eq_true rfl) ⟨Nat.le_of_ble_eq_true rfl, Nat.le_of_ble_eq_true rfl⟩ dX3_tryLevel_31 (fun v hv => ?_)
      subst hv
      refine lv_lstore (lv' := [(5, .long ((Jn 5) ((Nn 1) ((Ns 0) 2)))), (4, .int (nI ((Ns 0) 2))), (0, .ref (aC 3)), (1, .int (nI 2)), (2, .ref (aC 0)), (3, .ref (aC 2))]) C.1 C.2.1 dX3_tryLevel_34 hl (by decide) rfl (fun ls hl => ?_)
      refine lv_aload_n C.1 C.2.1 dX3_tryLevel_36 rfl (lv_at hl 4 rfl) ?_
      refine lv_iload C.1 C.2.1 dX3_tryLevel_37 (lv_at hl 1 rfl) ?_
      refine q_callSl (As := [.int (nI ((Ns 0) 2))]) (rest := []) C S hl Z.2.2.1.1 rfl (c_highOf Z.2.2.1 ((Ns 0) 2) (by first | omega | exact hL _ | exact hP _ | exact hF _) hL) (cwV 1 C.2.2.2.2 gX3_tryLevel_X1_highOf rfl rfl rfl (by decide +kernel) ⟨Nat.le_of_ble_eq_true rfl, Nat.le_of_ble_eq_true rfl⟩) rfl rfl (Nat.le_of_ble_eq_true rfl) ⟨Nat.le_of_ble_eq_true rfl, Nat.le_of_ble_eq_true rfl⟩ dX3_tryLevel_39 (fun v hv => ?_)
      subst hv
      refine lv_lstore (lv' := [(7, .long ((Jn 6) ((Nn 1) ((Ns 0) 2)))), (5, .long ((Jn 5) ((Nn 1) ((Ns 0) 2)))), (4, .int (nI ((Ns 0) 2))), (0, .ref (aC 3)), (1, .int (nI 2)), (2, .ref (aC 0)), (3, .ref (aC 2))]) C.1 C.2.1 dX3_tryLevel_42 hl (by decide) rfl (fun ls hl => ?_)
      refine lv_iconst (v := 0) C.1 C.2.1 dX3_tryLevel_44 (by decide) ?_
      refine lv_istore (lv' := [(9, .int 0), (7, .long ((Jn 6) ((Nn 1) ((Ns 0) 2)))), (5, .long ((Jn 5) ((Nn 1) ((Ns 0) 2)))), (4, .int (nI ((Ns 0) 2))), (0, .ref (aC 3)), (1, .int (nI 2)), (2, .ref (aC 0)), (3, .ref (aC 2))]) C.1 C.2.1 dX3_tryLevel_45 hl (by decide) rfl (fun ls hl => ?_)
      refine lv_iconst (v := nI 0) C.1 C.2.1 dX3_tryLevel_47 (by decide) ?_
      refine lv_istore (lv' := [(10, .int (nI 0)), (9, .int 0), (7, .long ((Jn 6) ((Nn 1) ((Ns 0) 2)))), (5, .long ((Jn 5) ((Nn 1) ((Ns 0) 2)))), (4, .int (nI ((Ns 0) 2))), (0, .ref (aC 3)), (1, .int (nI 2)), (2, .ref (aC 0)), (3, .ref (aC 2))]) C.1 C.2.1 dX3_tryLevel_48 hl (by decide) rfl (fun ls hl => ?_)
      have lp50 : ∀ (n50 : Nat) (uv : Int64) (z : Nat) (sp : Int32) (B3 : Nat → Nat → Bool) (J3 : Nat → Nat → Int64) (I3 : Nat → Nat) (S3 : Nat → Nat → Int64) (cu : Nat → Int64) (kk : Nat) (wq : Nat) (ac : Nat → Nat → Int64), kk < n50 → (z + kk ≤ 5000) → (kk ≤ k) → (∀ r, r ≠ Ns 0 2 → B3 2 r = knL (B0 2) (Ns 0) 2 r) → (tvR B0 J0 I0 S0 (Ns 0) 2 cu kk wq ac B3 J3 I3 S3) → (∀ j, j < 2 → cu j = cur j) → (gdC K kn (Nn 1) (B0 2) (J0 3) (Ns 0) (I0 1) 2 cu = true) → ((sp = 0 ∧ tyR (Nn 1) B0 J0 (Ns 0) (I0 1) K kn k 2 cur wc acc = tyT (Nn 1) B0 J0 (Ns 0) (I0 1) K kn kk 2 (va_up cu 2 uv) wq ac) ∨ ((sp = -3 ∨ sp = -4) ∧ tyR (Nn 1) B0 J0 (Ns 0) (I0 1) K kn k 2 cur wc acc = (sp, 5000 - kk, ac))) → ∀ (f : fw_F) (H : Heap) (locs : List Loc) (ls : Array Slot), fw_S G A s f H locs → CL G f0 f hc aC an ar as_ In Nn B3 J3 Ir Nr Br Jr I3 Ns Bs S3 Ic Nc kn K mn M → lv_has ls 11 [(10, .int (nI z)), (9, .int sp), (7, .long ((Jn 6) ((Nn 1) ((Ns 0) 2)))), (5, .long uv), (4, .int (nI ((Ns 0) 2))), (0, .ref (aC 3)), (1, .int (nI 2)), (2, .ref (aC 0)), (3, .ref (aC 2))] → W p l e ({ frames := 9, cells := 0, slots := 0, locals := 241 }) s m [.ref (aC 3), .int (nI 2), .ref (aC 0), .ref (aC 2)].toArray below meth c H locs 0 0 (MQ below (va_Qi (fun (r : Int32) (f1 : fw_F) => tyP (Nn 1) B0 J0 I0 S0 (Ns 0) K kn 2 cur k wc acc r (fun Bq Jq Iq Sq => CL G f0 f1 hc aC an ar as_ In Nn Bq Jq Ir Nr Br Jr Iq Ns Bs Sq Ic Nc kn K mn M)) (fw_B G A) A) [.ref (aC 3), .int (nI 2), .ref (aC 0), .ref (aC 2)].toArray s 0 0 A) (F0 m 50 ls []) := by
        intro n50
        induction n50 with
        | zero => intro uv z sp B3 J3 I3 S3 cu kk wq ac hme50; exact absurd hme50 (Nat.not_lt_zero _)
        | succ n50 ih50 =>
          intro uv z sp B3 J3 I3 S3 cu kk wq ac hme50 hzk hkk TB3 T3 hcu hg3 hsp f H locs ls S Z hl
          refine lv_iload C.1 C.2.1 dX3_tryLevel_50 (lv_at hl 0 rfl) ?_
          refine lv_sipush (v := nI 5000) C.1 C.2.1 dX3_tryLevel_52 (by decide) ?_
          refine q_gt (tgt := 142) C (by omega) (by decide) dX3_tryLevel_55 (by decide) (fun c55 => ?_) (fun c55 => ?_)
          · exact absurd c55 (by omega)
          · refine lv_iload C.1 C.2.1 dX3_tryLevel_58 (lv_at hl 1 rfl) ?_
            refine lv_if_ne (tgt := 142) C.1 C.2.1 dX3_tryLevel_60 (by decide) (fun c60 => ?_) (fun c60 => ?_)
            · refine lv_aload_n C.1 C.2.1 dX3_tryLevel_142 rfl (lv_at hl 7 rfl) ?_
              refine lv_iload C.1 C.2.1 dX3_tryLevel_143 (lv_at hl 4 rfl) ?_
              refine q_callQv (As := [.int (nI ((Ns 0) 2))]) (rest := []) C S hl Z.2.2.1.1 rfl (c_unsetNumber Z.2.2.1 ((Ns 0) 2) (by first | omega | exact hL _ | exact hP _ | exact hF _) hL) (cwV 1 C.2.2.2.2 gX3_tryLevel_X1_unsetNumber rfl rfl rfl (by decide +kernel) ⟨Nat.le_of_ble_eq_true rfl, Nat.le_of_ble_eq_true rfl⟩) rfl rfl (Nat.le_of_ble_eq_true rfl) ⟨Nat.le_of_ble_eq_true rfl, Nat.le_of_ble_eq_true rfl⟩ dX3_tryLevel_145 (fun f H locs hv S => ?_)
              obtain ⟨O1, F1⟩ := hv
              have Z := CL_n Z F1 O1
              refine lv_iload C.1 C.2.1 dX3_tryLevel_148 (lv_at hl 1 rfl) ?_
              exact q_retQi C S hr hlk ⟨_, _, _, _, cu, kk, wq, ac, Z, tb_unset C0 (by omega) TB3, tv_unset T3 _, hcu, hkk, Or.inr (hsp.resolve_left (fun q => c60 q.1))⟩ dX3_tryLevel_150
            · obtain rfl : sp = 0 := by first | exact c60 | exact Decidable.not_not.mp c60
              have hres := hsp.resolve_right (fun q => by rcases q.1 with q | q <;> exact absurd q (by decide))
              have h37 := T3.2.2.2.2.2.2.1
              refine lv_aload_n C.1 C.2.1 dX3_tryLevel_63 rfl (lv_at hl 5 rfl) ?_
              refine o_get (v := .int (nI (I3 3))) C S Z.2.2.2.2.1 rfl inX3_tryLevel_X3 3 (Nat.le_of_ble_eq_true rfl) lkX3_tryLevel_36 rfl dX3_tryLevel_64 ?_
              refine lv_sipush (v := nI 5000) C.1 C.2.1 dX3_tryLevel_67 (by decide) ?_
              refine q_lt (tgt := 80) C (by omega) (by decide) dX3_tryLevel_70 (by decide) (fun c70 => ?_) (fun c70 => ?_)
              · obtain ⟨k1, rfl⟩ : ∃ k1, kk = k1 + 1 := ⟨kk - 1, by omega⟩
                refine lv_aload_n C.1 C.2.1 dX3_tryLevel_80 rfl (lv_at hl 5 rfl) ?_
                refine lv_dup C.1 C.2.1 dX3_tryLevel_81 rfl ?_
                refine o_get (v := .int (nI (I3 3))) C S Z.2.2.2.2.1 rfl inX3_tryLevel_X3 3 (Nat.le_of_ble_eq_true rfl) lkX3_tryLevel_36 rfl dX3_tryLevel_82 ?_
                refine lv_iconst (v := nI 1) C.1 C.2.1 dX3_tryLevel_85 (by decide) ?_
                refine q_iadd C dX3_tryLevel_86 ?_
                refine o_puti C S Z.2.2.2.2.1 (fw_fr_rf _ 3300 (3300 + 7)) rfl inX3_tryLevel_X3 tyX3 tyX3_ok nmX3 3 (Nat.le_of_ble_eq_true rfl) rfl lkX3_tryLevel_36 rfl rfl ⟨by decide, by decide⟩ dX3_tryLevel_87 (fun f H locs S O1 F1 => ?_)
                have Z := CL_s Z F1 O1
                refine lv_aload_n C.1 C.2.1 dX3_tryLevel_90 rfl (lv_at hl 7 rfl) ?_
                refine lv_iload C.1 C.2.1 dX3_tryLevel_91 (lv_at hl 4 rfl) ?_
                refine lv_lload C.1 C.2.1 dX3_tryLevel_93 (lv_at hl 3 rfl) ?_
                refine q_callQv (As := [.int (nI ((Ns 0) 2)), .long uv]) (rest := []) C S hl Z.2.2.1.1 rfl (c_setNumber Z.2.2.1 ((Ns 0) 2) (by first | omega | exact hL _ | exact hP _ | exact hF _) hL uv) (cwV 2 C.2.2.2.2 gX3_tryLevel_X1_setNumber rfl rfl rfl (by decide +kernel) ⟨Nat.le_of_ble_eq_true rfl, Nat.le_of_ble_eq_true rfl⟩) rfl rfl (Nat.le_of_ble_eq_true rfl) ⟨Nat.le_of_ble_eq_true rfl, Nat.le_of_ble_eq_true rfl⟩ dX3_tryLevel_95 (fun f H locs hv S => ?_)
                obtain ⟨O1, F1⟩ := hv
                have Z := CL_n Z F1 O1
                have T4 := tv_set C0 (by omega) T3 uv
                have TB4 := tb_set2 C0 (by omega) TB3
                have hlo4 : ∀ i, i < kn → (S3 5 i).toInt32 = mI (lkC (Nn 1) (B0 2) (Ns 0) (I0 1) (K i)) ∧ lkC (Nn 1) (B0 2) (Ns 0) (I0 1) (K i) < 64 := fun i hi => ⟨by rw [T3.2.2.2.2.2.2.2.2.1 5 (by decide)]; exact C0.2.2.2 i hi, by have := lkC_le (L := Nn 1) (B := B0 2) (fr := Ns 0) (c := I0 1) (k := K i); omega⟩
                refine lv_aload_n C.1 C.2.1 dX3_tryLevel_98 rfl (lv_at hl 5 rfl) ?_
                refine lv_iload_n C.1 C.2.1 dX3_tryLevel_99 rfl (lv_at hl 6 rfl) ?_
                refine lv_aload_n C.1 C.2.1 dX3_tryLevel_100 rfl (lv_at hl 7 rfl) ?_
                refine lv_aload_n C.1 C.2.1 dX3_tryLevel_101 rfl (lv_at hl 8 rfl) ?_
                refine q_callSi (As := [.int (nI 2), .ref (aC 0), .ref (aC 2)]) (rest := []) C S hl Z.2.2.2.2.1.1 rfl (s_isGood (CL_rf Z) 2 (by decide) (fun i => lkC (Nn 1) (B0 2) (Ns 0) (I0 1) (K i)) hlo4 hL) (cwV 3 C.2.2.2.2 gX3_tryLevel_X3_isGood rfl rfl rfl (by decide +kernel) ⟨Nat.le_of_ble_eq_true rfl, Nat.le_of_ble_eq_true rfl⟩) rfl rfl (Nat.le_of_ble_eq_true rfl) ⟨Nat.le_of_ble_eq_true rfl, Nat.le_of_ble_eq_true rfl⟩ dX3_tryLevel_102 (fun v hv => ?_)
                have hv : v = bI (gdC K kn (Nn 1) (B0 2) (J0 3) (Ns 0) (I0 1) 3 (va_up cu 2 uv)) := hv.trans (congrArg bI (gd_step C0 (by omega) hg3 T4))
                subst hv
                refine q_ifeqB (tgt := 119) C dX3_tryLevel_105 (by decide) (fun c105 => ?_) (fun c105 => ?_)
                · obtain ⟨cu2, k2, wq2, ac2, T5, TB5, hcu2, hk2, hs5⟩ : ∃ cu2 k2 wq2 ac2, tvR B0 J0 I0 S0 (Ns 0) 3 cu2 k2 wq2 ac2 (setB B3 ((Nn 1) ((Ns 0) 2))) (setJ J3 ((Nn 1) ((Ns 0) 2)) uv) (va_up I3 3 ((I3 3) + 1)) S3 ∧ (∀ r, (setB B3 ((Nn 1) ((Ns 0) 2))) 2 r = knL (B0 2) (Ns 0) 3 r) ∧ (∀ j, j < 3 → cu2 j = va_up cu 2 uv j) ∧ k2 ≤ k1 ∧ (((0 : Int32) = 0 ∧ tyR (Nn 1) B0 J0 (Ns 0) (I0 1) K kn k 2 cur wc acc = tyB (Nn 1) B0 J0 (Ns 0) (I0 1) K kn k2 3 cu2 wq2 ac2) ∨ (((0 : Int32) = -3 ∨ (0 : Int32) = -4) ∧ tyR (Nn 1) B0 J0 (Ns 0) (I0 1) K kn k 2 cur wc acc = ((0 : Int32), 5000 - k2, ac2))) := ⟨va_up cu 2 uv, k1, wq, ac, T4, TB4, fun _ _ => rfl, Nat.le_refl _, Or.inl ⟨rfl, hres.2.trans (it_bad c105)⟩⟩
                  have hcu3 : ∀ j, j < 2 → cu2 j = cur j := fun j hj => (hcu2 j (by omega)).trans ((up_n (by omega)).trans (hcu j hj))
                  have e5 : cu2 2 = uv := (hcu2 2 (by omega)).trans (up_s _ _ _)
                  refine lv_lload C.1 C.2.1 dX3_tryLevel_119 (lv_at hl 3 rfl) ?_
                  refine lv_lload C.1 C.2.1 dX3_tryLevel_121 (lv_at hl 2 rfl) ?_
                  refine q_lcmp_ne (tgt := 130) C dX3_tryLevel_123 dX3_tryLevel_124 (by decide) (fun c123 => ?_) (fun c123 => ?_)
                  · refine lv_lload C.1 C.2.1 dX3_tryLevel_130 (lv_at hl 3 rfl) ?_
                    refine lv_lconst (v := 1) C.1 C.2.1 dX3_tryLevel_132 (by decide) ?_
                    refine lv_ladd C.1 C.2.1 dX3_tryLevel_133 ?_
                    refine lv_lstore (lv' := [(5, .long (uv + 1)), (10, .int (nI z)), (9, .int 0), (7, .long ((Jn 6) ((Nn 1) ((Ns 0) 2)))), (4, .int (nI ((Ns 0) 2))), (0, .ref (aC 3)), (1, .int (nI 2)), (2, .ref (aC 0)), (3, .ref (aC 2))]) C.1 C.2.1 dX3_tryLevel_134 hl (by decide) rfl (fun ls hl => ?_)
                    refine q_iinc (d := 1) (lv' := [(10, .int (nI (z + 1))), (5, .long (uv + 1)), (9, .int 0), (7, .long ((Jn 6) ((Nn 1) ((Ns 0) 2)))), (4, .int (nI ((Ns 0) 2))), (0, .ref (aC 3)), (1, .int (nI 2)), (2, .ref (aC 0)), (3, .ref (aC 2))]) C dX3_tryLevel_136 hl (k := 1) rfl (by decide) (by decide) rfl (fun ls hl => ?_)
                    refine lv_goto (tgt := 50) C.1 C.2.1 dX3_tryLevel_139 (by decide) ?_
                    exact ih50 (uv + 1) (z + 1) 0 (setB B3 ((Nn 1) ((Ns 0) 2))) (setJ J3 ((Nn 1) ((Ns 0) 2)) uv) (va_up I3 3 ((I3 3) + 1)) S3 cu2 k2 wq2 ac2 (by omega) (by omega) (by omega) (tb_dn C0 (by omega) TB5) (tv_down T5) hcu3 (by rw [gdC_cur C0.1 (by omega) (fun j hj => (hcu3 j hj).trans (hcu j hj).symm)]; exact hg3) (hs5.imp (fun q => ⟨q.1, q.2.trans (tv_ne e5 (fun q => c123 (q.trans (congrFun (T.2.1 6 (by decide)).symm _))))⟩) id) _ _ _ _ S Z (lv_sub hl [0, 2, 3, 1, 4, 5, 6, 7, 8] rfl)
                  · refine lv_goto (tgt := 142) C.1 C.2.1 dX3_tryLevel_127 (by decide) ?_
                    refine lv_aload_n C.1 C.2.1 dX3_tryLevel_142 rfl (lv_at hl 7 rfl) ?_
                    refine lv_iload C.1 C.2.1 dX3_tryLevel_143 (lv_at hl 4 rfl) ?_
                    refine q_callQv (As := [.int (nI ((Ns 0) 2))]) (rest := []) C S hl Z.2.2.1.1 rfl (c_unsetNumber Z.2.2.1 ((Ns 0) 2) (by first | omega | exact hL _ | exact hP _ | exact hF _) hL) (cwV 1 C.2.2.2.2 gX3_tryLevel_X1_unsetNumber rfl rfl rfl (by decide +kernel) ⟨Nat.le_of_ble_eq_true rfl, Nat.le_of_ble_eq_true rfl⟩) rfl rfl (Nat.le_of_ble_eq_true rfl) ⟨Nat.le_of_ble_eq_true rfl, Nat.le_of_ble_eq_true rfl⟩ dX3_tryLevel_145 (fun f H locs hv S => ?_)
                    obtain ⟨O1, F1⟩ := hv
                    have Z := CL_n Z F1 O1
                    refine lv_iload C.1 C.2.1 dX3_tryLevel_148 (lv_at hl 1 rfl) ?_
                    exact q_retQi C S hr hlk ⟨_, _, _, _, cu2, k2, wq2, ac2, Z, tb_unset C0 (by omega) (tb_dn C0 (by omega) TB5), tv_unset (tv_down T5) _, hcu3, by omega, hs5.imp (fun q => ⟨q.1, q.2.trans (tv_eq e5 (c123.trans (congrFun (T.2.1 6 (by decide)) _)))⟩) id⟩ dX3_tryLevel_150
                · refine lv_aload_n C.1 C.2.1 dX3_tryLevel_108 rfl (lv_at hl 5 rfl) ?_
                  refine lv_iload_n C.1 C.2.1 dX3_tryLevel_109 rfl (lv_at hl 6 rfl) ?_
                  refine lv_iconst (v := nI 1) C.1 C.2.1 dX3_tryLevel_110 (by decide) ?_
                  refine q_iadd C dX3_tryLevel_111 ?_
                  refine lv_aload_n C.1 C.2.1 dX3_tryLevel_112 rfl (lv_at hl 7 rfl) ?_
                  refine lv_aload_n C.1 C.2.1 dX3_tryLevel_113 rfl (lv_at hl 8 rfl) ?_
                  refine q_callQi (As := [.int (nI 3), .ref (aC 0), .ref (aC 2)]) (rest := []) C S hl Z.2.2.2.2.1.1 rfl (s_try3 (CL_rf Z) (va_up cu 2 uv) k1 wq ac C0 (by omega) TB4 T4 c105 hL hF) (cwV 3 C.2.2.2.2 gX3_tryLevel_X3_tryLevel rfl rfl rfl (by decide +kernel) ⟨Nat.le_of_ble_eq_true rfl, Nat.le_of_ble_eq_true rfl⟩) rfl rfl (Nat.le_of_ble_eq_true rfl) ⟨Nat.le_of_ble_eq_true rfl, Nat.le_of_ble_eq_true rfl⟩ dX3_tryLevel_114 (fun v f H locs hv S => ?_)
                  obtain ⟨B5, J5, I5, S5, cu2, k2, wq2, ac2, Z1, TB5, T5, hcu2, hk2, hs5⟩ := hv
                  have Z := CL_tr Z Z1
                  have hs5 : (v = 0 ∧ tyR (Nn 1) B0 J0 (Ns 0) (I0 1) K kn k 2 cur wc acc = tyB (Nn 1) B0 J0 (Ns 0) (I0 1) K kn k2 3 cu2 wq2 ac2) ∨ ((v = -3 ∨ v = -4) ∧ tyR (Nn 1) B0 J0 (Ns 0) (I0 1) K kn k 2 cur wc acc = (v, 5000 - k2, ac2)) := hs5.imp (fun q => ⟨q.1, hres.2.trans ((it_good c105).trans q.2)⟩) (fun q => ⟨q.1, hres.2.trans ((it_good c105).trans q.2)⟩)
                  refine lv_istore (lv' := [(9, .int v), (10, .int (nI z)), (7, .long ((Jn 6) ((Nn 1) ((Ns 0) 2)))), (5, .long uv), (4, .int (nI ((Ns 0) 2))), (0, .ref (aC 3)), (1, .int (nI 2)), (2, .ref (aC 0)), (3, .ref (aC 2))]) C.1 C.2.1 dX3_tryLevel_117 hl (by decide) rfl (fun ls hl => ?_)
                  have hcu3 : ∀ j, j < 2 → cu2 j = cur j := fun j hj => (hcu2 j (by omega)).trans ((up_n (by omega)).trans (hcu j hj))
                  have e5 : cu2 2 = uv := (hcu2 2 (by omega)).trans (up_s _ _ _)
                  refine lv_lload C.1 C.2.1 dX3_tryLevel_119 (lv_at hl 3 rfl) ?_
                  refine lv_lload C.1 C.2.1 dX3_tryLevel_121 (lv_at hl 2 rfl) ?_
                  refine q_lcmp_ne (tgt := 130) C dX3_tryLevel_123 dX3_tryLevel_124 (by decide) (fun c123 => ?_) (fun c123 => ?_)
                  · refine lv_lload C.1 C.2.1 dX3_tryLevel_130 (lv_at hl 3 rfl) ?_
                    refine lv_lconst (v := 1) C.1 C.2.1 dX3_tryLevel_132 (by decide) ?_
                    refine lv_ladd C.1 C.2.1 dX3_tryLevel_133 ?_
                    refine lv_lstore (lv' := [(5, .long (uv + 1)), (9, .int v), (10, .int (nI z)), (7, .long ((Jn 6) ((Nn 1) ((Ns 0) 2)))), (4, .int (nI ((Ns 0) 2))), (0, .ref (aC 3)), (1, .int (nI 2)), (2, .ref (aC 0)), (3, .ref (aC 2))]) C.1 C.2.1 dX3_tryLevel_134 hl (by decide) rfl (fun ls hl => ?_)
                    refine q_iinc (d := 1) (lv' := [(10, .int (nI (z + 1))), (5, .long (uv + 1)), (9, .int v), (7, .long ((Jn 6) ((Nn 1) ((Ns 0) 2)))), (4, .int (nI ((Ns 0) 2))), (0, .ref (aC 3)), (1, .int (nI 2)), (2, .ref (aC 0)), (3, .ref (aC 2))]) C dX3_tryLevel_136 hl (k := 2) rfl (by decide) (by decide) rfl (fun ls hl => ?_)
                    refine lv_goto (tgt := 50) C.1 C.2.1 dX3_tryLevel_139 (by decide) ?_
                    exact ih50 (uv + 1) (z + 1) v B5 J5 I5 S5 cu2 k2 wq2 ac2 (by omega) (by omega) (by omega) (tb_dn C0 (by omega) TB5) (tv_down T5) hcu3 (by rw [gdC_cur C0.1 (by omega) (fun j hj => (hcu3 j hj).trans (hcu j hj).symm)]; exact hg3) (hs5.imp (fun q => ⟨q.1, q.2.trans (tv_ne e5 (fun q => c123 (q.trans (congrFun (T.2.1 6 (by decide)).symm _))))⟩) id) _ _ _ _ S Z (lv_sub hl [0, 2, 3, 1, 4, 5, 6, 7, 8] rfl)
                  · refine lv_goto (tgt := 142) C.1 C.2.1 dX3_tryLevel_127 (by decide) ?_
                    refine lv_aload_n C.1 C.2.1 dX3_tryLevel_142 rfl (lv_at hl 7 rfl) ?_
                    refine lv_iload C.1 C.2.1 dX3_tryLevel_143 (lv_at hl 4 rfl) ?_
                    refine q_callQv (As := [.int (nI ((Ns 0) 2))]) (rest := []) C S hl Z.2.2.1.1 rfl (c_unsetNumber Z.2.2.1 ((Ns 0) 2) (by first | omega | exact hL _ | exact hP _ | exact hF _) hL) (cwV 1 C.2.2.2.2 gX3_tryLevel_X1_unsetNumber rfl rfl rfl (by decide +kernel) ⟨Nat.le_of_ble_eq_true rfl, Nat.le_of_ble_eq_true rfl⟩) rfl rfl (Nat.le_of_ble_eq_true rfl) ⟨Nat.le_of_ble_eq_true rfl, Nat.le_of_ble_eq_true rfl⟩ dX3_tryLevel_145 (fun f H locs hv S => ?_)
                    obtain ⟨O1, F1⟩ := hv
                    have Z := CL_n Z F1 O1
                    refine lv_iload C.1 C.2.1 dX3_tryLevel_148 (lv_at hl 0 rfl) ?_
                    exact q_retQi C S hr hlk ⟨_, _, _, _, cu2, k2, wq2, ac2, Z, tb_unset C0 (by omega) (tb_dn C0 (by omega) TB5), tv_unset (tv_down T5) _, hcu3, by omega, hs5.imp (fun q => ⟨q.1, q.2.trans (tv_eq e5 (c123.trans (congrFun (T.2.1 6 (by decide)) _)))⟩) id⟩ dX3_tryLevel_150
              · obtain rfl : kk = 0 := by omega
                refine lv_bipush (v := (-3)) C.1 C.2.1 dX3_tryLevel_73 (by decide) ?_
                refine lv_istore (lv' := [(9, .int (-3)), (10, .int (nI z)), (7, .long ((Jn 6) ((Nn 1) ((Ns 0) 2)))), (5, .long uv), (4, .int (nI ((Ns 0) 2))), (0, .ref (aC 3)), (1, .int (nI 2)), (2, .ref (aC 0)), (3, .ref (aC 2))]) C.1 C.2.1 dX3_tryLevel_75 hl (by decide) rfl (fun ls hl => ?_)
                refine lv_goto (tgt := 142) C.1 C.2.1 dX3_tryLevel_77 (by decide) ?_
                refine lv_aload_n C.1 C.2.1 dX3_tryLevel_142 rfl (lv_at hl 7 rfl) ?_
                refine lv_iload C.1 C.2.1 dX3_tryLevel_143 (lv_at hl 4 rfl) ?_
                refine q_callQv (As := [.int (nI ((Ns 0) 2))]) (rest := []) C S hl Z.2.2.1.1 rfl (c_unsetNumber Z.2.2.1 ((Ns 0) 2) (by first | omega | exact hL _ | exact hP _ | exact hF _) hL) (cwV 1 C.2.2.2.2 gX3_tryLevel_X1_unsetNumber rfl rfl rfl (by decide +kernel) ⟨Nat.le_of_ble_eq_true rfl, Nat.le_of_ble_eq_true rfl⟩) rfl rfl (Nat.le_of_ble_eq_true rfl) ⟨Nat.le_of_ble_eq_true rfl, Nat.le_of_ble_eq_true rfl⟩ dX3_tryLevel_145 (fun f H locs hv S => ?_)
                obtain ⟨O1, F1⟩ := hv
                have Z := CL_n Z F1 O1
                refine lv_iload C.1 C.2.1 dX3_tryLevel_148 (lv_at hl 0 rfl) ?_
                exact q_retQi C S hr hlk ⟨_, _, _, _, cu, 0, wq, ac, Z, tb_unset C0 (by omega) TB3, tv_unset T3 _, hcu, Nat.zero_le _, Or.inr ⟨Or.inl rfl, hres.2.trans it_0⟩⟩ dX3_tryLevel_150
      exact lp50 (k + 1) ((Jn 5) ((Nn 1) ((Ns 0) 2))) 0 0 Bn Jn Is Js cur k wc acc (by omega) (by omega) (Nat.le_refl _) (fun r _ => TB r) T (fun _ _ => rfl) hg (Or.inl ⟨rfl, (itA_lt (by omega)).trans (by rw [T.2.1 5 (by decide)]; rfl)⟩) _ _ _ _ S Z (lv_sub hl [0, 1, 2, 3, 4, 5, 6, 7, 8] rfl)
    · exact absurd c11 (by decide)
set_option maxHeartbeats 4000000 in
set_option maxRecDepth 100000 in
theorem s_try1 {l : Launch} {G : fw_G} {A : Nat → Prop} {f0 : fw_F} {hc : Nat} {aC an ar as_ : Nat → Nat} {In : Nat → Nat} {Nn : Nat → Nat → Nat} {Bn : Nat → Nat → Bool} {Jn : Nat → Nat → Int64} {Ir : Nat → Nat} {Nr : Nat → Nat → Nat} {Br : Nat → Nat → Bool} {Jr : Nat → Nat → Int64} {Is : Nat → Nat} {Ns : Nat → Nat → Nat} {Bs : Nat → Nat → Bool} {Js : Nat → Nat → Int64} {Ic : Nat → Nat} {Nc : Nat → Nat → Nat} {kn : Nat} {K : Nat → kRT} {mn : Nat} {M : Nat → sNT} (Z : CL G f0 f0 hc aC an ar as_ In Nn Bn Jn Ir Nr Br Jr Is Ns Bs Js Ic Nc kn K mn M) {B0 : Nat → Nat → Bool} {J0 : Nat → Nat → Int64} {I0 : Nat → Nat} {S0 : Nat → Nat → Int64} (cur : Nat → Int64) (k wc : Nat) (acc : Nat → Nat → Int64) (C0 : tvC (Nn 1) B0 S0 (Ns 0) (I0 1) K kn) (han : 1 ≤ I0 1) (TB : ∀ r, Bn 2 r = knL (B0 2) (Ns 0) 1 r) (T : tvR B0 J0 I0 S0 (Ns 0) 1 cur k wc acc Bn Jn Is Js) (hg : gdC K kn (Nn 1) (B0 2) (J0 3) (Ns 0) (I0 1) 1 cur = true) (hL : ∀ i, Nn 1 i < 64) (hF : ∀ i, Ns 0 i < 64)  : Met l yX3_tryLevel wsX3_tryLevel ({ frames := 10, cells := 0, slots := 0, locals := 271 }) (va_Pc [.ref (aC 3), .int (nI 1), .ref (aC 0), .ref (aC 2)] (fw_P G A f0)) (va_Qi (fun (r : Int32) (f1 : fw_F) => tyP (Nn 1) B0 J0 I0 S0 (Ns 0) K kn 1 cur k wc acc r (fun Bq Jq Iq Sq => CL G f0 f1 hc aC an ar as_ In Nn Bq Jq Ir Nr Br Jr Iq Ns Bs Sq Ic Nc kn K mn M)) (fw_B G A) A) 0 0 A := by
  refine q_head rfl (by decide) (Nat.le_of_ble_eq_true rfl) ?_
  intro p e s m below meth c ls C hr hlk hnm P hl
  have S := P.start
  have hl : lv_has ls 11 [(0, .ref (aC 3)), (1, .int (nI 1)), (2, .ref (aC 0)), (3, .ref (aC 2))] := hl
  have h8 := C0.2.1
  have hI1 : Is 1 = I0 1 := T.2.2.2.2.1 1 (by decide) (by decide)
  have hwc : Is 2 = wc := T.2.2.2.2.2.1
  have hw2 := T.2.2.2.2.2.2.2.1
  have h3k := T.2.2.2.2.2.2.1
  refine lv_iload_n C.1 C.2.1 dX3_tryLevel_0 rfl (lv_at hl 1 rfl) ?_
  refine lv_aload_n C.1 C.2.1 dX3_tryLevel_1 rfl (lv_at hl 0 rfl) ?_
  refine o_get (v := .int (nI (Is 1))) C S Z.2.2.2.2.1 rfl inX3_tryLevel_X3 1 (Nat.le_of_ble_eq_true rfl) lkX3_tryLevel_22 rfl dX3_tryLevel_2 ?_
  refine q_ge (tgt := 14) C (by decide) (by omega) dX3_tryLevel_5 (by decide) (fun c5 => ?_) (fun c5 => ?_)
  · refine lv_aload_n C.1 C.2.1 dX3_tryLevel_14 rfl (lv_at hl 0 rfl) ?_
    refine lv_aload_n C.1 C.2.1 dX3_tryLevel_15 rfl (lv_at hl 2 rfl) ?_
    refine q_callQi (As := [.ref (aC 0)]) (rest := []) C S hl Z.2.2.2.2.1.1 rfl (c_addWay Z.2.2.2.2.1 Z.2.2.1 (by decide) (by omega) (by omega) hF hL) (cwV 1 C.2.2.2.2 gX3_tryLevel_X3_addWay rfl rfl rfl (by decide +kernel) ⟨Nat.le_of_ble_eq_true rfl, Nat.le_of_ble_eq_true rfl⟩) rfl rfl (Nat.le_of_ble_eq_true rfl) ⟨Nat.le_of_ble_eq_true rfl, Nat.le_of_ble_eq_true rfl⟩ dX3_tryLevel_16 (fun v f H locs hv S => ?_)
    obtain ⟨hv, F1⟩ := hv
    rcases hv with ⟨h1, rfl, O1⟩ | ⟨h1, rfl, O1⟩
    · have Z := CL_s Z F1 O1
      exact q_retQi C S hr hlk ⟨_, _, _, _, cur, k, wc + 1, va_up acc wc cur, Z, TB, tv_way (fun j hj => (C0.2.2.1 j hj).1) h8 (by omega) (by omega) T, fun _ _ => rfl, Nat.le_refl _, Or.inl ⟨rfl, itA_way (by omega) (by omega)⟩⟩ dX3_tryLevel_19
    · have Z := CL_s Z F1 O1
      exact q_retQi C S hr hlk ⟨_, _, _, _, cur, k, wc, acc, Z, TB, T, fun _ _ => rfl, Nat.le_refl _, Or.inr ⟨Or.inr rfl, itA_full (by omega) (by omega)⟩⟩ dX3_tryLevel_19
  · refine lv_iload_n C.1 C.2.1 dX3_tryLevel_8 rfl (lv_at hl 1 rfl) ?_
    refine lv_bipush (v := nI 8) C.1 C.2.1 dX3_tryLevel_9 (by decide) ?_
    refine q_lt (tgt := 20) C (by decide) (by decide) dX3_tryLevel_11 (by decide) (fun c11 => ?_) (fun c11 => ?_)
    · refine lv_aload_n C.1 C.2.1 dX3_tryLevel_20 rfl (lv_at hl 0 rfl) ?_
      refine o_get (v := .ref (as_ 0)) C S Z.2.2.2.2.1 rfl inX3_tryLevel_X3 0 (Nat.le_of_ble_eq_true rfl) lkX3_tryLevel_9 rfl dX3_tryLevel_21 ?_
      refine lv_iload_n C.1 C.2.1 dX3_tryLevel_24 rfl (lv_at hl 1 rfl) ?_
      refine o_nald (x := (Ns 0) 1) C S Z.2.2.2.2.1 0 (Nat.le_of_ble_eq_true rfl) rfl 1 rfl (show 1 < 32 from by first | omega | exact hL _ | exact hP _ | exact hF _) (Nat.le_of_ble_eq_true rfl) rfl dX3_tryLevel_25 ?_
      refine lv_istore (lv' := [(4, .int (nI ((Ns 0) 1))), (0, .ref (aC 3)), (1, .int (nI 1)), (2, .ref (aC 0)), (3, .ref (aC 2))]) C.1 C.2.1 dX3_tryLevel_26 hl (by decide) rfl (fun ls hl => ?_)
      refine lv_aload_n C.1 C.2.1 dX3_tryLevel_28 rfl (lv_at hl 3 rfl) ?_
      refine lv_iload C.1 C.2.1 dX3_tryLevel_29 (lv_at hl 0 rfl) ?_
      refine q_callSl (As := [.int (nI ((Ns 0) 1))]) (rest := []) C S hl Z.2.2.1.1 rfl (c_lowOf Z.2.2.1 ((Ns 0) 1) (by first | omega | exact hL _ | exact hP _ | exact hF _) hL) (cwV 1 C.2.2.2.2 gX3_tryLevel_X1_lowOf rfl rfl rfl (by decide +kernel) ⟨Nat.le_of_ble_eq_true rfl, Nat.le_of_ble_eq_true rfl⟩) rfl rfl (Nat.le_of_ble_eq_true rfl) ⟨Nat.le_of_ble_eq_true rfl, Nat.le_of_ble_eq_true rfl⟩ dX3_tryLevel_31 (fun v hv => ?_)
      subst hv
      refine lv_lstore (lv' := [(5, .long ((Jn 5) ((Nn 1) ((Ns 0) 1)))), (4, .int (nI ((Ns 0) 1))), (0, .ref (aC 3)), (1, .int (nI 1)), (2, .ref (aC 0)), (3, .ref (aC 2))]) C.1 C.2.1 dX3_tryLevel_34 hl (by decide) rfl (fun ls hl => ?_)
      refine lv_aload_n C.1 C.2.1 dX3_tryLevel_36 rfl (lv_at hl 4 rfl) ?_
      refine lv_iload C.1 C.2.1 dX3_tryLevel_37 (lv_at hl 1 rfl) ?_
      refine q_callSl (As := [.int (nI ((Ns 0) 1))]) (rest := []) C S hl Z.2.2.1.1 rfl (c_highOf Z.2.2.1 ((Ns 0) 1) (by first | omega | exact hL _ | exact hP _ | exact hF _) hL) (cwV 1 C.2.2.2.2 gX3_tryLevel_X1_highOf rfl rfl rfl (by decide +kernel) ⟨Nat.le_of_ble_eq_true rfl, Nat.le_of_ble_eq_true rfl⟩) rfl rfl (Nat.le_of_ble_eq_true rfl) ⟨Nat.le_of_ble_eq_true rfl, Nat.le_of_ble_eq_true rfl⟩ dX3_tryLevel_39 (fun v hv => ?_)
      subst hv
      refine lv_lstore (lv' := [(7, .long ((Jn 6) ((Nn 1) ((Ns 0) 1)))), (5, .long ((Jn 5) ((Nn 1) ((Ns 0) 1)))), (4, .int (nI ((Ns 0) 1))), (0, .ref (aC 3)), (1, .int (nI 1)), (2, .ref (aC 0)), (3, .ref (aC 2))]) C.1 C.2.1 dX3_tryLevel_42 hl (by decide) rfl (fun ls hl => ?_)
      refine lv_iconst (v := 0) C.1 C.2.1 dX3_tryLevel_44 (by decide) ?_
      refine lv_istore (lv' := [(9, .int 0), (7, .long ((Jn 6) ((Nn 1) ((Ns 0) 1)))), (5, .long ((Jn 5) ((Nn 1) ((Ns 0) 1)))), (4, .int (nI ((Ns 0) 1))), (0, .ref (aC 3)), (1, .int (nI 1)), (2, .ref (aC 0)), (3, .ref (aC 2))]) C.1 C.2.1 dX3_tryLevel_45 hl (by decide) rfl (fun ls hl => ?_)
      refine lv_iconst (v := nI 0) C.1 C.2.1 dX3_tryLevel_47 (by decide) ?_
      refine lv_istore (lv' := [(10, .int (nI 0)), (9, .int 0), (7, .long ((Jn 6) ((Nn 1) ((Ns 0) 1)))), (5, .long ((Jn 5) ((Nn 1) ((Ns 0) 1)))), (4, .int (nI ((Ns 0) 1))), (0, .ref (aC 3)), (1, .int (nI 1)), (2, .ref (aC 0)), (3, .ref (aC 2))]) C.1 C.2.1 dX3_tryLevel_48 hl (by decide) rfl (fun ls hl => ?_)
      have lp50 : ∀ (n50 : Nat) (uv : Int64) (z : Nat) (sp : Int32) (B3 : Nat → Nat → Bool) (J3 : Nat → Nat → Int64) (I3 : Nat → Nat) (S3 : Nat → Nat → Int64) (cu : Nat → Int64) (kk : Nat) (wq : Nat) (ac : Nat → Nat → Int64), kk < n50 → (z + kk ≤ 5000) → (kk ≤ k) → (∀ r, r ≠ Ns 0 1 → B3 2 r = knL (B0 2) (Ns 0) 1 r) → (tvR B0 J0 I0 S0 (Ns 0) 1 cu kk wq ac B3 J3 I3 S3) → (∀ j, j < 1 → cu j = cur j) → (gdC K kn (Nn 1) (B0 2) (J0 3) (Ns 0) (I0 1) 1 cu = true) → ((sp = 0 ∧ tyR (Nn 1) B0 J0 (Ns 0) (I0 1) K kn k 1 cur wc acc = tyT (Nn 1) B0 J0 (Ns 0) (I0 1) K kn kk 1 (va_up cu 1 uv) wq ac) ∨ ((sp = -3 ∨ sp = -4) ∧ tyR (Nn 1) B0 J0 (Ns 0) (I0 1) K kn k 1 cur wc acc = (sp, 5000 - kk, ac))) → ∀ (f : fw_F) (H : Heap) (locs : List Loc) (ls : Array Slot), fw_S G A s f H locs → CL G f0 f hc aC an ar as_ In Nn B3 J3 Ir Nr Br Jr I3 Ns Bs S3 Ic Nc kn K mn M → lv_has ls 11 [(10, .int (nI z)), (9, .int sp), (7, .long ((Jn 6) ((Nn 1) ((Ns 0) 1)))), (5, .long uv), (4, .int (nI ((Ns 0) 1))), (0, .ref (aC 3)), (1, .int (nI 1)), (2, .ref (aC 0)), (3, .ref (aC 2))] → W p l e ({ frames := 10, cells := 0, slots := 0, locals := 271 }) s m [.ref (aC 3), .int (nI 1), .ref (aC 0), .ref (aC 2)].toArray below meth c H locs 0 0 (MQ below (va_Qi (fun (r : Int32) (f1 : fw_F) => tyP (Nn 1) B0 J0 I0 S0 (Ns 0) K kn 1 cur k wc acc r (fun Bq Jq Iq Sq => CL G f0 f1 hc aC an ar as_ In Nn Bq Jq Ir Nr Br Jr Iq Ns Bs Sq Ic Nc kn K mn M)) (fw_B G A) A) [.ref (aC 3), .int (nI 1), .ref (aC 0), .ref (aC 2)].toArray s 0 0 A) (F0 m 50 ls []) := by
        intro n50
        induction n50 with
        | zero => intro uv z sp B3 J3 I3 S3 cu kk wq ac hme50; exact absurd hme50 (Nat.not_lt_zero _)
        | succ n50 ih50 =>
          intro uv z sp B3 J3 I3 S3 cu kk wq ac hme50 hzk hkk TB3 T3 hcu hg3 hsp f H locs ls S Z hl
          refine lv_iload C.1 C.2.1 dX3_tryLevel_50 (lv_at hl 0 rfl) ?_
          refine lv_sipush (v := nI 5000) C.1 C.2.1 dX3_tryLevel_52 (by decide) ?_
          refine q_gt (tgt := 142) C (by omega) (by decide) dX3_tryLevel_55 (by decide) (fun c55 => ?_) (fun c55 => ?_)
          · exact absurd c55 (by omega)
          · refine lv_iload C.1 C.2.1 dX3_tryLevel_58 (lv_at hl 1 rfl) ?_
            refine lv_if_ne (tgt := 142) C.1 C.2.1 dX3_tryLevel_60 (by decide) (fun c60 => ?_) (fun c60 => ?_)
            · refine lv_aload_n C.1 C.2.1 dX3_tryLevel_142 rfl (lv_at hl 7 rfl) ?_
              refine lv_iload C.1 C.2.1 dX3_tryLevel_143 (lv_at hl 4 rfl) ?_
              refine q_callQv (As := [.int (nI ((Ns 0) 1))]) (rest := []) C S hl Z.2.2.1.1 rfl (c_unsetNumber Z.2.2.1 ((Ns 0) 1) (by first | omega | exact hL _ | exact hP _ | exact hF _) hL) (cwV 1 C.2.2.2.2 gX3_tryLevel_X1_unsetNumber rfl rfl rfl (by decide +kernel) ⟨Nat.le_of_ble_eq_true rfl, Nat.le_of_ble_eq_true rfl⟩) rfl rfl (Nat.le_of_ble_eq_true rfl) ⟨Nat.le_of_ble_eq_true rfl, Nat.le_of_ble_eq_true rfl⟩ dX3_tryLevel_145 (fun f H locs hv S => ?_)
              obtain ⟨O1, F1⟩ := hv
              have Z := CL_n Z F1 O1
              refine lv_iload C.1 C.2.1 dX3_tryLevel_148 (lv_at hl 1 rfl) ?_
              exact q_retQi C S hr hlk ⟨_, _, _, _, cu, kk, wq, ac, Z, tb_unset C0 (by omega) TB3, tv_unset T3 _, hcu, hkk, Or.inr (hsp.resolve_left (fun q => c60 q.1))⟩ dX3_tryLevel_150
            · obtain rfl : sp = 0 := by first | exact c60 | exact Decidable.not_not.mp c60
              have hres := hsp.resolve_right (fun q => by rcases q.1 with q | q <;> exact absurd q (by decide))
              have h37 := T3.2.2.2.2.2.2.1
              refine lv_aload_n C.1 C.2.1 dX3_tryLevel_63 rfl (lv_at hl 5 rfl) ?_
              refine o_get (v := .int (nI (I3 3))) C S Z.2.2.2.2.1 rfl inX3_tryLevel_X3 3 (Nat.le_of_ble_eq_true rfl) lkX3_tryLevel_36 rfl dX3_tryLevel_64 ?_
              refine lv_sipush (v := nI 5000) C.1 C.2.1 dX3_tryLevel_67 (by decide) ?_
              refine q_lt (tgt := 80) C (by omega) (by decide) dX3_tryLevel_70 (by decide) (fun c70 => ?_) (fun c70 => ?_)
              · obtain ⟨k1, rfl⟩ : ∃ k1, kk = k1 + 1 := ⟨kk - 1, by omega⟩
                refine lv_aload_n C.1 C.2.1 dX3_tryLevel_80 rfl (lv_at hl 5 rfl) ?_
                refine lv_dup C.1 C.2.1 dX3_tryLevel_81 rfl ?_
                refine o_get (v := .int (nI (I3 3))) C S Z.2.2.2.2.1 rfl inX3_tryLevel_X3 3 (Nat.le_of_ble_eq_true rfl) lkX3_tryLevel_36 rfl dX3_tryLevel_82 ?_
                refine lv_iconst (v := nI 1) C.1 C.2.1 dX3_tryLevel_85 (by decide) ?_
                refine q_iadd C dX3_tryLevel_86 ?_
                refine o_puti C S Z.2.2.2.2.1 (fw_fr_rf _ 3300 (3300 + 7)) rfl inX3_tryLevel_X3 tyX3 tyX3_ok nmX3 3 (Nat.le_of_ble_eq_true rfl) rfl lkX3_tryLevel_36 rfl rfl ⟨by decide, by decide⟩ dX3_tryLevel_87 (fun f H locs S O1 F1 => ?_)
                have Z := CL_s Z F1 O1
                refine lv_aload_n C.1 C.2.1 dX3_tryLevel_90 rfl (lv_at hl 7 rfl) ?_
                refine lv_iload C.1 C.2.1 dX3_tryLevel_91 (lv_at hl 4 rfl) ?_
                refine lv_lload C.1 C.2.1 dX3_tryLevel_93 (lv_at hl 3 rfl) ?_
                refine q_callQv (As := [.int (nI ((Ns 0) 1)), .long uv]) (rest := []) C S hl Z.2.2.1.1 rfl (c_setNumber Z.2.2.1 ((Ns 0) 1) (by first | omega | exact hL _ | exact hP _ | exact hF _) hL uv) (cwV 2 C.2.2.2.2 gX3_tryLevel_X1_setNumber rfl rfl rfl (by decide +kernel) ⟨Nat.le_of_ble_eq_true rfl, Nat.le_of_ble_eq_true rfl⟩) rfl rfl (Nat.le_of_ble_eq_true rfl) ⟨Nat.le_of_ble_eq_true rfl, Nat.le_of_ble_eq_true rfl⟩ dX3_tryLevel_95 (fun f H locs hv S => ?_)
                obtain ⟨O1, F1⟩ := hv
                have Z := CL_n Z F1 O1
                have T4 := tv_set C0 (by omega) T3 uv
                have TB4 := tb_set2 C0 (by omega) TB3
                have hlo4 : ∀ i, i < kn → (S3 5 i).toInt32 = mI (lkC (Nn 1) (B0 2) (Ns 0) (I0 1) (K i)) ∧ lkC (Nn 1) (B0 2) (Ns 0) (I0 1) (K i) < 64 := fun i hi => ⟨by rw [T3.2.2.2.2.2.2.2.2.1 5 (by decide)]; exact C0.2.2.2 i hi, by have := lkC_le (L := Nn 1) (B := B0 2) (fr := Ns 0) (c := I0 1) (k := K i); omega⟩
                refine lv_aload_n C.1 C.2.1 dX3_tryLevel_98 rfl (lv_at hl 5 rfl) ?_
                refine lv_iload_n C.1 C.2.1 dX3_tryLevel_99 rfl (lv_at hl 6 rfl) ?_
                refine lv_aload_n C.1 C.2.1 dX3_tryLevel_100 rfl (lv_at hl 7 rfl) ?_
                refine lv_aload_n C.1 C.2.1 dX3_tryLevel_101 rfl (lv_at hl 8 rfl) ?_
                refine q_callSi (As := [.int (nI 1), .ref (aC 0), .ref (aC 2)]) (rest := []) C S hl Z.2.2.2.2.1.1 rfl (s_isGood (CL_rf Z) 1 (by decide) (fun i => lkC (Nn 1) (B0 2) (Ns 0) (I0 1) (K i)) hlo4 hL) (cwV 3 C.2.2.2.2 gX3_tryLevel_X3_isGood rfl rfl rfl (by decide +kernel) ⟨Nat.le_of_ble_eq_true rfl, Nat.le_of_ble_eq_true rfl⟩) rfl rfl (Nat.le_of_ble_eq_true rfl) ⟨Nat.le_of_ble_eq_true rfl, Nat.le_of_ble_eq_true rfl⟩ dX3_tryLevel_102 (fun v hv => ?_)
                have hv : v = bI (gdC K kn (Nn 1) (B0 2) (J0 3) (Ns 0) (I0 1) 2 (va_up cu 1 uv)) := hv.trans (congrArg bI (gd_step C0 (by omega) hg3 T4))
                subst hv
                refine q_ifeqB (tgt := 119) C dX3_tryLevel_105 (by decide) (fun c105 => ?_) (fun c105 => ?_)
                · obtain ⟨cu2, k2, wq2, ac2, T5, TB5, hcu2, hk2, hs5⟩ : ∃ cu2 k2 wq2 ac2, tvR B0 J0 I0 S0 (Ns 0) 2 cu2 k2 wq2 ac2 (setB B3 ((Nn 1) ((Ns 0) 1))) (setJ J3 ((Nn 1) ((Ns 0) 1)) uv) (va_up I3 3 ((I3 3) + 1)) S3 ∧ (∀ r, (setB B3 ((Nn 1) ((Ns 0) 1))) 2 r = knL (B0 2) (Ns 0) 2 r) ∧ (∀ j, j < 2 → cu2 j = va_up cu 1 uv j) ∧ k2 ≤ k1 ∧ (((0 : Int32) = 0 ∧ tyR (Nn 1) B0 J0 (Ns 0) (I0 1) K kn k 1 cur wc acc = tyB (Nn 1) B0 J0 (Ns 0) (I0 1) K kn k2 2 cu2 wq2 ac2) ∨ (((0 : Int32) = -3 ∨ (0 : Int32) = -4) ∧ tyR (Nn 1) B0 J0 (Ns 0) (I0 1) K kn k 1 cur wc acc = ((0 : Int32), 5000 - k2, ac2))) := ⟨va_up cu 1 uv, k1, wq, ac, T4, TB4, fun _ _ => rfl, Nat.le_refl _, Or.inl ⟨rfl, hres.2.trans (it_bad c105)⟩⟩
                  have hcu3 : ∀ j, j < 1 → cu2 j = cur j := fun j hj => (hcu2 j (by omega)).trans ((up_n (by omega)).trans (hcu j hj))
                  have e5 : cu2 1 = uv := (hcu2 1 (by omega)).trans (up_s _ _ _)
                  refine lv_lload C.1 C.2.1 dX3_tryLevel_119 (lv_at hl 3 rfl) ?_
                  refine lv_lload C.1 C.2.1 dX3_tryLevel_121 (lv_at hl 2 rfl) ?_
                  refine q_lcmp_ne (tgt := 130) C dX3_tryLevel_123 dX3_tryLevel_124 (by decide) (fun c123 => ?_) (fun c123 => ?_)
                  · refine lv_lload C.1 C.2.1 dX3_tryLevel_130 (lv_at hl 3 rfl) ?_
                    refine lv_lconst (v := 1) C.1 C.2.1 dX3_tryLevel_132 (by decide) ?_
                    refine lv_ladd C.1 C.2.1 dX3_tryLevel_133 ?_
                    refine lv_lstore (lv' := [(5, .long (uv + 1)), (10, .int (nI z)), (9, .int 0), (7, .long ((Jn 6) ((Nn 1) ((Ns 0) 1)))), (4, .int (nI ((Ns 0) 1))), (0, .ref (aC 3)), (1, .int (nI 1)), (2, .ref (aC 0)), (3, .ref (aC 2))]) C.1 C.2.1 dX3_tryLevel_134 hl (by decide) rfl (fun ls hl => ?_)
                    refine q_iinc (d := 1) (lv' := [(10, .int (nI (z + 1))), (5, .long (uv + 1)), (9, .int 0), (7, .long ((Jn 6) ((Nn 1) ((Ns 0) 1)))), (4, .int (nI ((Ns 0) 1))), (0, .ref (aC 3)), (1, .int (nI 1)), (2, .ref (aC 0)), (3, .ref (aC 2))]) C dX3_tryLevel_136 hl (k := 1) rfl (by decide) (by decide) rfl (fun ls hl => ?_)
                    refine lv_goto (tgt := 50) C.1 C.2.1 dX3_tryLevel_139 (by decide) ?_
                    exact ih50 (uv + 1) (z + 1) 0 (setB B3 ((Nn 1) ((Ns 0) 1))) (setJ J3 ((Nn 1) ((Ns 0) 1)) uv) (va_up I3 3 ((I3 3) + 1)) S3 cu2 k2 wq2 ac2 (by omega) (by omega) (by omega) (tb_dn C0 (by omega) TB5) (tv_down T5) hcu3 (by rw [gdC_cur C0.1 (by omega) (fun j hj => (hcu3 j hj).trans (hcu j hj).symm)]; exact hg3) (hs5.imp (fun q => ⟨q.1, q.2.trans (tv_ne e5 (fun q => c123 (q.trans (congrFun (T.2.1 6 (by decide)).symm _))))⟩) id) _ _ _ _ S Z (lv_sub hl [0, 2, 3, 1, 4, 5, 6, 7, 8] rfl)
                  · refine lv_goto (tgt := 142) C.1 C.2.1 dX3_tryLevel_127 (by decide) ?_
                    refine lv_aload_n C.1 C.2.1 dX3_tryLevel_142 rfl (lv_at hl 7 rfl) ?_
                    refine lv_iload C.1 C.2.1 dX3_tryLevel_143 (lv_at hl 4 rfl) ?_
                    refine q_callQv (As := [.int (nI ((Ns 0) 1))]) (rest := []) C S hl Z.2.2.1.1 rfl (c_unsetNumber Z.2.2.1 ((Ns 0) 1) (by first | omega | exact hL _ | exact hP _ | exact hF _) hL) (cwV 1 C.2.2.2.2 gX3_tryLevel_X1_unsetNumber rfl rfl rfl (by decide +kernel) ⟨Nat.le_of_ble_eq_true rfl, Nat.le_of_ble_eq_true rfl⟩) rfl rfl (Nat.le_of_ble_eq_true rfl) ⟨Nat.le_of_ble_eq_true rfl, Nat.le_of_ble_eq_true rfl⟩ dX3_tryLevel_145 (fun f H locs hv S => ?_)
                    obtain ⟨O1, F1⟩ := hv
                    have Z := CL_n Z F1 O1
                    refine lv_iload C.1 C.2.1 dX3_tryLevel_148 (lv_at hl 1 rfl) ?_
                    exact q_retQi C S hr hlk ⟨_, _, _, _, cu2, k2, wq2, ac2, Z, tb_unset C0 (by omega) (tb_dn C0 (by omega) TB5), tv_unset (tv_down T5) _, hcu3, by omega, hs5.imp (fun q => ⟨q.1, q.2.trans (tv_eq e5 (c123.trans (congrFun (T.2.1 6 (by decide)) _)))⟩) id⟩ dX3_tryLevel_150
                · refine lv_aload_n C.1 C.2.1 dX3_tryLevel_108 rfl (lv_at hl 5 rfl) ?_
                  refine lv_iload_n C.1 C.2.1 dX3_tryLevel_109 rfl (lv_at hl 6 rfl) ?_
                  refine lv_iconst (v := nI 1) C.1 C.2.1 dX3_tryLevel_110 (by decide) ?_
                  refine q_iadd C dX3_tryLevel_111 ?_
                  refine lv_aload_n C.1 C.2.1 dX3_tryLevel_112 rfl (lv_at hl 7 rfl) ?_
                  refine lv_aload_n C.1 C.2.1 dX3_tryLevel_113 rfl (lv_at hl 8 rfl) ?_
                  refine q_callQi (As := [.int (nI 2), .ref (aC 0), .ref (aC 2)]) (rest := []) C S hl Z.2.2.2.2.1.1 rfl (s_try2 (CL_rf Z) (va_up cu 1 uv) k1 wq ac C0 (by omega) TB4 T4 c105 hL hF) (cwV 3 C.2.2.2.2 gX3_tryLevel_X3_tryLevel rfl rfl rfl (by decide +kernel) ⟨Nat.le_of_ble_eq_true rfl, Nat.le_of_ble_eq_true rfl⟩) rfl rfl (Nat.le_of_ble_eq_true rfl) ⟨Nat.le_of_ble_eq_true rfl, Nat.le_of_ble_eq_true rfl⟩ dX3_tryLevel_114 (fun v f H locs hv S => ?_)
                  obtain ⟨B5, J5, I5, S5, cu2, k2, wq2, ac2, Z1, TB5, T5, hcu2, hk2, hs5⟩ := hv
                  have Z := CL_tr Z Z1
                  have hs5 : (v = 0 ∧ tyR (Nn 1) B0 J0 (Ns 0) (I0 1) K kn k 1 cur wc acc = tyB (Nn 1) B0 J0 (Ns 0) (I0 1) K kn k2 2 cu2 wq2 ac2) ∨ ((v = -3 ∨ v = -4) ∧ tyR (Nn 1) B0 J0 (Ns 0) (I0 1) K kn k 1 cur wc acc = (v, 5000 - k2, ac2)) := hs5.imp (fun q => ⟨q.1, hres.2.trans ((it_good c105).trans q.2)⟩) (fun q => ⟨q.1, hres.2.trans ((it_good c105).trans q.2)⟩)
                  refine lv_istore (lv' := [(9, .int v), (10, .int (nI z)), (7, .long ((Jn 6) ((Nn 1) ((Ns 0) 1)))), (5, .long uv), (4, .int (nI ((Ns 0) 1))), (0, .ref (aC 3)), (1, .int (nI 1)), (2, .ref (aC 0)), (3, .ref (aC 2))]) C.1 C.2.1 dX3_tryLevel_117 hl (by decide) rfl (fun ls hl => ?_)
                  have hcu3 : ∀ j, j < 1 → cu2 j = cur j := fun j hj => (hcu2 j (by omega)).trans ((up_n (by omega)).trans (hcu j hj))
                  have e5 : cu2 1 = uv := (hcu2 1 (by omega)).trans (up_s _ _ _)
                  refine lv_lload C.1 C.2.1 dX3_tryLevel_119 (lv_at hl 3 rfl) ?_
                  refine lv_lload C.1 C.2.1 dX3_tryLevel_121 (lv_at hl 2 rfl) ?_
                  refine q_lcmp_ne (tgt := 130) C dX3_tryLevel_123 dX3_tryLevel_124 (by decide) (fun c123 => ?_) (fun c123 => ?_)
                  · refine lv_lload C.1 C.2.1 dX3_tryLevel_130 (lv_at hl 3 rfl) ?_
                    refine lv_lconst (v := 1) C.1 C.2.1 dX3_tryLevel_132 (by decide) ?_
                    refine lv_ladd C.1 C.2.1 dX3_tryLevel_133 ?_
                    refine lv_lstore (lv' := [(5, .long (uv + 1)), (9, .int v), (10, .int (nI z)), (7, .long ((Jn 6) ((Nn 1) ((Ns 0) 1)))), (4, .int (nI ((Ns 0) 1))), (0, .ref (aC 3)), (1, .int (nI 1)), (2, .ref (aC 0)), (3, .ref (aC 2))]) C.1 C.2.1 dX3_tryLevel_134 hl (by decide) rfl (fun ls hl => ?_)
                    refine q_iinc (d := 1) (lv' := [(10, .int (nI (z + 1))), (5, .long (uv + 1)), (9, .int v), (7, .long ((Jn 6) ((Nn 1) ((Ns 0) 1)))), (4, .int (nI ((Ns 0) 1))), (0, .ref (aC 3)), (1, .int (nI 1)), (2, .ref (aC 0)), (3, .ref (aC 2))]) C dX3_tryLevel_136 hl (k := 2) rfl (by decide) (by decide) rfl (fun ls hl => ?_)
                    refine lv_goto (tgt := 50) C.1 C.2.1 dX3_tryLevel_139 (by decide) ?_
                    exact ih50 (uv + 1) (z + 1) v B5 J5 I5 S5 cu2 k2 wq2 ac2 (by omega) (by omega) (by omega) (tb_dn C0 (by omega) TB5) (tv_down T5) hcu3 (by rw [gdC_cur C0.1 (by omega) (fun j hj => (hcu3 j hj).trans (hcu j hj).symm)]; exact hg3) (hs5.imp (fun q => ⟨q.1, q.2.trans (tv_ne e5 (fun q => c123 (q.trans (congrFun (T.2.1 6 (by decide)).symm _))))⟩) id) _ _ _ _ S Z (lv_sub hl [0, 2, 3, 1, 4, 5, 6, 7, 8] rfl)
                  · refine lv_goto (tgt := 142) C.1 C.2.1 dX3_tryLevel_127 (by decide) ?_
                    refine lv_aload_n C.1 C.2.1 dX3_tryLevel_142 rfl (lv_at hl 7 rfl) ?_
                    refine lv_iload C.1 C.2.1 dX3_tryLevel_143 (lv_at hl 4 rfl) ?_
                    refine q_callQv (As := [.int (nI ((Ns 0) 1))]) (rest := []) C S hl Z.2.2.1.1 rfl (c_unsetNumber Z.2.2.1 ((Ns 0) 1) (by first | omega | exact hL _ | exact hP _ | exact hF _) hL) (cwV 1 C.2.2.2.2 gX3_tryLevel_X1_unsetNumber rfl rfl rfl (by decide +kernel) ⟨Nat.le_of_ble_eq_true rfl, Nat.le_of_ble_eq_true rfl⟩) rfl rfl (Nat.le_of_ble_eq_true rfl) ⟨Nat.le_of_ble_eq_true rfl, Nat.le_of_ble_eq_true rfl⟩ dX3_tryLevel_145 (fun f H locs hv S => ?_)
                    obtain ⟨O1, F1⟩ := hv
                    have Z := CL_n Z F1 O1
                    refine lv_iload C.1 C.2.1 dX3_tryLevel_148 (lv_at hl 0 rfl) ?_
                    exact q_retQi C S hr hlk ⟨_, _, _, _, cu2, k2, wq2, ac2, Z, tb_unset C0 (by omega) (tb_dn C0 (by omega) TB5), tv_unset (tv_down T5) _, hcu3, by omega, hs5.imp (fun q => ⟨q.1, q.2.trans (tv_eq e5 (c123.trans (congrFun (T.2.1 6 (by decide)) _)))⟩) id⟩ dX3_tryLevel_150
              · obtain rfl : kk = 0 := by omega
                refine lv_bipush (v := (-3)) C.1 C.2.1 dX3_tryLevel_73 (by decide) ?_
                refine lv_istore (lv' := [(9, .int (-3)), (10, .int (nI z)), (7, .long ((Jn 6) ((Nn 1) ((Ns 0) 1)))), (5, .long uv), (4, .int (nI ((Ns 0) 1))), (0, .ref (aC 3)), (1, .int (nI 1)), (2, .ref (aC 0)), (3, .ref (aC 2))]) C.1 C.2.1 dX3_tryLevel_75 hl (by decide) rfl (fun ls hl => ?_)
                refine lv_goto (tgt := 142) C.1 C.2.1 dX3_tryLevel_77 (by decide) ?_
                refine lv_aload_n C.1 C.2.1 dX3_tryLevel_142 rfl (lv_at hl 7 rfl) ?_
                refine lv_iload C.1 C.2.1 dX3_tryLevel_143 (lv_at hl 4 rfl) ?_
                refine q_callQv (As := [.int (nI ((Ns 0) 1))]) (rest := []) C S hl Z.2.2.1.1 rfl (c_unsetNumber Z.2.2.1 ((Ns 0) 1) (by first | omega | exact hL _ | exact hP _ | exact hF _) hL) (cwV 1 C.2.2.2.2 gX3_tryLevel_X1_unsetNumber rfl rfl rfl (by decide +kernel) ⟨Nat.le_of_ble_eq_true rfl, Nat.le_of_ble_eq_true rfl⟩) rfl rfl (Nat.le_of_ble_eq_true rfl) ⟨Nat.le_of_ble_eq_true rfl, Nat.le_of_ble_eq_true rfl⟩ dX3_tryLevel_145 (fun f H locs hv S => ?_)
                obtain ⟨O1, F1⟩ := hv
                have Z := CL_n Z F1 O1
                refine lv_iload C.1 C.2.1 dX3_tryLevel_148 (lv_at hl 0 rfl) ?_
                exact q_retQi C S hr hlk ⟨_, _, _, _, cu, 0, wq, ac, Z, tb_unset C0 (by omega) TB3, tv_unset T3 _, hcu, Nat.zero_le _, Or.inr ⟨Or.inl rfl, hres.2.trans it_0⟩⟩ dX3_tryLevel_150
      exact lp50 (k + 1) ((Jn 5) ((Nn 1) ((Ns 0) 1))) 0 0 Bn Jn Is Js cur k wc acc (by omega) (by omega) (Nat.le_refl _) (fun r _ => TB r) T (fun _ _ => rfl) hg (Or.inl ⟨rfl, (itA_lt (by omega)).trans (by rw [T.2.1 5 (by decide)]; rfl)⟩) _ _ _ _ S Z (lv_sub hl [0, 1, 2, 3, 4, 5, 6, 7, 8] rfl)
    · exact absurd c11 (by decide)
set_option maxHeartbeats 4000000 in
set_option maxRecDepth 100000 in
theorem s_try0 {l : Launch} {G : fw_G} {A : Nat → Prop} {f0 : fw_F} {hc : Nat} {aC an ar as_ : Nat → Nat} {In : Nat → Nat} {Nn : Nat → Nat → Nat} {Bn : Nat → Nat → Bool} {Jn : Nat → Nat → Int64} {Ir : Nat → Nat} {Nr : Nat → Nat → Nat} {Br : Nat → Nat → Bool} {Jr : Nat → Nat → Int64} {Is : Nat → Nat} {Ns : Nat → Nat → Nat} {Bs : Nat → Nat → Bool} {Js : Nat → Nat → Int64} {Ic : Nat → Nat} {Nc : Nat → Nat → Nat} {kn : Nat} {K : Nat → kRT} {mn : Nat} {M : Nat → sNT} (Z : CL G f0 f0 hc aC an ar as_ In Nn Bn Jn Ir Nr Br Jr Is Ns Bs Js Ic Nc kn K mn M) {B0 : Nat → Nat → Bool} {J0 : Nat → Nat → Int64} {I0 : Nat → Nat} {S0 : Nat → Nat → Int64} (cur : Nat → Int64) (k wc : Nat) (acc : Nat → Nat → Int64) (C0 : tvC (Nn 1) B0 S0 (Ns 0) (I0 1) K kn) (han : 0 ≤ I0 1) (TB : ∀ r, Bn 2 r = knL (B0 2) (Ns 0) 0 r) (T : tvR B0 J0 I0 S0 (Ns 0) 0 cur k wc acc Bn Jn Is Js) (hg : gdC K kn (Nn 1) (B0 2) (J0 3) (Ns 0) (I0 1) 0 cur = true) (hL : ∀ i, Nn 1 i < 64) (hF : ∀ i, Ns 0 i < 64)  : Met l yX3_tryLevel wsX3_tryLevel ({ frames := 11, cells := 0, slots := 0, locals := 301 }) (va_Pc [.ref (aC 3), .int (nI 0), .ref (aC 0), .ref (aC 2)] (fw_P G A f0)) (va_Qi (fun (r : Int32) (f1 : fw_F) => tyP (Nn 1) B0 J0 I0 S0 (Ns 0) K kn 0 cur k wc acc r (fun Bq Jq Iq Sq => CL G f0 f1 hc aC an ar as_ In Nn Bq Jq Ir Nr Br Jr Iq Ns Bs Sq Ic Nc kn K mn M)) (fw_B G A) A) 0 0 A := by
  refine q_head rfl (by decide) (Nat.le_of_ble_eq_true rfl) ?_
  intro p e s m below meth c ls C hr hlk hnm P hl
  have S := P.start
  have hl : lv_has ls 11 [(0, .ref (aC 3)), (1, .int (nI 0)), (2, .ref (aC 0)), (3, .ref (aC 2))] := hl
  have h8 := C0.2.1
  have hI1 : Is 1 = I0 1 := T.2.2.2.2.1 1 (by decide) (by decide)
  have hwc : Is 2 = wc := T.2.2.2.2.2.1
  have hw2 := T.2.2.2.2.2.2.2.1
  have h3k := T.2.2.2.2.2.2.1
  refine lv_iload_n C.1 C.2.1 dX3_tryLevel_0 rfl (lv_at hl 1 rfl) ?_
  refine lv_aload_n C.1 C.2.1 dX3_tryLevel_1 rfl (lv_at hl 0 rfl) ?_
  refine o_get (v := .int (nI (Is 1))) C S Z.2.2.2.2.1 rfl inX3_tryLevel_X3 1 (Nat.le_of_ble_eq_true rfl) lkX3_tryLevel_22 rfl dX3_tryLevel_2 ?_
  refine q_ge (tgt := 14) C (by decide) (by omega) dX3_tryLevel_5 (by decide) (fun c5 => ?_) (fun c5 => ?_)
  · refine lv_aload_n C.1 C.2.1 dX3_tryLevel_14 rfl (lv_at hl 0 rfl) ?_
    refine lv_aload_n C.1 C.2.1 dX3_tryLevel_15 rfl (lv_at hl 2 rfl) ?_
    refine q_callQi (As := [.ref (aC 0)]) (rest := []) C S hl Z.2.2.2.2.1.1 rfl (c_addWay Z.2.2.2.2.1 Z.2.2.1 (by decide) (by omega) (by omega) hF hL) (cwV 1 C.2.2.2.2 gX3_tryLevel_X3_addWay rfl rfl rfl (by decide +kernel) ⟨Nat.le_of_ble_eq_true rfl, Nat.le_of_ble_eq_true rfl⟩) rfl rfl (Nat.le_of_ble_eq_true rfl) ⟨Nat.le_of_ble_eq_true rfl, Nat.le_of_ble_eq_true rfl⟩ dX3_tryLevel_16 (fun v f H locs hv S => ?_)
    obtain ⟨hv, F1⟩ := hv
    rcases hv with ⟨h1, rfl, O1⟩ | ⟨h1, rfl, O1⟩
    · have Z := CL_s Z F1 O1
      exact q_retQi C S hr hlk ⟨_, _, _, _, cur, k, wc + 1, va_up acc wc cur, Z, TB, tv_way (fun j hj => (C0.2.2.1 j hj).1) h8 (by omega) (by omega) T, fun _ _ => rfl, Nat.le_refl _, Or.inl ⟨rfl, itA_way (by omega) (by omega)⟩⟩ dX3_tryLevel_19
    · have Z := CL_s Z F1 O1
      exact q_retQi C S hr hlk ⟨_, _, _, _, cur, k, wc, acc, Z, TB, T, fun _ _ => rfl, Nat.le_refl _, Or.inr ⟨Or.inr rfl, itA_full (by omega) (by omega)⟩⟩ dX3_tryLevel_19
  · refine lv_iload_n C.1 C.2.1 dX3_tryLevel_8 rfl (lv_at hl 1 rfl) ?_
    refine lv_bipush (v := nI 8) C.1 C.2.1 dX3_tryLevel_9 (by decide) ?_
    refine q_lt (tgt := 20) C (by decide) (by decide) dX3_tryLevel_11 (by decide) (fun c11 => ?_) (fun c11 => ?_)
    · refine lv_aload_n C.1 C.2.1 dX3_tryLevel_20 rfl (lv_at hl 0 rfl) ?_
      refine o_get (v := .ref (as_ 0)) C S Z.2.2.2.2.1 rfl inX3_tryLevel_X3 0 (Nat.le_of_ble_eq_true rfl) lkX3_tryLevel_9 rfl dX3_tryLevel_21 ?_
      refine lv_iload_n C.1 C.2.1 dX3_tryLevel_24 rfl (lv_at hl 1 rfl) ?_
      refine o_nald (x := (Ns 0) 0) C S Z.2.2.2.2.1 0 (Nat.le_of_ble_eq_true rfl) rfl 0 rfl (show 0 < 32 from by first | omega | exact hL _ | exact hP _ | exact hF _) (Nat.le_of_ble_eq_true rfl) rfl dX3_tryLevel_25 ?_
      refine lv_istore (lv' := [(4, .int (nI ((Ns 0) 0))), (0, .ref (aC 3)), (1, .int (nI 0)), (2, .ref (aC 0)), (3, .ref (aC 2))]) C.1 C.2.1 dX3_tryLevel_26 hl (by decide) rfl (fun ls hl => ?_)
      refine lv_aload_n C.1 C.2.1 dX3_tryLevel_28 rfl (lv_at hl 3 rfl) ?_
      refine lv_iload C.1 C.2.1 dX3_tryLevel_29 (lv_at hl 0 rfl) ?_
      refine q_callSl (As := [.int (nI ((Ns 0) 0))]) (rest := []) C S hl Z.2.2.1.1 rfl (c_lowOf Z.2.2.1 ((Ns 0) 0) (by first | omega | exact hL _ | exact hP _ | exact hF _) hL) (cwV 1 C.2.2.2.2 gX3_tryLevel_X1_lowOf rfl rfl rfl (by decide +kernel) ⟨Nat.le_of_ble_eq_true rfl, Nat.le_of_ble_eq_true rfl⟩) rfl rfl (Nat.le_of_ble_eq_true rfl) ⟨Nat.le_of_ble_eq_true rfl, Nat.le_of_ble_eq_true rfl⟩ dX3_tryLevel_31 (fun v hv => ?_)
      subst hv
      refine lv_lstore (lv' := [(5, .long ((Jn 5) ((Nn 1) ((Ns 0) 0)))), (4, .int (nI ((Ns 0) 0))), (0, .ref (aC 3)), (1, .int (nI 0)), (2, .ref (aC 0)), (3, .ref (aC 2))]) C.1 C.2.1 dX3_tryLevel_34 hl (by decide) rfl (fun ls hl => ?_)
      refine lv_aload_n C.1 C.2.1 dX3_tryLevel_36 rfl (lv_at hl 4 rfl) ?_
      refine lv_iload C.1 C.2.1 dX3_tryLevel_37 (lv_at hl 1 rfl) ?_
      refine q_callSl (As := [.int (nI ((Ns 0) 0))]) (rest := []) C S hl Z.2.2.1.1 rfl (c_highOf Z.2.2.1 ((Ns 0) 0) (by first | omega | exact hL _ | exact hP _ | exact hF _) hL) (cwV 1 C.2.2.2.2 gX3_tryLevel_X1_highOf rfl rfl rfl (by decide +kernel) ⟨Nat.le_of_ble_eq_true rfl, Nat.le_of_ble_eq_true rfl⟩) rfl rfl (Nat.le_of_ble_eq_true rfl) ⟨Nat.le_of_ble_eq_true rfl, Nat.le_of_ble_eq_true rfl⟩ dX3_tryLevel_39 (fun v hv => ?_)
      subst hv
      refine lv_lstore (lv' := [(7, .long ((Jn 6) ((Nn 1) ((Ns 0) 0)))), (5, .long ((Jn 5) ((Nn 1) ((Ns 0) 0)))), (4, .int (nI ((Ns 0) 0))), (0, .ref (aC 3)), (1, .int (nI 0)), (2, .ref (aC 0)), (3, .ref (aC 2))]) C.1 C.2.1 dX3_tryLevel_42 hl (by decide) rfl (fun ls hl => ?_)
      refine lv_iconst (v := 0) C.1 C.2.1 dX3_tryLevel_44 (by decide) ?_
      refine lv_istore (lv' := [(9, .int 0), (7, .long ((Jn 6) ((Nn 1) ((Ns 0) 0)))), (5, .long ((Jn 5) ((Nn 1) ((Ns 0) 0)))), (4, .int (nI ((Ns 0) 0))), (0, .ref (aC 3)), (1, .int (nI 0)), (2, .ref (aC 0)), (3, .ref (aC 2))]) C.1 C.2.1 dX3_tryLevel_45 hl (by decide) rfl (fun ls hl => ?_)
      refine lv_iconst (v := nI 0) C.1 C.2.1 dX3_tryLevel_47 (by decide) ?_
      refine lv_istore (lv' := [(10, .int (nI 0)), (9, .int 0), (7, .long ((Jn 6) ((Nn 1) ((Ns 0) 0)))), (5, .long ((Jn 5) ((Nn 1) ((Ns 0) 0)))), (4, .int (nI ((Ns 0) 0))), (0, .ref (aC 3)), (1, .int (nI 0)), (2, .ref (aC 0)), (3, .ref (aC 2))]) C.1 C.2.1 dX3_tryLevel_48 hl (by decide) rfl (fun ls hl => ?_)
      have lp50 : ∀ (n50 : Nat) (uv : Int64) (z : Nat) (sp : Int32) (B3 : Nat → Nat → Bool) (J3 : Nat → Nat → Int64) (I3 : Nat → Nat) (S3 : Nat → Nat → Int64) (cu : Nat → Int64) (kk : Nat) (wq : Nat) (ac : Nat → Nat → Int64), kk < n50 → (z + kk ≤ 5000) → (kk ≤ k) → (∀ r, r ≠ Ns 0 0 → B3 2 r = knL (B0 2) (Ns 0) 0 r) → (tvR B0 J0 I0 S0 (Ns 0) 0 cu kk wq ac B3 J3 I3 S3) → (∀ j, j < 0 → cu j = cur j) → (gdC K kn (Nn 1) (B0 2) (J0 3) (Ns 0) (I0 1) 0 cu = true) → ((sp = 0 ∧ tyR (Nn 1) B0 J0 (Ns 0) (I0 1) K kn k 0 cur wc acc = tyT (Nn 1) B0 J0 (Ns 0) (I0 1) K kn kk 0 (va_up cu 0 uv) wq ac) ∨ ((sp = -3 ∨ sp = -4) ∧ tyR (Nn 1) B0 J0 (Ns 0) (I0 1) K kn k 0 cur wc acc = (sp, 5000 - kk, ac))) → ∀ (f : fw_F) (H : Heap) (locs : List Loc) (ls : Array Slot), fw_S G A s f H locs → CL G f0 f hc aC an ar as_ In Nn B3 J3 Ir Nr Br Jr I3 Ns Bs S3 Ic Nc kn K mn M → lv_has ls 11 [(10, .int (nI z)), (9, .int sp), (7, .long ((Jn 6) ((Nn 1) ((Ns 0) 0)))), (5, .long uv), (4, .int (nI ((Ns 0) 0))), (0, .ref (aC 3)), (1, .int (nI 0)), (2, .ref (aC 0)), (3, .ref (aC 2))] → W p l e ({ frames := 11, cells := 0, slots := 0, locals := 301 }) s m [.ref (aC 3), .int (nI 0), .ref (aC 0), .ref (aC 2)].toArray below meth c H locs 0 0 (MQ below (va_Qi (fun (r : Int32) (f1 : fw_F) => tyP (Nn 1) B0 J0 I0 S0 (Ns 0) K kn 0 cur k wc acc r (fun Bq Jq Iq Sq => CL G f0 f1 hc aC an ar as_ In Nn Bq Jq Ir Nr Br Jr Iq Ns Bs Sq Ic Nc kn K mn M)) (fw_B G A) A) [.ref (aC 3), .int (nI 0), .ref (aC 0), .ref (aC 2)].toArray s 0 0 A) (F0 m 50 ls []) := by
        intro n50
        induction n50 with
        | zero => intro uv z sp B3 J3 I3 S3 cu kk wq ac hme50; exact absurd hme50 (Nat.not_lt_zero _)
        | succ n50 ih50 =>
          intro uv z sp B3 J3 I3 S3 cu kk wq ac hme50 hzk hkk TB3 T3 hcu hg3 hsp f H locs ls S Z hl
          refine lv_iload C.1 C.2.1 dX3_tryLevel_50 (lv_at hl 0 rfl) ?_
          refine lv_sipush (v := nI 5000) C.1 C.2.1 dX3_tryLevel_52 (by decide) ?_
          refine q_gt (tgt := 142) C (by omega) (by decide) dX3_tryLevel_55 (by decide) (fun c55 => ?_) (fun c55 => ?_)
          · exact absurd c55 (by omega)
          · refine lv_iload C.1 C.2.1 dX3_tryLevel_58 (lv_at hl 1 rfl) ?_
            refine lv_if_ne (tgt := 142) C.1 C.2.1 dX3_tryLevel_60 (by decide) (fun c60 => ?_) (fun c60 => ?_)
            · refine lv_aload_n C.1 C.2.1 dX3_tryLevel_142 rfl (lv_at hl 7 rfl) ?_
              refine lv_iload C.1 C.2.1 dX3_tryLevel_143 (lv_at hl 4 rfl) ?_
              refine q_callQv (As := [.int (nI ((Ns 0) 0))]) (rest := []) C S hl Z.2.2.1.1 rfl (c_unsetNumber Z.2.2.1 ((Ns 0) 0) (by first | omega | exact hL _ | exact hP _ | exact hF _) hL) (cwV 1 C.2.2.2.2 gX3_tryLevel_X1_unsetNumber rfl rfl rfl (by decide +kernel) ⟨Nat.le_of_ble_eq_true rfl, Nat.le_of_ble_eq_true rfl⟩) rfl rfl (Nat.le_of_ble_eq_true rfl) ⟨Nat.le_of_ble_eq_true rfl, Nat.le_of_ble_eq_true rfl⟩ dX3_tryLevel_145 (fun f H locs hv S => ?_)
              obtain ⟨O1, F1⟩ := hv
              have Z := CL_n Z F1 O1
              refine lv_iload C.1 C.2.1 dX3_tryLevel_148 (lv_at hl 1 rfl) ?_
              exact q_retQi C S hr hlk ⟨_, _, _, _, cu, kk, wq, ac, Z, tb_unset C0 (by omega) TB3, tv_unset T3 _, hcu, hkk, Or.inr (hsp.resolve_left (fun q => c60 q.1))⟩ dX3_tryLevel_150
            · obtain rfl : sp = 0 := by first | exact c60 | exact Decidable.not_not.mp c60
              have hres := hsp.resolve_right (fun q => by rcases q.1 with q | q <;> exact absurd q (by decide))
              have h37 := T3.2.2.2.2.2.2.1
              refine lv_aload_n C.1 C.2.1 dX3_tryLevel_63 rfl (lv_at hl 5 rfl) ?_
              refine o_get (v := .int (nI (I3 3))) C S Z.2.2.2.2.1 rfl inX3_tryLevel_X3 3 (Nat.le_of_ble_eq_true rfl) lkX3_tryLevel_36 rfl dX3_tryLevel_64 ?_
              refine lv_sipush (v := nI 5000) C.1 C.2.1 dX3_tryLevel_67 (by decide) ?_
              refine q_lt (tgt := 80) C (by omega) (by decide) dX3_tryLevel_70 (by decide) (fun c70 => ?_) (fun c70 => ?_)
              · obtain ⟨k1, rfl⟩ : ∃ k1, kk = k1 + 1 := ⟨kk - 1, by omega⟩
                refine lv_aload_n C.1 C.2.1 dX3_tryLevel_80 rfl (lv_at hl 5 rfl) ?_
                refine lv_dup C.1 C.2.1 dX3_tryLevel_81 rfl ?_
                refine o_get (v := .int (nI (I3 3))) C S Z.2.2.2.2.1 rfl inX3_tryLevel_X3 3 (Nat.le_of_ble_eq_true rfl) lkX3_tryLevel_36 rfl dX3_tryLevel_82 ?_
                refine lv_iconst (v := nI 1) C.1 C.2.1 dX3_tryLevel_85 (by decide) ?_
                refine q_iadd C dX3_tryLevel_86 ?_
                refine o_puti C S Z.2.2.2.2.1 (fw_fr_rf _ 3300 (3300 + 7)) rfl inX3_tryLevel_X3 tyX3 tyX3_ok nmX3 3 (Nat.le_of_ble_eq_true rfl) rfl lkX3_tryLevel_36 rfl rfl ⟨by decide, by decide⟩ dX3_tryLevel_87 (fun f H locs S O1 F1 => ?_)
                have Z := CL_s Z F1 O1
                refine lv_aload_n C.1 C.2.1 dX3_tryLevel_90 rfl (lv_at hl 7 rfl) ?_
                refine lv_iload C.1 C.2.1 dX3_tryLevel_91 (lv_at hl 4 rfl) ?_
                refine lv_lload C.1 C.2.1 dX3_tryLevel_93 (lv_at hl 3 rfl) ?_
                refine q_callQv (As := [.int (nI ((Ns 0) 0)), .long uv]) (rest := []) C S hl Z.2.2.1.1 rfl (c_setNumber Z.2.2.1 ((Ns 0) 0) (by first | omega | exact hL _ | exact hP _ | exact hF _) hL uv) (cwV 2 C.2.2.2.2 gX3_tryLevel_X1_setNumber rfl rfl rfl (by decide +kernel) ⟨Nat.le_of_ble_eq_true rfl, Nat.le_of_ble_eq_true rfl⟩) rfl rfl (Nat.le_of_ble_eq_true rfl) ⟨Nat.le_of_ble_eq_true rfl, Nat.le_of_ble_eq_true rfl⟩ dX3_tryLevel_95 (fun f H locs hv S => ?_)
                obtain ⟨O1, F1⟩ := hv
                have Z := CL_n Z F1 O1
                have T4 := tv_set C0 (by omega) T3 uv
                have TB4 := tb_set2 C0 (by omega) TB3
                have hlo4 : ∀ i, i < kn → (S3 5 i).toInt32 = mI (lkC (Nn 1) (B0 2) (Ns 0) (I0 1) (K i)) ∧ lkC (Nn 1) (B0 2) (Ns 0) (I0 1) (K i) < 64 := fun i hi => ⟨by rw [T3.2.2.2.2.2.2.2.2.1 5 (by decide)]; exact C0.2.2.2 i hi, by have := lkC_le (L := Nn 1) (B := B0 2) (fr := Ns 0) (c := I0 1) (k := K i); omega⟩
                refine lv_aload_n C.1 C.2.1 dX3_tryLevel_98 rfl (lv_at hl 5 rfl) ?_
                refine lv_iload_n C.1 C.2.1 dX3_tryLevel_99 rfl (lv_at hl 6 rfl) ?_
                refine lv_aload_n C.1 C.2.1 dX3_tryLevel_100 rfl (lv_at hl 7 rfl) ?_
                refine lv_aload_n C.1 C.2.1 dX3_tryLevel_101 rfl (lv_at hl 8 rfl) ?_
                refine q_callSi (As := [.int (nI 0), .ref (aC 0), .ref (aC 2)]) (rest := []) C S hl Z.2.2.2.2.1.1 rfl (s_isGood (CL_rf Z) 0 (by decide) (fun i => lkC (Nn 1) (B0 2) (Ns 0) (I0 1) (K i)) hlo4 hL) (cwV 3 C.2.2.2.2 gX3_tryLevel_X3_isGood rfl rfl rfl (by decide +kernel) ⟨Nat.le_of_ble_eq_true rfl, Nat.le_of_ble_eq_true rfl⟩) rfl rfl (Nat.le_of_ble_eq_true rfl) ⟨Nat.le_of_ble_eq_true rfl, Nat.le_of_ble_eq_true rfl⟩ dX3_tryLevel_102 (fun v hv => ?_)
                have hv : v = bI (gdC K kn (Nn 1) (B0 2) (J0 3) (Ns 0) (I0 1) 1 (va_up cu 0 uv)) := hv.trans (congrArg bI (gd_step C0 (by omega) hg3 T4))
                subst hv
                refine q_ifeqB (tgt := 119) C dX3_tryLevel_105 (by decide) (fun c105 => ?_) (fun c105 => ?_)
                · obtain ⟨cu2, k2, wq2, ac2, T5, TB5, hcu2, hk2, hs5⟩ : ∃ cu2 k2 wq2 ac2, tvR B0 J0 I0 S0 (Ns 0) 1 cu2 k2 wq2 ac2 (setB B3 ((Nn 1) ((Ns 0) 0))) (setJ J3 ((Nn 1) ((Ns 0) 0)) uv) (va_up I3 3 ((I3 3) + 1)) S3 ∧ (∀ r, (setB B3 ((Nn 1) ((Ns 0) 0))) 2 r = knL (B0 2) (Ns 0) 1 r) ∧ (∀ j, j < 1 → cu2 j = va_up cu 0 uv j) ∧ k2 ≤ k1 ∧ (((0 : Int32) = 0 ∧ tyR (Nn 1) B0 J0 (Ns 0) (I0 1) K kn k 0 cur wc acc = tyB (Nn 1) B0 J0 (Ns 0) (I0 1) K kn k2 1 cu2 wq2 ac2) ∨ (((0 : Int32) = -3 ∨ (0 : Int32) = -4) ∧ tyR (Nn 1) B0 J0 (Ns 0) (I0 1) K kn k 0 cur wc acc = ((0 : Int32), 5000 - k2, ac2))) := ⟨va_up cu 0 uv, k1, wq, ac, T4, TB4, fun _ _ => rfl, Nat.le_refl _, Or.inl ⟨rfl, hres.2.trans (it_bad c105)⟩⟩
                  have hcu3 : ∀ j, j < 0 → cu2 j = cur j := fun j hj => (hcu2 j (by omega)).trans ((up_n (by omega)).trans (hcu j hj))
                  have e5 : cu2 0 = uv := (hcu2 0 (by omega)).trans (up_s _ _ _)
                  refine lv_lload C.1 C.2.1 dX3_tryLevel_119 (lv_at hl 3 rfl) ?_
                  refine lv_lload C.1 C.2.1 dX3_tryLevel_121 (lv_at hl 2 rfl) ?_
                  refine q_lcmp_ne (tgt := 130) C dX3_tryLevel_123 dX3_tryLevel_124 (by decide) (fun c123 => ?_) (fun c123 => ?_)
                  · refine lv_lload C.1 C.2.1 dX3_tryLevel_130 (lv_at hl 3 rfl) ?_
                    refine lv_lconst (v := 1) C.1 C.2.1 dX3_tryLevel_132 (by decide) ?_
                    refine lv_ladd C.1 C.2.1 dX3_tryLevel_133 ?_
                    refine lv_lstore (lv' := [(5, .long (uv + 1)), (10, .int (nI z)), (9, .int 0), (7, .long ((Jn 6) ((Nn 1) ((Ns 0) 0)))), (4, .int (nI ((Ns 0) 0))), (0, .ref (aC 3)), (1, .int (nI 0)), (2, .ref (aC 0)), (3, .ref (aC 2))]) C.1 C.2.1 dX3_tryLevel_134 hl (by decide) rfl (fun ls hl => ?_)
                    refine q_iinc (d := 1) (lv' := [(10, .int (nI (z + 1))), (5, .long (uv + 1)), (9, .int 0), (7, .long ((Jn 6) ((Nn 1) ((Ns 0) 0)))), (4, .int (nI ((Ns 0) 0))), (0, .ref (aC 3)), (1, .int (nI 0)), (2, .ref (aC 0)), (3, .ref (aC 2))]) C dX3_tryLevel_136 hl (k := 1) rfl (by decide) (by decide) rfl (fun ls hl => ?_)
                    refine lv_goto (tgt := 50) C.1 C.2.1 dX3_tryLevel_139 (by decide) ?_
                    exact ih50 (uv + 1) (z + 1) 0 (setB B3 ((Nn 1) ((Ns 0) 0))) (setJ J3 ((Nn 1) ((Ns 0) 0)) uv) (va_up I3 3 ((I3 3) + 1)) S3 cu2 k2 wq2 ac2 (by omega) (by omega) (by omega) (tb_dn C0 (by omega) TB5) (tv_down T5) hcu3 (by rw [gdC_cur C0.1 (by omega) (fun j hj => (hcu3 j hj).trans (hcu j hj).symm)]; exact hg3) (hs5.imp (fun q => ⟨q.1, q.2.trans (tv_ne e5 (fun q => c123 (q.trans (congrFun (T.2.1 6 (by decide)).symm _))))⟩) id) _ _ _ _ S Z (lv_sub hl [0, 2, 3, 1, 4, 5, 6, 7, 8] rfl)
                  · refine lv_goto (tgt := 142) C.1 C.2.1 dX3_tryLevel_127 (by decide) ?_
                    refine lv_aload_n C.1 C.2.1 dX3_tryLevel_142 rfl (lv_at hl 7 rfl) ?_
                    refine lv_iload C.1 C.2.1 dX3_tryLevel_143 (lv_at hl 4 rfl) ?_
                    refine q_callQv (As := [.int (nI ((Ns 0) 0))]) (rest := []) C S hl Z.2.2.1.1 rfl (c_unsetNumber Z.2.2.1 ((Ns 0) 0) (by first | omega | exact hL _ | exact hP _ | exact hF _) hL) (cwV 1 C.2.2.2.2 gX3_tryLevel_X1_unsetNumber rfl rfl rfl (by decide +kernel) ⟨Nat.le_of_ble_eq_true rfl, Nat.le_of_ble_eq_true rfl⟩) rfl rfl (Nat.le_of_ble_eq_true rfl) ⟨Nat.le_of_ble_eq_true rfl, Nat.le_of_ble_eq_true rfl⟩ dX3_tryLevel_145 (fun f H locs hv S => ?_)
                    obtain ⟨O1, F1⟩ := hv
                    have Z := CL_n Z F1 O1
                    refine lv_iload C.1 C.2.1 dX3_tryLevel_148 (lv_at hl 1 rfl) ?_
                    exact q_retQi C S hr hlk ⟨_, _, _, _, cu2, k2, wq2, ac2, Z, tb_unset C0 (by omega) (tb_dn C0 (by omega) TB5), tv_unset (tv_down T5) _, hcu3, by omega, hs5.imp (fun q => ⟨q.1, q.2.trans (tv_eq e5 (c123.trans (congrFun (T.2.1 6 (by decide)) _)))⟩) id⟩ dX3_tryLevel_150
                · refine lv_aload_n C.1 C.2.1 dX3_tryLevel_108 rfl (lv_at hl 5 rfl) ?_
                  refine lv_iload_n C.1 C.2.1 dX3_tryLevel_109 rfl (lv_at hl 6 rfl) ?_
                  refine lv_iconst (v := nI 1) C.1 C.2.1 dX3_tryLevel_110 (by decide) ?_
                  refine q_iadd C dX3_tryLevel_111 ?_
                  refine lv_aload_n C.1 C.2.1 dX3_tryLevel_112 rfl (lv_at hl 7 rfl) ?_
                  refine lv_aload_n C.1 C.2.1 dX3_tryLevel_113 rfl (lv_at hl 8 rfl) ?_
                  refine q_callQi (As := [.int (nI 1), .ref (aC 0), .ref (aC 2)]) (rest := []) C S hl Z.2.2.2.2.1.1 rfl (s_try1 (CL_rf Z) (va_up cu 0 uv) k1 wq ac C0 (by omega) TB4 T4 c105 hL hF) (cwV 3 C.2.2.2.2 gX3_tryLevel_X3_tryLevel rfl rfl rfl (by decide +kernel) ⟨Nat.le_of_ble_eq_true rfl, Nat.le_of_ble_eq_true rfl⟩) rfl rfl (Nat.le_of_ble_eq_true rfl) ⟨Nat.le_of_ble_eq_true rfl, Nat.le_of_ble_eq_true rfl⟩ dX3_tryLevel_114 (fun v f H locs hv S => ?_)
                  obtain ⟨B5, J5, I5, S5, cu2, k2, wq2, ac2, Z1, TB5, T5, hcu2, hk2, hs5⟩ := hv
                  have Z := CL_tr Z Z1
                  have hs5 : (v = 0 ∧ tyR (Nn 1) B0 J0 (Ns 0) (I0 1) K kn k 0 cur wc acc = tyB (Nn 1) B0 J0 (Ns 0) (I0 1) K kn k2 1 cu2 wq2 ac2) ∨ ((v = -3 ∨ v = -4) ∧ tyR (Nn 1) B0 J0 (Ns 0) (I0 1) K kn k 0 cur wc acc = (v, 5000 - k2, ac2)) := hs5.imp (fun q => ⟨q.1, hres.2.trans ((it_good c105).trans q.2)⟩) (fun q => ⟨q.1, hres.2.trans ((it_good c105).trans q.2)⟩)
                  refine lv_istore (lv' := [(9, .int v), (10, .int (nI z)), (7, .long ((Jn 6) ((Nn 1) ((Ns 0) 0)))), (5, .long uv), (4, .int (nI ((Ns 0) 0))), (0, .ref (aC 3)), (1, .int (nI 0)), (2, .ref (aC 0)), (3, .ref (aC 2))]) C.1 C.2.1 dX3_tryLevel_117 hl (by decide) rfl (fun ls hl => ?_)
                  have hcu3 : ∀ j, j < 0 → cu2 j = cur j := fun j hj => (hcu2 j (by omega)).trans ((up_n (by omega)).trans (hcu j hj))
                  have e5 : cu2 0 = uv := (hcu2 0 (by omega)).trans (up_s _ _ _)
                  refine lv_lload C.1 C.2.1 dX3_tryLevel_119 (lv_at hl 3 rfl) ?_
                  refine lv_lload C.1 C.2.1 dX3_tryLevel_121 (lv_at hl 2 rfl) ?_
                  refine q_lcmp_ne (tgt := 130) C dX3_tryLevel_123 dX3_tryLevel_124 (by decide) (fun c123 => ?_) (fun c123 => ?_)
                  · refine lv_lload C.1 C.2.1 dX3_tryLevel_130 (lv_at hl 3 rfl) ?_
                    refine lv_lconst (v := 1) C.1 C.2.1 dX3_tryLevel_132 (by decide) ?_
                    refine lv_ladd C.1 C.2.1 dX3_tryLevel_133 ?_
                    refine lv_lstore (lv' := [(5, .long (uv + 1)), (9, .int v), (10, .int (nI z)), (7, .long ((Jn 6) ((Nn 1) ((Ns 0) 0)))), (4, .int (nI ((Ns 0) 0))), (0, .ref (aC 3)), (1, .int (nI 0)), (2, .ref (aC 0)), (3, .ref (aC 2))]) C.1 C.2.1 dX3_tryLevel_134 hl (by decide) rfl (fun ls hl => ?_)
                    refine q_iinc (d := 1) (lv' := [(10, .int (nI (z + 1))), (5, .long (uv + 1)), (9, .int v), (7, .long ((Jn 6) ((Nn 1) ((Ns 0) 0)))), (4, .int (nI ((Ns 0) 0))), (0, .ref (aC 3)), (1, .int (nI 0)), (2, .ref (aC 0)), (3, .ref (aC 2))]) C dX3_tryLevel_136 hl (k := 2) rfl (by decide) (by decide) rfl (fun ls hl => ?_)
                    refine lv_goto (tgt := 50) C.1 C.2.1 dX3_tryLevel_139 (by decide) ?_
                    exact ih50 (uv + 1) (z + 1) v B5 J5 I5 S5 cu2 k2 wq2 ac2 (by omega) (by omega) (by omega) (tb_dn C0 (by omega) TB5) (tv_down T5) hcu3 (by rw [gdC_cur C0.1 (by omega) (fun j hj => (hcu3 j hj).trans (hcu j hj).symm)]; exact hg3) (hs5.imp (fun q => ⟨q.1, q.2.trans (tv_ne e5 (fun q => c123 (q.trans (congrFun (T.2.1 6 (by decide)).symm _))))⟩) id) _ _ _ _ S Z (lv_sub hl [0, 2, 3, 1, 4, 5, 6, 7, 8] rfl)
                  · refine lv_goto (tgt := 142) C.1 C.2.1 dX3_tryLevel_127 (by decide) ?_
                    refine lv_aload_n C.1 C.2.1 dX3_tryLevel_142 rfl (lv_at hl 7 rfl) ?_
                    refine lv_iload C.1 C.2.1 dX3_tryLevel_143 (lv_at hl 4 rfl) ?_
                    refine q_callQv (As := [.int (nI ((Ns 0) 0))]) (rest := []) C S hl Z.2.2.1.1 rfl (c_unsetNumber Z.2.2.1 ((Ns 0) 0) (by first | omega | exact hL _ | exact hP _ | exact hF _) hL) (cwV 1 C.2.2.2.2 gX3_tryLevel_X1_unsetNumber rfl rfl rfl (by decide +kernel) ⟨Nat.le_of_ble_eq_true rfl, Nat.le_of_ble_eq_true rfl⟩) rfl rfl (Nat.le_of_ble_eq_true rfl) ⟨Nat.le_of_ble_eq_true rfl, Nat.le_of_ble_eq_true rfl⟩ dX3_tryLevel_145 (fun f H locs hv S => ?_)
                    obtain ⟨O1, F1⟩ := hv
                    have Z := CL_n Z F1 O1
                    refine lv_iload C.1 C.2.1 dX3_tryLevel_148 (lv_at hl 0 rfl) ?_
                    exact q_retQi C S hr hlk ⟨_, _, _, _, cu2, k2, wq2, ac2, Z, tb_unset C0 (by omega) (tb_dn C0 (by omega) TB5), tv_unset (tv_down T5) _, hcu3, by omega, hs5.imp (fun q => ⟨q.1, q.2.trans (tv_eq e5 (c123.trans (congrFun (T.2.1 6 (by decide)) _)))⟩) id⟩ dX3_tryLevel_150
              · obtain rfl : kk = 0 := by omega
                refine lv_bipush (v := (-3)) C.1 C.2.1 dX3_tryLevel_73 (by decide) ?_
                refine lv_istore (lv' := [(9, .int (-3)), (10, .int (nI z)), (7, .long ((Jn 6) ((Nn 1) ((Ns 0) 0)))), (5, .long uv), (4, .int (nI ((Ns 0) 0))), (0, .ref (aC 3)), (1, .int (nI 0)), (2, .ref (aC 0)), (3, .ref (aC 2))]) C.1 C.2.1 dX3_tryLevel_75 hl (by decide) rfl (fun ls hl => ?_)
                refine lv_goto (tgt := 142) C.1 C.2.1 dX3_tryLevel_77 (by decide) ?_
                refine lv_aload_n C.1 C.2.1 dX3_tryLevel_142 rfl (lv_at hl 7 rfl) ?_
                refine lv_iload C.1 C.2.1 dX3_tryLevel_143 (lv_at hl 4 rfl) ?_
                refine q_callQv (As := [.int (nI ((Ns 0) 0))]) (rest := []) C S hl Z.2.2.1.1 rfl (c_unsetNumber Z.2.2.1 ((Ns 0) 0) (by first | omega | exact hL _ | exact hP _ | exact hF _) hL) (cwV 1 C.2.2.2.2 gX3_tryLevel_X1_unsetNumber rfl rfl rfl (by decide +kernel) ⟨Nat.le_of_ble_eq_true rfl, Nat.le_of_ble_eq_true rfl⟩) rfl rfl (Nat.le_of_ble_eq_true rfl) ⟨Nat.le_of_ble_eq_true rfl, Nat.le_of_ble_eq_true rfl⟩ dX3_tryLevel_145 (fun f H locs hv S => ?_)
                obtain ⟨O1, F1⟩ := hv
                have Z := CL_n Z F1 O1
                refine lv_iload C.1 C.2.1 dX3_tryLevel_148 (lv_at hl 0 rfl) ?_
                exact q_retQi C S hr hlk ⟨_, _, _, _, cu, 0, wq, ac, Z, tb_unset C0 (by omega) TB3, tv_unset T3 _, hcu, Nat.zero_le _, Or.inr ⟨Or.inl rfl, hres.2.trans it_0⟩⟩ dX3_tryLevel_150
      exact lp50 (k + 1) ((Jn 5) ((Nn 1) ((Ns 0) 0))) 0 0 Bn Jn Is Js cur k wc acc (by omega) (by omega) (Nat.le_refl _) (fun r _ => TB r) T (fun _ _ => rfl) hg (Or.inl ⟨rfl, (itA_lt (by omega)).trans (by rw [T.2.1 5 (by decide)]; rfl)⟩) _ _ _ _ S Z (lv_sub hl [0, 1, 2, 3, 4, 5, 6, 7, 8] rfl)
    · exact absurd c11 (by decide)
