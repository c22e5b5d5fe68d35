theorem inX5_back_X5 : ∀ w ∈ u_ws RX5 TX5 34, w ∈ wsX5_back := (fun _ h => (List.mem_cons_of_mem _ (List.mem_append_right _ h)))
theorem lkX5_back_162 : Cond.fieldLink RX5 162 (TX5 19).1 (TX5 19).2.1 (TX5 19).2.2.1 ∈ wsX5_back := List.mem_of_getElem? (i := 1) rfl
theorem lkX5_back_47 : Cond.fieldLink RX5 47 (TX5 16).1 (TX5 16).2.1 (TX5 16).2.2.1 ∈ wsX5_back := List.mem_of_getElem? (i := 2) rfl
theorem lkX5_back_87 : Cond.fieldLink RX5 87 (TX5 0).1 (TX5 0).2.1 (TX5 0).2.2.1 ∈ wsX5_back := List.mem_of_getElem? (i := 3) rfl
theorem lkX5_back_50 : Cond.fieldLink RX5 50 (TX5 17).1 (TX5 17).2.1 (TX5 17).2.2.1 ∈ wsX5_back := List.mem_of_getElem? (i := 4) rfl
theorem lkX5_back_91 : Cond.fieldLink RX5 91 (TX5 6).1 (TX5 6).2.1 (TX5 6).2.2.1 ∈ wsX5_back := List.mem_of_getElem? (i := 5) rfl
theorem lkX5_back_53 : Cond.fieldLink RX5 53 (TX5 18).1 (TX5 18).2.1 (TX5 18).2.2.1 ∈ wsX5_back := List.mem_of_getElem? (i := 6) rfl
theorem lkX5_back_108 : Cond.fieldLink RX5 108 (TX5 15).1 (TX5 15).2.1 (TX5 15).2.2.1 ∈ wsX5_back := List.mem_of_getElem? (i := 7) rfl
theorem lkX5_back_136 : Cond.fieldLink RX5 136 (TX5 9).1 (TX5 9).2.1 (TX5 9).2.2.1 ∈ wsX5_back := List.mem_of_getElem? (i := 8) rfl
theorem lkX5_back_26 : Cond.fieldLink RX5 26 (TX5 7).1 (TX5 7).2.1 (TX5 7).2.2.1 ∈ wsX5_back := List.mem_of_getElem? (i := 9) rfl
set_option maxHeartbeats 4000000 in
set_option maxRecDepth 100000 in
theorem m_back {l : Launch} {G : fw_G} {A : Nat → Prop} {f0 : fw_F} {h : Nat} {a : Nat → Nat} {I : Nat → Nat} {N : Nat → Nat → Nat} {B : Nat → Nat → Bool} {J : Nat → Nat → Int64} (O : isO G dM f0 2000 h a I N B J) (hM : mOK I N) (hb : ∀ j, j < I 19 → N 16 j ≤ 64 ∧ N 17 j ≤ 6400 ∧ N 18 j ≤ 60)  : Met l yX5_back wsX5_back ({ frames := 3, cells := 0, slots := 0, locals := 70 }) (va_Pc [.ref h] (fw_P G A f0)) (va_Qi (fun (r : Int32) (f1 : fw_F) => (I 19 = 0 ∧ r = -1 ∧ isO G dM f1 2000 h a I N B J ∨ 0 < I 19 ∧ r = nI (I 19 - 1) ∧ ∃ c, c ≤ I 9 ∧ (∀ i, i < c → N 7 i < N 16 (I 19 - 1)) ∧ (c < I 9 → N 16 (I 19 - 1) ≤ N 7 c) ∧ ∃ N2 B2 J2, isO G dM f1 2000 h a (fgI (bkI I N c)) N2 (fgB B2) J2 ∧ wkT N2 B2 J2 (bkI I N c) N B J) ∧ fw_fr f0 f1 2000 2035) (fw_B G A) A) 0 0 A := by
  refine q_head rfl (by decide) (Nat.le_of_ble_eq_true rfl) ?_
  intro p e s m below meth c ls C hr hlk hnm P hl
  have S := P.start
  have hl : lv_has ls 3 [(0, .ref h)] := hl
  have F := fw_fr_rf f0 2000 2035
  have hM0 := hM
  obtain ⟨⟨hm0, hm6, hm9, hm15, hm19⟩, ⟨hs1, hs2, hs3⟩, ⟨hP7, hk10, hk11, hk12⟩, hL, hF⟩ := hM
  refine lv_aload_n C.1 C.2.1 dX5_back_0 rfl (lv_at hl 0 rfl) ?_
  refine o_get (v := .int (nI (I 19))) C S O rfl inX5_back_X5 19 (Nat.le_of_ble_eq_true rfl) lkX5_back_162 rfl dX5_back_1 ?_
  refine q_ifneN (tgt := 9) C (by omega) dX5_back_4 (by decide) (fun c4 => ?_) (fun c4 => ?_)
  · have hb0 := hb (I 19 - 1) (by omega)
    refine lv_aload_n C.1 C.2.1 dX5_back_9 rfl (lv_at hl 0 rfl) ?_
    refine lv_dup C.1 C.2.1 dX5_back_10 rfl ?_
    refine o_get (v := .int (nI (I 19))) C S O rfl inX5_back_X5 19 (Nat.le_of_ble_eq_true rfl) lkX5_back_162 rfl dX5_back_11 ?_
    refine lv_iconst (v := nI 1) C.1 C.2.1 dX5_back_14 (by decide) ?_
    refine q_isub C (by omega) dX5_back_15 ?_
    refine o_puti C S O F rfl inX5_back_X5 tyX5 tyX5_ok nmX5 19 (Nat.le_of_ble_eq_true rfl) rfl lkX5_back_162 rfl rfl ⟨by decide, by decide⟩ dX5_back_16 (fun f H locs S O F => ?_)
    refine lv_aload_n C.1 C.2.1 dX5_back_19 rfl (lv_at hl 0 rfl) ?_
    refine lv_aload_n C.1 C.2.1 dX5_back_20 rfl (lv_at hl 0 rfl) ?_
    refine o_get (v := .ref (a 16)) C S O rfl inX5_back_X5 16 (Nat.le_of_ble_eq_true rfl) lkX5_back_47 rfl dX5_back_21 ?_
    refine lv_aload_n C.1 C.2.1 dX5_back_24 rfl (lv_at hl 0 rfl) ?_
    refine o_get (v := .int (nI ((I 19) - 1))) C S O rfl inX5_back_X5 19 (Nat.le_of_ble_eq_true rfl) lkX5_back_162 rfl dX5_back_25 ?_
    refine o_nald (x := (N 16) ((I 19) - 1)) C S O 16 (Nat.le_of_ble_eq_true rfl) rfl ((I 19) - 1) rfl (show ((I 19) - 1) < 40 from by first | omega | exact hL _ | exact hP _ | exact hF _) (Nat.le_of_ble_eq_true rfl) rfl dX5_back_28 ?_
    refine o_puti C S O F rfl inX5_back_X5 tyX5 tyX5_ok nmX5 0 (Nat.le_of_ble_eq_true rfl) rfl lkX5_back_87 rfl rfl ⟨by decide, by decide⟩ dX5_back_29 (fun f H locs S O F => ?_)
    refine lv_aload_n C.1 C.2.1 dX5_back_32 rfl (lv_at hl 0 rfl) ?_
    refine lv_aload_n C.1 C.2.1 dX5_back_33 rfl (lv_at hl 0 rfl) ?_
    refine o_get (v := .ref (a 17)) C S O rfl inX5_back_X5 17 (Nat.le_of_ble_eq_true rfl) lkX5_back_50 rfl dX5_back_34 ?_
    refine lv_aload_n C.1 C.2.1 dX5_back_37 rfl (lv_at hl 0 rfl) ?_
    refine o_get (v := .int (nI ((I 19) - 1))) C S O rfl inX5_back_X5 19 (Nat.le_of_ble_eq_true rfl) lkX5_back_162 rfl dX5_back_38 ?_
    refine o_nald (x := (N 17) ((I 19) - 1)) C S O 17 (Nat.le_of_ble_eq_true rfl) rfl ((I 19) - 1) rfl (show ((I 19) - 1) < 40 from by first | omega | exact hL _ | exact hP _ | exact hF _) (Nat.le_of_ble_eq_true rfl) rfl dX5_back_41 ?_
    refine o_puti C S O F rfl inX5_back_X5 tyX5 tyX5_ok nmX5 6 (Nat.le_of_ble_eq_true rfl) rfl lkX5_back_91 rfl rfl ⟨by decide, by decide⟩ dX5_back_42 (fun f H locs S O F => ?_)
    refine lv_aload_n C.1 C.2.1 dX5_back_45 rfl (lv_at hl 0 rfl) ?_
    refine lv_aload_n C.1 C.2.1 dX5_back_46 rfl (lv_at hl 0 rfl) ?_
    refine o_get (v := .ref (a 18)) C S O rfl inX5_back_X5 18 (Nat.le_of_ble_eq_true rfl) lkX5_back_53 rfl dX5_back_47 ?_
    refine lv_aload_n C.1 C.2.1 dX5_back_50 rfl (lv_at hl 0 rfl) ?_
    refine o_get (v := .int (nI ((I 19) - 1))) C S O rfl inX5_back_X5 19 (Nat.le_of_ble_eq_true rfl) lkX5_back_162 rfl dX5_back_51 ?_
    refine o_nald (x := (N 18) ((I 19) - 1)) C S O 18 (Nat.le_of_ble_eq_true rfl) rfl ((I 19) - 1) rfl (show ((I 19) - 1) < 40 from by first | omega | exact hL _ | exact hP _ | exact hF _) (Nat.le_of_ble_eq_true rfl) rfl dX5_back_54 ?_
    refine o_puti C S O F rfl inX5_back_X5 tyX5 tyX5_ok nmX5 15 (Nat.le_of_ble_eq_true rfl) rfl lkX5_back_108 rfl rfl ⟨by decide, by decide⟩ dX5_back_55 (fun f H locs S O F => ?_)
    refine lv_iconst (v := nI 0) C.1 C.2.1 dX5_back_58 (by decide) ?_
    refine lv_istore_n (lv' := [(1, .int (nI 0)), (0, .ref h)]) C.1 C.2.1 dX5_back_59 rfl hl (by decide) rfl (fun ls hl => ?_)
    have lp60 : ∀ (n60 : Nat) (z : Nat), I 9 - z < n60 → (z ≤ I 9) → (∀ i, i < z → N 7 i < N 16 (I 19 - 1)) → ∀ (f : fw_F) (H : Heap) (locs : List Loc) (ls : Array Slot), fw_S G A s f H locs → isO G dM f 2000 h a (va_up (va_up (va_up (va_up I 19 ((I 19) - 1)) 0 ((N 16) ((I 19) - 1))) 6 ((N 17) ((I 19) - 1))) 15 ((N 18) ((I 19) - 1))) N B J → fw_fr f0 f 2000 2035 → lv_has ls 3 [(1, .int (nI z)), (0, .ref h)] → W p l e ({ frames := 3, cells := 0, slots := 0, locals := 70 }) s m [.ref h].toArray below meth c H locs 0 0 (MQ below (va_Qi (fun (r : Int32) (f1 : fw_F) => (I 19 = 0 ∧ r = -1 ∧ isO G dM f1 2000 h a I N B J ∨ 0 < I 19 ∧ r = nI (I 19 - 1) ∧ ∃ c, c ≤ I 9 ∧ (∀ i, i < c → N 7 i < N 16 (I 19 - 1)) ∧ (c < I 9 → N 16 (I 19 - 1) ≤ N 7 c) ∧ ∃ N2 B2 J2, isO G dM f1 2000 h a (fgI (bkI I N c)) N2 (fgB B2) J2 ∧ wkT N2 B2 J2 (bkI I N c) N B J) ∧ fw_fr f0 f1 2000 2035) (fw_B G A) A) [.ref h].toArray s 0 0 A) (F0 m 60 ls []) := by
      intro n60
      induction n60 with
      | zero => intro z hme60; exact absurd hme60 (Nat.not_lt_zero _)
      | succ n60 ih60 =>
        intro z hme60 hz hz2 f H locs ls S O F hl
        refine lv_iload_n C.1 C.2.1 dX5_back_60 rfl (lv_at hl 0 rfl) ?_
        refine lv_aload_n C.1 C.2.1 dX5_back_61 rfl (lv_at hl 1 rfl) ?_
        refine o_get (v := .int (nI (I 9))) C S O rfl inX5_back_X5 9 (Nat.le_of_ble_eq_true rfl) lkX5_back_136 rfl dX5_back_62 ?_
        refine q_ge (tgt := 87) C (by omega) (by omega) dX5_back_65 (by decide) (fun c65 => ?_) (fun c65 => ?_)
        · refine lv_aload_n C.1 C.2.1 dX5_back_87 rfl (lv_at hl 1 rfl) ?_
          refine lv_iload_n C.1 C.2.1 dX5_back_88 rfl (lv_at hl 0 rfl) ?_
          refine o_puti C S O F rfl inX5_back_X5 tyX5 tyX5_ok nmX5 9 (Nat.le_of_ble_eq_true rfl) rfl lkX5_back_136 rfl rfl ⟨by decide, by decide⟩ dX5_back_89 (fun f H locs S O F => ?_)
          refine lv_aload_n C.1 C.2.1 dX5_back_92 rfl (lv_at hl 1 rfl) ?_
          refine q_callQi (As := []) (rest := []) C S hl O.1 rfl (m_works O ⟨⟨hb0.1, hb0.2.1, (by show z ≤ 32; omega), hb0.2.2, (by show I 19 - 1 ≤ 40; omega)⟩, hM0.2⟩) (cwV 0 C.2.2.2.2 gX5_back_X5_works rfl rfl rfl (by decide +kernel) ⟨Nat.le_of_ble_eq_true rfl, Nat.le_of_ble_eq_true rfl⟩) rfl rfl (Nat.le_of_ble_eq_true rfl) ⟨Nat.le_of_ble_eq_true rfl, Nat.le_of_ble_eq_true rfl⟩ dX5_back_93 (fun v f H locs hv S => ?_)
          obtain ⟨N93, B93, J93, O, F1, rfl, hT93⟩ := hv
          have F := fw_fr_tr F F1
          refine lv_istore_n (lv' := [(2, .int (bI (wkC N93 B93 J93 (va_up (va_up (va_up (va_up (va_up I 19 ((I 19) - 1)) 0 ((N 16) ((I 19) - 1))) 6 ((N 17) ((I 19) - 1))) 15 ((N 18) ((I 19) - 1))) 9 z) N B J))), (1, .int (nI z)), (0, .ref h)]) C.1 C.2.1 dX5_back_96 rfl hl (by decide) rfl (fun ls hl => ?_)
          refine lv_aload_n C.1 C.2.1 dX5_back_97 rfl (lv_at hl 2 rfl) ?_
          refine q_callQv (As := []) (rest := []) C S hl O.1 rfl (m_forget O) (cwV 0 C.2.2.2.2 gX5_back_X5_forget rfl rfl rfl (by decide +kernel) ⟨Nat.le_of_ble_eq_true rfl, Nat.le_of_ble_eq_true rfl⟩) rfl rfl (Nat.le_of_ble_eq_true rfl) ⟨Nat.le_of_ble_eq_true rfl, Nat.le_of_ble_eq_true rfl⟩ dX5_back_98 (fun f H locs hv S => ?_)
          obtain ⟨O, F1⟩ := hv
          have F := fw_fr_tr F F1
          refine lv_aload_n C.1 C.2.1 dX5_back_101 rfl (lv_at hl 2 rfl) ?_
          refine o_get (v := .int (nI ((I 19) - 1))) C S O rfl inX5_back_X5 19 (Nat.le_of_ble_eq_true rfl) lkX5_back_162 rfl dX5_back_102 ?_
          exact q_retQi C S hr hlk ⟨Or.inr ⟨by omega, rfl, z, hz, hz2, fun q => by omega, N93, B93, J93, O, hT93⟩, F⟩ dX5_back_105
        · refine lv_aload_n C.1 C.2.1 dX5_back_68 rfl (lv_at hl 1 rfl) ?_
          refine o_get (v := .ref (a 7)) C S O rfl inX5_back_X5 7 (Nat.le_of_ble_eq_true rfl) lkX5_back_26 rfl dX5_back_69 ?_
          refine lv_iload_n C.1 C.2.1 dX5_back_72 rfl (lv_at hl 0 rfl) ?_
          refine o_nald (x := (N 7) z) C S O 7 (Nat.le_of_ble_eq_true rfl) rfl z rfl (show z < 32 from by first | omega | exact hL _ | exact hP _ | exact hF _) (Nat.le_of_ble_eq_true rfl) rfl dX5_back_73 ?_
          refine lv_aload_n C.1 C.2.1 dX5_back_74 rfl (lv_at hl 1 rfl) ?_
          refine o_get (v := .int (nI ((N 16) ((I 19) - 1)))) C S O rfl inX5_back_X5 0 (Nat.le_of_ble_eq_true rfl) lkX5_back_87 rfl dX5_back_75 ?_
          refine q_ge (tgt := 87) C (Nat.lt_trans (hP7 _) (by decide)) (by omega) dX5_back_78 (by decide) (fun c78 => ?_) (fun c78 => ?_)
          · refine lv_aload_n C.1 C.2.1 dX5_back_87 rfl (lv_at hl 1 rfl) ?_
            refine lv_iload_n C.1 C.2.1 dX5_back_88 rfl (lv_at hl 0 rfl) ?_
            refine o_puti C S O F rfl inX5_back_X5 tyX5 tyX5_ok nmX5 9 (Nat.le_of_ble_eq_true rfl) rfl lkX5_back_136 rfl rfl ⟨by decide, by decide⟩ dX5_back_89 (fun f H locs S O F => ?_)
            refine lv_aload_n C.1 C.2.1 dX5_back_92 rfl (lv_at hl 1 rfl) ?_
            refine q_callQi (As := []) (rest := []) C S hl O.1 rfl (m_works O ⟨⟨hb0.1, hb0.2.1, (by show z ≤ 32; omega), hb0.2.2, (by show I 19 - 1 ≤ 40; omega)⟩, hM0.2⟩) (cwV 0 C.2.2.2.2 gX5_back_X5_works rfl rfl rfl (by decide +kernel) ⟨Nat.le_of_ble_eq_true rfl, Nat.le_of_ble_eq_true rfl⟩) rfl rfl (Nat.le_of_ble_eq_true rfl) ⟨Nat.le_of_ble_eq_true rfl, Nat.le_of_ble_eq_true rfl⟩ dX5_back_93 (fun v f H locs hv S => ?_)
            obtain ⟨N93, B93, J93, O, F1, rfl, hT93⟩ := hv
            have F := fw_fr_tr F F1
            refine lv_istore_n (lv' := [(2, .int (bI (wkC N93 B93 J93 (va_up (va_up (va_up (va_up (va_up I 19 ((I 19) - 1)) 0 ((N 16) ((I 19) - 1))) 6 ((N 17) ((I 19) - 1))) 15 ((N 18) ((I 19) - 1))) 9 z) N B J))), (1, .int (nI z)), (0, .ref h)]) C.1 C.2.1 dX5_back_96 rfl hl (by decide) rfl (fun ls hl => ?_)
            refine lv_aload_n C.1 C.2.1 dX5_back_97 rfl (lv_at hl 2 rfl) ?_
            refine q_callQv (As := []) (rest := []) C S hl O.1 rfl (m_forget O) (cwV 0 C.2.2.2.2 gX5_back_X5_forget rfl rfl rfl (by decide +kernel) ⟨Nat.le_of_ble_eq_true rfl, Nat.le_of_ble_eq_true rfl⟩) rfl rfl (Nat.le_of_ble_eq_true rfl) ⟨Nat.le_of_ble_eq_true rfl, Nat.le_of_ble_eq_true rfl⟩ dX5_back_98 (fun f H locs hv S => ?_)
            obtain ⟨O, F1⟩ := hv
            have F := fw_fr_tr F F1
            refine lv_aload_n C.1 C.2.1 dX5_back_101 rfl (lv_at hl 2 rfl) ?_
            refine o_get (v := .int (nI ((I 19) - 1))) C S O rfl inX5_back_X5 19 (Nat.le_of_ble_eq_true rfl) lkX5_back_162 rfl dX5_back_102 ?_
            exact q_retQi C S hr hlk ⟨Or.inr ⟨by omega, rfl, z, hz, hz2, fun _ => c78, N93, B93, J93, O, hT93⟩, F⟩ dX5_back_105
          · refine q_iinc (d := 1) (lv' := [(1, .int (nI (z + 1))), (0, .ref h)]) C dX5_back_81 hl (k := 0) rfl (by decide) (by decide) rfl (fun ls hl => ?_)
            refine lv_goto (tgt := 60) C.1 C.2.1 dX5_back_84 (by decide) ?_
            exact ih60 (z + 1) (by omega) (by omega) (fun i hi => by rcases Nat.lt_or_ge i z with q | q; exact hz2 i q; rw [show i = z by omega]; exact c78) _ _ _ _ S O F (lv_sub hl [0, 1] rfl)
    exact lp60 (I 9 + 1) 0 (by omega) (by omega) (fun i hi => absurd hi (Nat.not_lt_zero i)) _ _ _ _ S O F (lv_sub hl [0, 1] rfl)
  · refine lv_iconst (v := (-1)) C.1 C.2.1 dX5_back_7 (by decide) ?_
    exact q_retQi C S hr hlk ⟨Or.inl ⟨c4, rfl, O⟩, F⟩ dX5_back_8
theorem inX5_take_X5 : ∀ w ∈ u_ws RX5 TX5 34, w ∈ wsX5_take := (fun _ h => (List.mem_cons_of_mem _ (List.mem_append_right _ h)))
theorem lkX5_take_146 : Cond.fieldLink RX5 146 (TX5 29).1 (TX5 29).2.1 (TX5 29).2.2.1 ∈ wsX5_take := List.mem_of_getElem? (i := 1) rfl
theorem lkX5_take_9 : Cond.fieldLink RX5 9 (TX5 1).1 (TX5 1).2.1 (TX5 1).2.2.1 ∈ wsX5_take := List.mem_of_getElem? (i := 2) rfl
theorem lkX5_take_91 : Cond.fieldLink RX5 91 (TX5 6).1 (TX5 6).2.1 (TX5 6).2.2.1 ∈ wsX5_take := List.mem_of_getElem? (i := 3) rfl
theorem lkX5_take_13 : Cond.fieldLink RX5 13 (TX5 2).1 (TX5 2).2.1 (TX5 2).2.2.1 ∈ wsX5_take := List.mem_of_getElem? (i := 4) rfl
theorem lkX5_take_81 : Cond.fieldLink RX5 81 (TX5 28).1 (TX5 28).2.1 (TX5 28).2.2.1 ∈ wsX5_take := List.mem_of_getElem? (i := 5) rfl
theorem lkX5_take_16 : Cond.fieldLink RX5 16 (TX5 3).1 (TX5 3).2.1 (TX5 3).2.2.1 ∈ wsX5_take := List.mem_of_getElem? (i := 6) rfl
theorem lkX5_take_19 : Cond.fieldLink RX5 19 (TX5 4).1 (TX5 4).2.1 (TX5 4).2.2.1 ∈ wsX5_take := List.mem_of_getElem? (i := 7) rfl
theorem lkX5_take_84 : Cond.fieldLink RX5 84 (TX5 33).1 (TX5 33).2.1 (TX5 33).2.2.1 ∈ wsX5_take := List.mem_of_getElem? (i := 8) rfl
set_option maxHeartbeats 4000000 in
set_option maxRecDepth 100000 in
theorem m_take {l : Launch} {G : fw_G} {A : Nat → Prop} {f0 : fw_F} {h : Nat} {a : Nat → Nat} {I : Nat → Nat} {N : Nat → Nat → Nat} {B : Nat → Nat → Bool} {J : Nat → Nat → Int64} (O : isO G dM f0 2000 h a I N B J) (x : Int32) (hM : mOK I N) (h30 : I 30 ≤ 200) (h29 : I 29 ≤ 8) (h6 : I 6 + 8 ≤ 6400)  : Met l yX5_take wsX5_take ({ frames := 3, cells := 0, slots := 0, locals := 70 }) (va_Pc [.ref h, .int x] (fw_P G A f0)) (va_Qi (fun (r : Int32) (f1 : fw_F) => ((B 32 0 && ix x (I 30)) = false ∧ r = bI false ∧ isO G dM f1 2000 h a I N B J ∨ ∃ k, B 32 0 = true ∧ k < I 30 ∧ x = nI k ∧ r = bI true ∧ ∃ N1 J1 N2 B2 J2, tkL N1 J1 N J (I 6) (I 29) k ∧ isO G dM f1 2000 h a (fgI (va_up I 6 (I 6 + I 29))) N2 (fgB B2) J2 ∧ wkT N2 B2 J2 (va_up I 6 (I 6 + I 29)) N1 B J1) ∧ fw_fr f0 f1 2000 2035) (fw_B G A) A) 0 0 A := by
  refine q_head rfl (by decide) (Nat.le_of_ble_eq_true rfl) ?_
  intro p e s m below meth c ls C hr hlk hnm P hl
  have S := P.start
  have hl : lv_has ls 4 [(0, .ref h), (1, .int x)] := hl
  have F := fw_fr_rf f0 2000 2035
  have hM0 := hM
  obtain ⟨⟨hm0, hm6, hm9, hm15, hm19⟩, ⟨hs1, hs2, hs3⟩, ⟨hP7, hk10, hk11, hk12⟩, hL, hF⟩ := hM
  refine lv_aload_n C.1 C.2.1 dX5_take_0 rfl (lv_at hl 0 rfl) ?_
  refine lv_iload_n C.1 C.2.1 dX5_take_1 rfl (lv_at hl 1 rfl) ?_
  refine q_callSi (As := [.int x]) (rest := []) C S hl O.1 rfl (m_isWay O x) (cwV 1 C.2.2.2.2 gX5_take_X5_isWay rfl rfl rfl (by decide +kernel) ⟨Nat.le_of_ble_eq_true rfl, Nat.le_of_ble_eq_true rfl⟩) rfl rfl (Nat.le_of_ble_eq_true rfl) ⟨Nat.le_of_ble_eq_true rfl, Nat.le_of_ble_eq_true rfl⟩ dX5_take_2 (fun v hv => ?_)
  subst hv
  refine q_ifneB (tgt := 10) C dX5_take_5 (by decide) (fun c5 => ?_) (fun c5 => ?_)
  · obtain ⟨q1, q2⟩ := Bool.and_eq_true_iff.mp c5
    obtain ⟨k0, hk0, rfl⟩ := ix_t (by omega) q2
    refine lv_aload_n C.1 C.2.1 dX5_take_10 rfl (lv_at hl 0 rfl) ?_
    refine o_get (v := .int (nI (I 29))) C S O rfl inX5_take_X5 29 (Nat.le_of_ble_eq_true rfl) lkX5_take_146 rfl dX5_take_11 ?_
    refine lv_istore_n (lv' := [(2, .int (nI (I 29))), (0, .ref h), (1, .int (nI k0))]) C.1 C.2.1 dX5_take_14 rfl hl (by decide) rfl (fun ls hl => ?_)
    refine lv_iconst (v := nI 0) C.1 C.2.1 dX5_take_15 (by decide) ?_
    refine lv_istore_n (lv' := [(3, .int (nI 0)), (2, .int (nI (I 29))), (0, .ref h), (1, .int (nI k0))]) C.1 C.2.1 dX5_take_16 rfl hl (by decide) rfl (fun ls hl => ?_)
    have lp17 : ∀ (n17 : Nat) (z : Nat) (I3 : Nat → Nat) (N3 : Nat → Nat → Nat) (J3 : Nat → Nat → Int64), I 29 - z < n17 → (z ≤ I 29) → (I3 = va_up I 6 (I 6 + z)) → (N3 1 = nset (N 1) (I 6) z (fun _ => 1)) → (N3 2 = nset (N 2) (I 6) z (N 28)) → (N3 3 = nset (N 3) (I 6) z (N 28)) → (∀ q, q ≠ 1 → q ≠ 2 → q ≠ 3 → N3 q = N q) → (J3 4 = wset (J 4) (I 6) z (fun j => J 33 (8 * k0 + j))) → (∀ q, q ≠ 4 → J3 q = J q) → ∀ (f : fw_F) (H : Heap) (locs : List Loc) (ls : Array Slot), fw_S G A s f H locs → isO G dM f 2000 h a I3 N3 B J3 → fw_fr f0 f 2000 2035 → lv_has ls 4 [(3, .int (nI z)), (2, .int (nI (I 29))), (0, .ref h), (1, .int (nI k0))] → W p l e ({ frames := 3, cells := 0, slots := 0, locals := 70 }) s m [.ref h, .int (nI k0)].toArray below meth c H locs 0 0 (MQ below (va_Qi (fun (r : Int32) (f1 : fw_F) => ((B 32 0 && ix (nI k0) (I 30)) = false ∧ r = bI false ∧ isO G dM f1 2000 h a I N B J ∨ ∃ k, B 32 0 = true ∧ k < I 30 ∧ (nI k0) = nI k ∧ r = bI true ∧ ∃ N1 J1 N2 B2 J2, tkL N1 J1 N J (I 6) (I 29) k ∧ isO G dM f1 2000 h a (fgI (va_up I 6 (I 6 + I 29))) N2 (fgB B2) J2 ∧ wkT N2 B2 J2 (va_up I 6 (I 6 + I 29)) N1 B J1) ∧ fw_fr f0 f1 2000 2035) (fw_B G A) A) [.ref h, .int (nI k0)].toArray s 0 0 A) (F0 m 17 ls []) := by
      intro n17
      induction n17 with
      | zero => intro z I3 N3 J3 hme17; exact absurd hme17 (Nat.not_lt_zero _)
      | succ n17 ih17 =>
        intro z I3 N3 J3 hme17 hz hI3 h1 h2 h3 hkN h4 hkJ f H locs ls S O F hl
        have hI6 : I3 6 = I 6 + z := by rw [hI3, up_s]
        refine lv_iload_n C.1 C.2.1 dX5_take_17 rfl (lv_at hl 0 rfl) ?_
        refine lv_iload_n C.1 C.2.1 dX5_take_18 rfl (lv_at hl 1 rfl) ?_
        refine q_ge (tgt := 98) C (by omega) (by omega) dX5_take_19 (by decide) (fun c19 => ?_) (fun c19 => ?_)
        · refine lv_aload_n C.1 C.2.1 dX5_take_98 rfl (lv_at hl 2 rfl) ?_
          refine q_callQi (As := []) (rest := []) C S hl O.1 rfl (m_works O (by subst hI3; exact ⟨⟨hm0, (by show I 6 + z ≤ 6400; omega), hm9, hm15, hm19⟩, ⟨(by rw [h1]; exact nset_all (P := fun z => z ≤ 2) hs1 (fun _ => by decide)), (by rw [h2]; exact nset_all (P := fun z => z < 64) hs2 hF), (by rw [h3]; exact nset_all (P := fun z => z < 64) hs3 hF)⟩, ⟨(by rw [hkN 7 (by decide) (by decide) (by decide)]; exact hP7), (by rw [hkN 10 (by decide) (by decide) (by decide)]; exact hk10), (by rw [hkN 11 (by decide) (by decide) (by decide)]; exact hk11), (by rw [hkN 12 (by decide) (by decide) (by decide)]; exact hk12)⟩, (by rw [hkN 20 (by decide) (by decide) (by decide)]; exact hL), (by rw [hkN 28 (by decide) (by decide) (by decide)]; exact hF)⟩)) (cwV 0 C.2.2.2.2 gX5_take_X5_works rfl rfl rfl (by decide +kernel) ⟨Nat.le_of_ble_eq_true rfl, Nat.le_of_ble_eq_true rfl⟩) rfl rfl (Nat.le_of_ble_eq_true rfl) ⟨Nat.le_of_ble_eq_true rfl, Nat.le_of_ble_eq_true rfl⟩ dX5_take_99 (fun v f H locs hv S => ?_)
          obtain ⟨N99, B99, J99, O, F1, rfl, hT99⟩ := hv
          have F := fw_fr_tr F F1
          refine lv_istore_n (lv' := [(3, .int (bI (wkC N99 B99 J99 I3 N3 B J3))), (2, .int (nI (I 29))), (0, .ref h), (1, .int (nI k0))]) C.1 C.2.1 dX5_take_102 rfl hl (by decide) rfl (fun ls hl => ?_)
          refine lv_aload_n C.1 C.2.1 dX5_take_103 rfl (lv_at hl 2 rfl) ?_
          refine q_callQv (As := []) (rest := []) C S hl O.1 rfl (m_forget O) (cwV 0 C.2.2.2.2 gX5_take_X5_forget rfl rfl rfl (by decide +kernel) ⟨Nat.le_of_ble_eq_true rfl, Nat.le_of_ble_eq_true rfl⟩) rfl rfl (Nat.le_of_ble_eq_true rfl) ⟨Nat.le_of_ble_eq_true rfl, Nat.le_of_ble_eq_true rfl⟩ dX5_take_104 (fun f H locs hv S => ?_)
          obtain ⟨O, F1⟩ := hv
          have F := fw_fr_tr F F1
          refine lv_iconst (v := nI 1) C.1 C.2.1 dX5_take_107 (by decide) ?_
          exact q_retQz (b := true) C S hr hlk rfl ⟨Or.inr ⟨k0, q1, hk0, rfl, rfl, N3, J3, N99, B99, J99, ⟨⟨by rw [show I 29 = z by omega]; exact h1, by rw [show I 29 = z by omega]; exact h2, by rw [show I 29 = z by omega]; exact h3, hkN⟩, by rw [show I 29 = z by omega]; exact h4, hkJ⟩, by rw [show I 29 = z by omega, ← hI3]; exact O, by rw [show I 29 = z by omega, ← hI3]; exact hT99⟩, F⟩ dX5_take_108
        · refine lv_aload_n C.1 C.2.1 dX5_take_22 rfl (lv_at hl 2 rfl) ?_
          refine o_get (v := .ref (a 1)) C S O rfl inX5_take_X5 1 (Nat.le_of_ble_eq_true rfl) lkX5_take_9 rfl dX5_take_23 ?_
          refine lv_aload_n C.1 C.2.1 dX5_take_26 rfl (lv_at hl 2 rfl) ?_
          refine o_get (v := .int (nI (I3 6))) C S O rfl inX5_take_X5 6 (Nat.le_of_ble_eq_true rfl) lkX5_take_91 rfl dX5_take_27 ?_
          refine lv_iconst (v := nI 1) C.1 C.2.1 dX5_take_30 (by decide) ?_
          refine o_nast C S O F 1 (Nat.le_of_ble_eq_true rfl) rfl (I3 6) rfl (show (I3 6) < 6400 from by first | omega | exact hL _ | exact hP _ | exact hF _) (Nat.le_of_ble_eq_true rfl) ⟨by decide, by decide⟩ dX5_take_31 (fun f H locs S O F => ?_)
          refine lv_aload_n C.1 C.2.1 dX5_take_32 rfl (lv_at hl 2 rfl) ?_
          refine o_get (v := .ref (a 2)) C S O rfl inX5_take_X5 2 (Nat.le_of_ble_eq_true rfl) lkX5_take_13 rfl dX5_take_33 ?_
          refine lv_aload_n C.1 C.2.1 dX5_take_36 rfl (lv_at hl 2 rfl) ?_
          refine o_get (v := .int (nI (I3 6))) C S O rfl inX5_take_X5 6 (Nat.le_of_ble_eq_true rfl) lkX5_take_91 rfl dX5_take_37 ?_
          refine lv_aload_n C.1 C.2.1 dX5_take_40 rfl (lv_at hl 2 rfl) ?_
          refine o_get (v := .ref (a 28)) C S O rfl inX5_take_X5 28 (Nat.le_of_ble_eq_true rfl) lkX5_take_81 rfl dX5_take_41 ?_
          refine lv_iload_n C.1 C.2.1 dX5_take_44 rfl (lv_at hl 0 rfl) ?_
          refine o_nald (x := N 28 z) C S O 28 (Nat.le_of_ble_eq_true rfl) rfl z rfl (show z < 32 from by first | omega | exact hL _ | exact hP _ | exact hF _) (Nat.le_of_ble_eq_true rfl) (congrFun (hkN 28 (by decide) (by decide) (by decide)) z) dX5_take_45 ?_
          refine o_nast C S O F 2 (Nat.le_of_ble_eq_true rfl) rfl (I3 6) rfl (show (I3 6) < 6400 from by first | omega | exact hL _ | exact hP _ | exact hF _) (Nat.le_of_ble_eq_true rfl) ⟨by decide, by decide⟩ dX5_take_46 (fun f H locs S O F => ?_)
          refine lv_aload_n C.1 C.2.1 dX5_take_47 rfl (lv_at hl 2 rfl) ?_
          refine o_get (v := .ref (a 3)) C S O rfl inX5_take_X5 3 (Nat.le_of_ble_eq_true rfl) lkX5_take_16 rfl dX5_take_48 ?_
          refine lv_aload_n C.1 C.2.1 dX5_take_51 rfl (lv_at hl 2 rfl) ?_
          refine o_get (v := .int (nI (I3 6))) C S O rfl inX5_take_X5 6 (Nat.le_of_ble_eq_true rfl) lkX5_take_91 rfl dX5_take_52 ?_
          refine lv_aload_n C.1 C.2.1 dX5_take_55 rfl (lv_at hl 2 rfl) ?_
          refine o_get (v := .ref (a 28)) C S O rfl inX5_take_X5 28 (Nat.le_of_ble_eq_true rfl) lkX5_take_81 rfl dX5_take_56 ?_
          refine lv_iload_n C.1 C.2.1 dX5_take_59 rfl (lv_at hl 0 rfl) ?_
          refine o_nald (x := N 28 z) C S O 28 (Nat.le_of_ble_eq_true rfl) rfl z rfl (show z < 32 from by first | omega | exact hL _ | exact hP _ | exact hF _) (Nat.le_of_ble_eq_true rfl) (congrFun (hkN 28 (by decide) (by decide) (by decide)) z) dX5_take_60 ?_
          refine o_nast C S O F 3 (Nat.le_of_ble_eq_true rfl) rfl (I3 6) rfl (show (I3 6) < 6400 from by first | omega | exact hL _ | exact hP _ | exact hF _) (Nat.le_of_ble_eq_true rfl) ⟨by decide, by decide⟩ dX5_take_61 (fun f H locs S O F => ?_)
          refine lv_aload_n C.1 C.2.1 dX5_take_62 rfl (lv_at hl 2 rfl) ?_
          refine o_get (v := .ref (a 4)) C S O rfl inX5_take_X5 4 (Nat.le_of_ble_eq_true rfl) lkX5_take_19 rfl dX5_take_63 ?_
          refine lv_aload_n C.1 C.2.1 dX5_take_66 rfl (lv_at hl 2 rfl) ?_
          refine o_get (v := .int (nI (I3 6))) C S O rfl inX5_take_X5 6 (Nat.le_of_ble_eq_true rfl) lkX5_take_91 rfl dX5_take_67 ?_
          refine lv_aload_n C.1 C.2.1 dX5_take_70 rfl (lv_at hl 2 rfl) ?_
          refine o_get (v := .ref (a 33)) C S O rfl inX5_take_X5 33 (Nat.le_of_ble_eq_true rfl) lkX5_take_84 rfl dX5_take_71 ?_
          refine lv_bipush (v := nI 8) C.1 C.2.1 dX5_take_74 (by decide) ?_
          refine lv_iload_n C.1 C.2.1 dX5_take_76 rfl (lv_at hl 3 rfl) ?_
          refine q_imul C dX5_take_77 ?_
          refine lv_iload_n C.1 C.2.1 dX5_take_78 rfl (lv_at hl 0 rfl) ?_
          refine q_iadd C dX5_take_79 ?_
          refine o_lald (x := J 33 (8 * k0 + z)) C S O 33 (Nat.le_of_ble_eq_true rfl) rfl ((8 * k0) + z) rfl (show (8 * k0) + z < 1600 from by first | omega | exact hL _ | exact hP _ | exact hF _) (Nat.le_of_ble_eq_true rfl) (congrFun (hkJ 33 (by decide)) (8 * k0 + z)) dX5_take_80 ?_
          refine o_last C S O F 4 (Nat.le_of_ble_eq_true rfl) rfl (I3 6) rfl (show (I3 6) < 6400 from by omega) (Nat.le_of_ble_eq_true rfl) ⟨by decide, by decide⟩ dX5_take_81 (fun f H locs S O F => ?_)
          refine lv_aload_n C.1 C.2.1 dX5_take_82 rfl (lv_at hl 2 rfl) ?_
          refine lv_dup C.1 C.2.1 dX5_take_83 rfl ?_
          refine o_get (v := .int (nI (I3 6))) C S O rfl inX5_take_X5 6 (Nat.le_of_ble_eq_true rfl) lkX5_take_91 rfl dX5_take_84 ?_
          refine lv_iconst (v := nI 1) C.1 C.2.1 dX5_take_87 (by decide) ?_
          refine q_iadd C dX5_take_88 ?_
          refine o_puti C S O F rfl inX5_take_X5 tyX5 tyX5_ok nmX5 6 (Nat.le_of_ble_eq_true rfl) rfl lkX5_take_91 rfl rfl ⟨by decide, by decide⟩ dX5_take_89 (fun f H locs S O F => ?_)
          refine q_iinc (d := 1) (lv' := [(3, .int (nI (z + 1))), (2, .int (nI (I 29))), (0, .ref h), (1, .int (nI k0))]) C dX5_take_92 hl (k := 0) rfl (by decide) (by decide) rfl (fun ls hl => ?_)
          refine lv_goto (tgt := 17) C.1 C.2.1 dX5_take_95 (by decide) ?_
          exact ih17 (z + 1) (va_up I3 6 ((I3 6) + 1)) (va_up (va_up (va_up N3 1 (va_up (N3 1) (I3 6) 1)) 2 (va_up (N3 2) (I3 6) (N 28 z))) 3 (va_up (N3 3) (I3 6) (N 28 z))) (va_up J3 4 (va_up (J3 4) (I3 6) (J 33 (8 * k0 + z)))) (by omega) (by omega) (by rw [hI3, bx_uu, up_s]; rfl) (by show va_up (N3 1) (I3 6) 1 = _; rw [nset_s, ← h1, hI6]) (by show va_up (N3 2) (I3 6) _ = _; rw [nset_s, ← h2, hI6]) (by show va_up (N3 3) (I3 6) _ = _; rw [nset_s, ← h3, hI6]) (fun q a1 a2 a3 => by rw [up_n a3, up_n a2, up_n a1]; exact hkN q a1 a2 a3) (by show va_up (J3 4) (I3 6) _ = _; rw [wset_s, ← h4, hI6]) (fun q a1 => by rw [up_n a1]; exact hkJ q a1) _ _ _ _ S O F (lv_sub hl [0, 1, 2, 3] rfl)
    exact lp17 (I 29 + 1) 0 I N J (by omega) (by omega) (by rw [Nat.add_zero, up_id]) (nset_0 _ _ _).symm (nset_0 _ _ _).symm (nset_0 _ _ _).symm (fun _ _ _ _ => rfl) (wset_0 _ _ _).symm (fun _ _ => rfl) _ _ _ _ S O F (lv_sub hl [0, 1, 2, 3] rfl)
  · refine lv_iconst (v := nI 0) C.1 C.2.1 dX5_take_8 (by decide) ?_
    exact q_retQz (b := false) C S hr hlk rfl ⟨Or.inl ⟨c5, rfl, O⟩, F⟩ dX5_take_9
theorem inX5_keep_X5 : ∀ w ∈ u_ws RX5 TX5 34, w ∈ wsX5_keep := (fun _ h => (List.mem_cons_of_mem _ (List.mem_append_right _ h)))
theorem lkX5_keep_136 : Cond.fieldLink RX5 136 (TX5 9).1 (TX5 9).2.1 (TX5 9).2.2.1 ∈ wsX5_keep := List.mem_of_getElem? (i := 1) rfl
theorem lkX5_keep_108 : Cond.fieldLink RX5 108 (TX5 15).1 (TX5 15).2.1 (TX5 15).2.2.1 ∈ wsX5_keep := List.mem_of_getElem? (i := 2) rfl
theorem lkX5_keep_32 : Cond.fieldLink RX5 32 (TX5 10).1 (TX5 10).2.1 (TX5 10).2.2.1 ∈ wsX5_keep := List.mem_of_getElem? (i := 3) rfl
theorem lkX5_keep_35 : Cond.fieldLink RX5 35 (TX5 11).1 (TX5 11).2.1 (TX5 11).2.2.1 ∈ wsX5_keep := List.mem_of_getElem? (i := 4) rfl
theorem lkX5_keep_44 : Cond.fieldLink RX5 44 (TX5 14).1 (TX5 14).2.1 (TX5 14).2.2.1 ∈ wsX5_keep := List.mem_of_getElem? (i := 5) rfl
theorem lkX5_keep_38 : Cond.fieldLink RX5 38 (TX5 12).1 (TX5 12).2.1 (TX5 12).2.2.1 ∈ wsX5_keep := List.mem_of_getElem? (i := 6) rfl
theorem lkX5_keep_26 : Cond.fieldLink RX5 26 (TX5 7).1 (TX5 7).2.1 (TX5 7).2.2.1 ∈ wsX5_keep := List.mem_of_getElem? (i := 7) rfl
theorem lkX5_keep_41 : Cond.fieldLink RX5 41 (TX5 13).1 (TX5 13).2.1 (TX5 13).2.2.1 ∈ wsX5_keep := List.mem_of_getElem? (i := 8) rfl
theorem lkX5_keep_29 : Cond.fieldLink RX5 29 (TX5 8).1 (TX5 8).2.1 (TX5 8).2.2.1 ∈ wsX5_keep := List.mem_of_getElem? (i := 9) rfl
set_option maxHeartbeats 4000000 in
set_option maxRecDepth 100000 in
theorem m_keep {l : Launch} {G : fw_G} {A : Nat → Prop} {f0 : fw_F} {h : Nat} {a : Nat → Nat} {I : Nat → Nat} {N : Nat → Nat → Nat} {B : Nat → Nat → Bool} {J : Nat → Nat → Int64} (O : isO G dM f0 2000 h a I N B J) (x : Int32) (v : Int64) (hM : mOK I N)  : Met l yX5_keep wsX5_keep ({ frames := 2, cells := 0, slots := 0, locals := 46 }) (va_Pc [.ref h, .int x, .long v] (fw_P G A f0)) (va_Qi (fun (r : Int32) (f1 : fw_F) => ((x < 0 ∨ nI 2 < x ∨ I 15 = 60) ∧ r = -1 ∧ isO G dM f1 2000 h a (kpI I) N (fgB B) J ∨ ∃ u, u ≤ 2 ∧ x = nI u ∧ I 15 < 60 ∧ (hoM (kpN N (I 15) u (I 9)) (fgB B) (kpJ J (I 15) (I 9) v) (I 15) = false ∧ r = nI 0 ∧ isO G dM f1 2000 h a (kpI I) (kpN N (I 15) u (I 9)) (fgB B) (kpJ J (I 15) (I 9) v) ∨ hoM (kpN N (I 15) u (I 9)) (fgB B) (kpJ J (I 15) (I 9) v) (I 15) = true ∧ r = nI 1 ∧ isO G dM f1 2000 h a (va_up (kpI I) 15 (I 15 + 1)) (kpN N (I 15) u (I 9)) (fgB B) (kpJ J (I 15) (I 9) v))) ∧ fw_fr f0 f1 2000 2035) (fw_B G A) A) 0 0 A := by
  refine q_head rfl (by decide) (Nat.le_of_ble_eq_true rfl) ?_
  intro p e s m below meth c ls C hr hlk hnm P hl
  have S := P.start
  have hl : lv_has ls 6 [(0, .ref h), (1, .int x), (2, .long v)] := hl
  have F := fw_fr_rf f0 2000 2035
  have hM0 := hM
  obtain ⟨⟨hm0, hm6, hm9, hm15, hm19⟩, ⟨hs1, hs2, hs3⟩, ⟨hP7, hk10, hk11, hk12⟩, hL, hF⟩ := hM
  refine lv_aload_n C.1 C.2.1 dX5_keep_0 rfl (lv_at hl 0 rfl) ?_
  refine q_callQv (As := []) (rest := []) C S hl O.1 rfl (m_forget O) (cwV 0 C.2.2.2.2 gX5_keep_X5_forget rfl rfl rfl (by decide +kernel) ⟨Nat.le_of_ble_eq_true rfl, Nat.le_of_ble_eq_true rfl⟩) rfl rfl (Nat.le_of_ble_eq_true rfl) ⟨Nat.le_of_ble_eq_true rfl, Nat.le_of_ble_eq_true rfl⟩ dX5_keep_1 (fun f H locs hv S => ?_)
  obtain ⟨O, F1⟩ := hv
  have F := fw_fr_tr F F1
  refine lv_aload_n C.1 C.2.1 dX5_keep_4 rfl (lv_at hl 0 rfl) ?_
  refine o_get (v := .int (nI (I 9))) C S O rfl inX5_keep_X5 9 (Nat.le_of_ble_eq_true rfl) lkX5_keep_136 rfl dX5_keep_5 ?_
  refine lv_istore (lv' := [(4, .int (nI (I 9))), (0, .ref h), (1, .int x), (2, .long v)]) C.1 C.2.1 dX5_keep_8 hl (by decide) rfl (fun ls hl => ?_)
  refine lv_aload_n C.1 C.2.1 dX5_keep_10 rfl (lv_at hl 1 rfl) ?_
  refine lv_iconst (v := nI 0) C.1 C.2.1 dX5_keep_11 (by decide) ?_
  refine o_puti C S O F rfl inX5_keep_X5 tyX5 tyX5_ok nmX5 9 (Nat.le_of_ble_eq_true rfl) rfl lkX5_keep_136 rfl rfl ⟨by decide, by decide⟩ dX5_keep_12 (fun f H locs S O F => ?_)
  refine lv_iload_n C.1 C.2.1 dX5_keep_15 rfl (lv_at hl 2 rfl) ?_
  refine lv_if_lt (tgt := 33) C.1 C.2.1 dX5_keep_16 (by decide) (fun c16 => ?_) (fun c16 => ?_)
  · refine lv_iconst (v := (-1)) C.1 C.2.1 dX5_keep_33 (by decide) ?_
    exact q_retQi C S hr hlk ⟨Or.inl ⟨Or.inl c16, rfl, O⟩, F⟩ dX5_keep_34
  · refine lv_iload_n C.1 C.2.1 dX5_keep_19 rfl (lv_at hl 2 rfl) ?_
    refine lv_iconst (v := nI 2) C.1 C.2.1 dX5_keep_20 (by decide) ?_
    refine lv_icmp_gt (tgt := 33) C.1 C.2.1 dX5_keep_21 (by decide) (fun c21 => ?_) (fun c21 => ?_)
    · refine lv_iconst (v := (-1)) C.1 C.2.1 dX5_keep_33 (by decide) ?_
      exact q_retQi C S hr hlk ⟨Or.inl ⟨Or.inr (Or.inl c21), rfl, O⟩, F⟩ dX5_keep_34
    · refine lv_aload_n C.1 C.2.1 dX5_keep_24 rfl (lv_at hl 1 rfl) ?_
      refine o_get (v := .int (nI (I 15))) C S O rfl inX5_keep_X5 15 (Nat.le_of_ble_eq_true rfl) lkX5_keep_108 rfl dX5_keep_25 ?_
      refine lv_bipush (v := nI 60) C.1 C.2.1 dX5_keep_28 (by decide) ?_
      refine q_nee (tgt := 35) C (by omega) (by decide) dX5_keep_30 (by decide) (fun c30 => ?_) (fun c30 => ?_)
      · obtain ⟨u0, hu, rfl⟩ := nI_of2 (M := nI 2) (n := 2) rfl c16 (Int32.not_lt.mp c21)
        refine lv_aload_n C.1 C.2.1 dX5_keep_35 rfl (lv_at hl 1 rfl) ?_
        refine o_get (v := .ref (a 10)) C S O rfl inX5_keep_X5 10 (Nat.le_of_ble_eq_true rfl) lkX5_keep_32 rfl dX5_keep_36 ?_
        refine lv_aload_n C.1 C.2.1 dX5_keep_39 rfl (lv_at hl 1 rfl) ?_
        refine o_get (v := .int (nI (I 15))) C S O rfl inX5_keep_X5 15 (Nat.le_of_ble_eq_true rfl) lkX5_keep_108 rfl dX5_keep_40 ?_
        refine lv_iload_n C.1 C.2.1 dX5_keep_43 rfl (lv_at hl 2 rfl) ?_
        refine o_nast C S O F 10 (Nat.le_of_ble_eq_true rfl) rfl (I 15) rfl (show (I 15) < 60 from by first | omega | exact hL _ | exact hP _ | exact hF _) (Nat.le_of_ble_eq_true rfl) ⟨by decide, by decide⟩ dX5_keep_44 (fun f H locs S O F => ?_)
        refine lv_aload_n C.1 C.2.1 dX5_keep_45 rfl (lv_at hl 1 rfl) ?_
        refine o_get (v := .ref (a 11)) C S O rfl inX5_keep_X5 11 (Nat.le_of_ble_eq_true rfl) lkX5_keep_35 rfl dX5_keep_46 ?_
        refine lv_aload_n C.1 C.2.1 dX5_keep_49 rfl (lv_at hl 1 rfl) ?_
        refine o_get (v := .int (nI (I 15))) C S O rfl inX5_keep_X5 15 (Nat.le_of_ble_eq_true rfl) lkX5_keep_108 rfl dX5_keep_50 ?_
        refine lv_iload C.1 C.2.1 dX5_keep_53 (lv_at hl 0 rfl) ?_
        refine o_nast C S O F 11 (Nat.le_of_ble_eq_true rfl) rfl (I 15) rfl (show (I 15) < 60 from by first | omega | exact hL _ | exact hP _ | exact hF _) (Nat.le_of_ble_eq_true rfl) ⟨by decide, by decide⟩ dX5_keep_55 (fun f H locs S O F => ?_)
        refine lv_aload_n C.1 C.2.1 dX5_keep_56 rfl (lv_at hl 1 rfl) ?_
        refine o_get (v := .ref (a 14)) C S O rfl inX5_keep_X5 14 (Nat.le_of_ble_eq_true rfl) lkX5_keep_44 rfl dX5_keep_57 ?_
        refine lv_aload_n C.1 C.2.1 dX5_keep_60 rfl (lv_at hl 1 rfl) ?_
        refine o_get (v := .int (nI (I 15))) C S O rfl inX5_keep_X5 15 (Nat.le_of_ble_eq_true rfl) lkX5_keep_108 rfl dX5_keep_61 ?_
        refine lv_lload_n C.1 C.2.1 dX5_keep_64 rfl (lv_at hl 3 rfl) ?_
        refine o_last C S O F 14 (Nat.le_of_ble_eq_true rfl) rfl (I 15) rfl (show (I 15) < 60 from by first | omega | exact hL _ | exact hP _ | exact hF _) (Nat.le_of_ble_eq_true rfl) ⟨by decide, by decide⟩ dX5_keep_65 (fun f H locs S O F => ?_)
        refine lv_iconst (v := nI 0) C.1 C.2.1 dX5_keep_66 (by decide) ?_
        refine lv_istore (lv' := [(5, .int (nI 0)), (4, .int (nI (I 9))), (0, .ref h), (1, .int (nI u0)), (2, .long v)]) C.1 C.2.1 dX5_keep_67 hl (by decide) rfl (fun ls hl => ?_)
        have lp69 : ∀ (n69 : Nat) (z : Nat) (N3 : Nat → Nat → Nat) (J3 : Nat → Nat → Int64), I 9 - z < n69 → (z ≤ I 9) → (N3 = va_up (va_up (va_up N 10 (va_up (N 10) (I 15) u0)) 11 (va_up (N 11) (I 15) (I 9))) 12 (nset (N 12) (32 * I 15) z (N 7))) → (J3 = va_up (va_up J 14 (va_up (J 14) (I 15) v)) 13 (wset (J 13) (32 * I 15) z (J 8))) → ∀ (f : fw_F) (H : Heap) (locs : List Loc) (ls : Array Slot), fw_S G A s f H locs → isO G dM f 2000 h a (va_up (va_up (va_up I 30 0) 29 0) 9 0) N3 (va_up B 32 (fun _ => false)) J3 → fw_fr f0 f 2000 2035 → lv_has ls 6 [(5, .int (nI z)), (4, .int (nI (I 9))), (0, .ref h), (1, .int (nI u0)), (2, .long v)] → W p l e ({ frames := 2, cells := 0, slots := 0, locals := 46 }) s m [.ref h, .int (nI u0), .long v].toArray below meth c H locs 0 0 (MQ below (va_Qi (fun (r : Int32) (f1 : fw_F) => (((nI u0) < 0 ∨ nI 2 < (nI u0) ∨ I 15 = 60) ∧ r = -1 ∧ isO G dM f1 2000 h a (kpI I) N (fgB B) J ∨ ∃ u, u ≤ 2 ∧ (nI u0) = nI u ∧ I 15 < 60 ∧ (hoM (kpN N (I 15) u (I 9)) (fgB B) (kpJ J (I 15) (I 9) v) (I 15) = false ∧ r = nI 0 ∧ isO G dM f1 2000 h a (kpI I) (kpN N (I 15) u (I 9)) (fgB B) (kpJ J (I 15) (I 9) v) ∨ hoM (kpN N (I 15) u (I 9)) (fgB B) (kpJ J (I 15) (I 9) v) (I 15) = true ∧ r = nI 1 ∧ isO G dM f1 2000 h a (va_up (kpI I) 15 (I 15 + 1)) (kpN N (I 15) u (I 9)) (fgB B) (kpJ J (I 15) (I 9) v))) ∧ fw_fr f0 f1 2000 2035) (fw_B G A) A) [.ref h, .int (nI u0), .long v].toArray s 0 0 A) (F0 m 69 ls []) := by
          intro n69
          induction n69 with
          | zero => intro z N3 J3 hme69; exact absurd hme69 (Nat.not_lt_zero _)
          | succ n69 ih69 =>
            intro z N3 J3 hme69 hz hN3 hJ3 f H locs ls S O F hl
            refine lv_iload C.1 C.2.1 dX5_keep_69 (lv_at hl 0 rfl) ?_
            refine lv_iload C.1 C.2.1 dX5_keep_71 (lv_at hl 1 rfl) ?_
            refine q_ge (tgt := 126) C (by omega) (by omega) dX5_keep_73 (by decide) (fun c73 => ?_) (fun c73 => ?_)
            · have hN3e : N3 = kpN N (I 15) u0 (I 9) := by rw [hN3, show z = I 9 by omega]; rfl
              have hJ3e : J3 = kpJ J (I 15) (I 9) v := by rw [hJ3, show z = I 9 by omega]; rfl
              refine lv_aload_n C.1 C.2.1 dX5_keep_126 rfl (lv_at hl 2 rfl) ?_
              refine lv_aload_n C.1 C.2.1 dX5_keep_127 rfl (lv_at hl 2 rfl) ?_
              refine o_get (v := .int (nI (I 15))) C S O rfl inX5_keep_X5 15 (Nat.le_of_ble_eq_true rfl) lkX5_keep_108 rfl dX5_keep_128 ?_
              refine q_callSi (As := [.int (nI (I 15))]) (rest := []) C S hl O.1 rfl (m_holds O (I 15) (by omega) (by rw [hN3e]; exact ⟨⟨hm0, hm6, (by show 0 ≤ 32; omega), hm15, hm19⟩, hM0.2.1, ⟨hP7, up_all (P := fun z => z ≤ 2) hk10 hu, up_all (P := fun z => z ≤ 32) hk11 hm9, nset_all (P := fun z => z < 64) hk12 hP7⟩, hL, hF⟩)) (cwV 1 C.2.2.2.2 gX5_keep_X5_holds rfl rfl rfl (by decide +kernel) ⟨Nat.le_of_ble_eq_true rfl, Nat.le_of_ble_eq_true rfl⟩) rfl rfl (Nat.le_of_ble_eq_true rfl) ⟨Nat.le_of_ble_eq_true rfl, Nat.le_of_ble_eq_true rfl⟩ dX5_keep_131 (fun v hv => ?_)
              subst hv
              refine q_ifneB (tgt := 139) C dX5_keep_134 (by decide) (fun c134 => ?_) (fun c134 => ?_)
              · refine lv_aload_n C.1 C.2.1 dX5_keep_139 rfl (lv_at hl 2 rfl) ?_
                refine lv_dup C.1 C.2.1 dX5_keep_140 rfl ?_
                refine o_get (v := .int (nI (I 15))) C S O rfl inX5_keep_X5 15 (Nat.le_of_ble_eq_true rfl) lkX5_keep_108 rfl dX5_keep_141 ?_
                refine lv_iconst (v := nI 1) C.1 C.2.1 dX5_keep_144 (by decide) ?_
                refine q_iadd C dX5_keep_145 ?_
                refine o_puti C S O F rfl inX5_keep_X5 tyX5 tyX5_ok nmX5 15 (Nat.le_of_ble_eq_true rfl) rfl lkX5_keep_108 rfl rfl ⟨by decide, by decide⟩ dX5_keep_146 (fun f H locs S O F => ?_)
                refine lv_iconst (v := nI 1) C.1 C.2.1 dX5_keep_149 (by decide) ?_
                exact q_retQi C S hr hlk ⟨Or.inr ⟨u0, hu, rfl, by omega, Or.inr ⟨by rw [← hN3e, ← hJ3e]; exact c134, rfl, by rw [← hN3e, ← hJ3e]; exact O⟩⟩, F⟩ dX5_keep_150
              · refine lv_iconst (v := nI 0) C.1 C.2.1 dX5_keep_137 (by decide) ?_
                exact q_retQi C S hr hlk ⟨Or.inr ⟨u0, hu, rfl, by omega, Or.inl ⟨by rw [← hN3e, ← hJ3e]; exact c134, rfl, by rw [← hN3e, ← hJ3e]; exact O⟩⟩, F⟩ dX5_keep_138
            · refine lv_aload_n C.1 C.2.1 dX5_keep_76 rfl (lv_at hl 2 rfl) ?_
              refine o_get (v := .ref (a 12)) C S O rfl inX5_keep_X5 12 (Nat.le_of_ble_eq_true rfl) lkX5_keep_38 rfl dX5_keep_77 ?_
              refine lv_bipush (v := nI 32) C.1 C.2.1 dX5_keep_80 (by decide) ?_
              refine lv_aload_n C.1 C.2.1 dX5_keep_82 rfl (lv_at hl 2 rfl) ?_
              refine o_get (v := .int (nI (I 15))) C S O rfl inX5_keep_X5 15 (Nat.le_of_ble_eq_true rfl) lkX5_keep_108 rfl dX5_keep_83 ?_
              refine q_imul C dX5_keep_86 ?_
              refine lv_iload C.1 C.2.1 dX5_keep_87 (lv_at hl 0 rfl) ?_
              refine q_iadd C dX5_keep_89 ?_
              refine lv_aload_n C.1 C.2.1 dX5_keep_90 rfl (lv_at hl 2 rfl) ?_
              refine o_get (v := .ref (a 7)) C S O rfl inX5_keep_X5 7 (Nat.le_of_ble_eq_true rfl) lkX5_keep_26 rfl dX5_keep_91 ?_
              refine lv_iload C.1 C.2.1 dX5_keep_94 (lv_at hl 0 rfl) ?_
              refine o_nald (x := N 7 z) C S O 7 (Nat.le_of_ble_eq_true rfl) rfl z rfl (show z < 32 from by first | omega | exact hL _ | exact hP _ | exact hF _) (Nat.le_of_ble_eq_true rfl) (by rw [hN3]; rfl) dX5_keep_96 ?_
              refine o_nast C S O F 12 (Nat.le_of_ble_eq_true rfl) rfl ((32 * (I 15)) + z) rfl (show (32 * (I 15)) + z < 1920 from by omega) (Nat.le_of_ble_eq_true rfl) ⟨by decide, by decide⟩ dX5_keep_97 (fun f H locs S O F => ?_)
              refine lv_aload_n C.1 C.2.1 dX5_keep_98 rfl (lv_at hl 2 rfl) ?_
              refine o_get (v := .ref (a 13)) C S O rfl inX5_keep_X5 13 (Nat.le_of_ble_eq_true rfl) lkX5_keep_41 rfl dX5_keep_99 ?_
              refine lv_bipush (v := nI 32) C.1 C.2.1 dX5_keep_102 (by decide) ?_
              refine lv_aload_n C.1 C.2.1 dX5_keep_104 rfl (lv_at hl 2 rfl) ?_
              refine o_get (v := .int (nI (I 15))) C S O rfl inX5_keep_X5 15 (Nat.le_of_ble_eq_true rfl) lkX5_keep_108 rfl dX5_keep_105 ?_
              refine q_imul C dX5_keep_108 ?_
              refine lv_iload C.1 C.2.1 dX5_keep_109 (lv_at hl 0 rfl) ?_
              refine q_iadd C dX5_keep_111 ?_
              refine lv_aload_n C.1 C.2.1 dX5_keep_112 rfl (lv_at hl 2 rfl) ?_
              refine o_get (v := .ref (a 8)) C S O rfl inX5_keep_X5 8 (Nat.le_of_ble_eq_true rfl) lkX5_keep_29 rfl dX5_keep_113 ?_
              refine lv_iload C.1 C.2.1 dX5_keep_116 (lv_at hl 0 rfl) ?_
              refine o_lald (x := J 8 z) C S O 8 (Nat.le_of_ble_eq_true rfl) rfl z rfl (show z < 32 from by first | omega | exact hL _ | exact hP _ | exact hF _) (Nat.le_of_ble_eq_true rfl) (by rw [hJ3]; rfl) dX5_keep_118 ?_
              refine o_last C S O F 13 (Nat.le_of_ble_eq_true rfl) rfl ((32 * (I 15)) + z) rfl (show (32 * (I 15)) + z < 1920 from by omega) (Nat.le_of_ble_eq_true rfl) ⟨by decide, by decide⟩ dX5_keep_119 (fun f H locs S O F => ?_)
              refine q_iinc (d := 1) (lv' := [(5, .int (nI (z + 1))), (4, .int (nI (I 9))), (0, .ref h), (1, .int (nI u0)), (2, .long v)]) C dX5_keep_120 hl (k := 0) rfl (by decide) (by decide) rfl (fun ls hl => ?_)
              refine lv_goto (tgt := 69) C.1 C.2.1 dX5_keep_123 (by decide) ?_
              exact ih69 (z + 1) (va_up N3 12 (va_up (N3 12) ((32 * (I 15)) + z) (N 7 z))) (va_up J3 13 (va_up (J3 13) ((32 * (I 15)) + z) (J 8 z))) (by omega) (by omega) (by rw [nset_s, hN3, bx_uu, up_s]) (by rw [wset_s, hJ3, bx_uu, up_s]) _ _ _ _ S O F (lv_sub hl [0, 1, 2, 3, 4] rfl)
        exact lp69 (I 9 + 1) 0 (va_up (va_up N 10 (va_up (N 10) (I 15) u0)) 11 (va_up (N 11) (I 15) (I 9))) (va_up J 14 (va_up (J 14) (I 15) v)) (by omega) (by omega) (by rw [nset_0]; exact (up_id _ 12).symm) (by rw [wset_0]; exact (up_id _ 13).symm) _ _ _ _ S O F (lv_sub hl [0, 1, 2, 3, 4] rfl)
      · refine lv_iconst (v := (-1)) C.1 C.2.1 dX5_keep_33 (by decide) ?_
        exact q_retQi C S hr hlk ⟨Or.inl ⟨Or.inr (Or.inr c30), rfl, O⟩, F⟩ dX5_keep_34
theorem inX5_kept_X5 : ∀ w ∈ u_ws RX5 TX5 34, w ∈ wsX5_kept := (fun _ h => (List.mem_cons_of_mem _ (List.mem_append_right _ h)))
theorem lkX5_kept_108 : Cond.fieldLink RX5 108 (TX5 15).1 (TX5 15).2.1 (TX5 15).2.2.1 ∈ wsX5_kept := List.mem_of_getElem? (i := 1) rfl
theorem lkX5_kept_35 : Cond.fieldLink RX5 35 (TX5 11).1 (TX5 11).2.1 (TX5 11).2.2.1 ∈ wsX5_kept := List.mem_of_getElem? (i := 3) rfl
theorem lkX5_kept_59 : Cond.fieldLink RX5 59 (TX5 21).1 (TX5 21).2.1 (TX5 21).2.2.1 ∈ wsX5_kept := List.mem_of_getElem? (i := 4) rfl
theorem lkX5_kept_56 : Cond.fieldLink RX5 56 (TX5 20).1 (TX5 20).2.1 (TX5 20).2.2.1 ∈ wsX5_kept := List.mem_of_getElem? (i := 5) rfl
theorem lkX5_kept_38 : Cond.fieldLink RX5 38 (TX5 12).1 (TX5 12).2.1 (TX5 12).2.2.1 ∈ wsX5_kept := List.mem_of_getElem? (i := 6) rfl
theorem lkX5_kept_32 : Cond.fieldLink RX5 32 (TX5 10).1 (TX5 10).2.1 (TX5 10).2.2.1 ∈ wsX5_kept := List.mem_of_getElem? (i := 2) rfl
set_option maxHeartbeats 4000000 in
set_option maxRecDepth 100000 in
theorem m_kept {l : Launch} {G : fw_G} {A : Nat → Prop} {f0 : fw_F} {h : Nat} {a : Nat → Nat} {I : Nat → Nat} {N : Nat → Nat → Nat} {B : Nat → Nat → Bool} {J : Nat → Nat → Int64} (O : isO G dM f0 2000 h a I N B J) (x y : Int32) (hM : mOK I N)  : Met l yX5_kept wsX5_kept ({ frames := 0, cells := 0, slots := 0, locals := 0 }) (va_Pc [.ref h, .int x, .int y] (fw_P G A f0)) (vp_Si (fun (r : Int32) => ix x (I 15) = false ∧ r = -1 ∨ ∃ k, k < I 15 ∧ x = nI k ∧ r = kpV y (N 10 k) (N 11 k) (cnt (fun j => !B 21 (N 20 (N 12 (32 * k + j)))) (N 11 k)))) 0 0 (fun _ => False) := by
  refine q_head rfl (by decide) (Nat.le_of_ble_eq_true rfl) ?_
  intro p e s m below meth c ls C hr hlk hnm P hl
  have S := P.start
  have hl : lv_has ls 5 [(0, .ref h), (1, .int x), (2, .int y)] := hl
  have hM0 := hM
  obtain ⟨⟨hm0, hm6, hm9, hm15, hm19⟩, ⟨hs1, hs2, hs3⟩, ⟨hP7, hk10, hk11, hk12⟩, hL, hF⟩ := hM
  refine lv_iload_n C.1 C.2.1 dX5_kept_0 rfl (lv_at hl 1 rfl) ?_
  refine lv_if_lt (tgt := 21) C.1 C.2.1 dX5_kept_1 (by decide) (fun c1 => ?_) (fun c1 => ?_)
  · refine lv_iconst (v := (-1)) C.1 C.2.1 dX5_kept_21 (by decide) ?_
    exact q_retSi C hr hlk (Or.inl ⟨ix_f (Or.inl c1), rfl⟩) dX5_kept_22
  · refine lv_iload_n C.1 C.2.1 dX5_kept_4 rfl (lv_at hl 1 rfl) ?_
    refine lv_aload_n C.1 C.2.1 dX5_kept_5 rfl (lv_at hl 0 rfl) ?_
    refine o_get (v := .int (nI (I 15))) C S O rfl inX5_kept_X5 15 (Nat.le_of_ble_eq_true rfl) lkX5_kept_108 rfl dX5_kept_6 ?_
    refine lv_icmp_ge (tgt := 21) C.1 C.2.1 dX5_kept_9 (by decide) (fun c9 => ?_) (fun c9 => ?_)
    · refine lv_iconst (v := (-1)) C.1 C.2.1 dX5_kept_21 (by decide) ?_
      exact q_retSi C hr hlk (Or.inl ⟨ix_f (Or.inr c9), rfl⟩) dX5_kept_22
    · refine lv_iload_n C.1 C.2.1 dX5_kept_12 rfl (lv_at hl 2 rfl) ?_
      refine lv_if_lt (tgt := 21) C.1 C.2.1 dX5_kept_13 (by decide) (fun c13 => ?_) (fun c13 => ?_)
      · refine lv_iconst (v := (-1)) C.1 C.2.1 dX5_kept_21 (by decide) ?_
        exact q_retSi C hr hlk (Or.inr (by obtain ⟨k, hk, rfl⟩ := ix_of (by omega) c1 (Int32.not_le.mp c9); exact ⟨k, hk, rfl, by rw [kpV_lo c13]⟩)) dX5_kept_22
      · refine lv_iload_n C.1 C.2.1 dX5_kept_16 rfl (lv_at hl 2 rfl) ?_
        refine lv_iconst (v := nI 2) C.1 C.2.1 dX5_kept_17 (by decide) ?_
        refine lv_icmp_le (tgt := 23) C.1 C.2.1 dX5_kept_18 (by decide) (fun c18 => ?_) (fun c18 => ?_)
        · obtain ⟨k0, hk, rfl⟩ := ix_of (by omega) c1 (Int32.not_le.mp c9)
          obtain ⟨u0, hu, rfl⟩ := nI_of2 (M := nI 2) (n := 2) rfl c13 c18
          have hmk := hk11 k0
          have hkk := hk10 k0
          refine lv_iload_n C.1 C.2.1 dX5_kept_23 rfl (lv_at hl 2 rfl) ?_
          refine lv_iconst (v := nI 2) C.1 C.2.1 dX5_kept_24 (by decide) ?_
          refine q_ge (tgt := 48) C (by omega) (by decide) dX5_kept_25 (by decide) (fun c25 => ?_) (fun c25 => ?_)
          · refine lv_iconst (v := nI 0) C.1 C.2.1 dX5_kept_48 (by decide) ?_
            refine lv_istore_n (lv' := [(3, .int (nI 0)), (0, .ref h), (1, .int (nI k0)), (2, .int (nI u0))]) C.1 C.2.1 dX5_kept_49 rfl hl (by decide) rfl (fun ls hl => ?_)
            refine lv_iconst (v := nI 0) C.1 C.2.1 dX5_kept_50 (by decide) ?_
            refine lv_istore (lv' := [(4, .int (nI 0)), (3, .int (nI 0)), (0, .ref h), (1, .int (nI k0)), (2, .int (nI u0))]) C.1 C.2.1 dX5_kept_51 hl (by decide) rfl (fun ls hl => ?_)
            have lp53 : ∀ (n53 : Nat) (z : Nat) (q : Nat), N 11 k0 - z < n53 → (z ≤ N 11 k0) → (q = cnt (fun j => !B 21 (N 20 (N 12 (32 * k0 + j)))) z) → ∀ (ls : Array Slot), lv_has ls 5 [(4, .int (nI z)), (3, .int (nI q)), (0, .ref h), (1, .int (nI k0)), (2, .int (nI u0))] → W p l e ({ frames := 0, cells := 0, slots := 0, locals := 0 }) s m [.ref h, .int (nI k0), .int (nI u0)].toArray below meth c s.heap [] 0 0 (MQ below (vp_Si (fun (r : Int32) => ix (nI k0) (I 15) = false ∧ r = -1 ∨ ∃ k, k < I 15 ∧ (nI k0) = nI k ∧ r = kpV (nI u0) (N 10 k) (N 11 k) (cnt (fun j => !B 21 (N 20 (N 12 (32 * k + j)))) (N 11 k)))) [.ref h, .int (nI k0), .int (nI u0)].toArray s 0 0 (fun _ => False)) (F0 m 53 ls []) := by
              intro n53
              induction n53 with
              | zero => intro z q hme53; exact absurd hme53 (Nat.not_lt_zero _)
              | succ n53 ih53 =>
                intro z q hme53 hz hq ls hl
                refine lv_iload C.1 C.2.1 dX5_kept_53 (lv_at hl 0 rfl) ?_
                refine lv_aload_n C.1 C.2.1 dX5_kept_55 rfl (lv_at hl 2 rfl) ?_
                refine o_get (v := .ref (a 11)) C S O rfl inX5_kept_X5 11 (Nat.le_of_ble_eq_true rfl) lkX5_kept_35 rfl dX5_kept_56 ?_
                refine lv_iload_n C.1 C.2.1 dX5_kept_59 rfl (lv_at hl 3 rfl) ?_
                refine o_nald (x := (N 11) k0) C S O 11 (Nat.le_of_ble_eq_true rfl) rfl k0 rfl (show k0 < 60 from by first | omega | exact hL _ | exact hP _ | exact hF _) (Nat.le_of_ble_eq_true rfl) rfl dX5_kept_60 ?_
                refine q_ge (tgt := 103) C (by omega) (by omega) dX5_kept_61 (by decide) (fun c61 => ?_) (fun c61 => ?_)
                · refine lv_iload_n C.1 C.2.1 dX5_kept_103 rfl (lv_at hl 1 rfl) ?_
                  exact q_retSi C hr hlk (Or.inr ⟨k0, hk, rfl, by rw [show u0 = 2 by omega, hq, show z = N 11 k0 by omega]; rfl⟩) dX5_kept_104
                · refine lv_iload_n C.1 C.2.1 dX5_kept_64 rfl (lv_at hl 1 rfl) ?_
                  refine lv_aload_n C.1 C.2.1 dX5_kept_65 rfl (lv_at hl 2 rfl) ?_
                  refine o_get (v := .ref (a 21)) C S O rfl inX5_kept_X5 21 (Nat.le_of_ble_eq_true rfl) lkX5_kept_59 rfl dX5_kept_66 ?_
                  refine lv_aload_n C.1 C.2.1 dX5_kept_69 rfl (lv_at hl 2 rfl) ?_
                  refine o_get (v := .ref (a 20)) C S O rfl inX5_kept_X5 20 (Nat.le_of_ble_eq_true rfl) lkX5_kept_56 rfl dX5_kept_70 ?_
                  refine lv_aload_n C.1 C.2.1 dX5_kept_73 rfl (lv_at hl 2 rfl) ?_
                  refine o_get (v := .ref (a 12)) C S O rfl inX5_kept_X5 12 (Nat.le_of_ble_eq_true rfl) lkX5_kept_38 rfl dX5_kept_74 ?_
                  refine lv_bipush (v := nI 32) C.1 C.2.1 dX5_kept_77 (by decide) ?_
                  refine lv_iload_n C.1 C.2.1 dX5_kept_79 rfl (lv_at hl 3 rfl) ?_
                  refine q_imul C dX5_kept_80 ?_
                  refine lv_iload C.1 C.2.1 dX5_kept_81 (lv_at hl 0 rfl) ?_
                  refine q_iadd C dX5_kept_83 ?_
                  refine o_nald (x := (N 12) ((32 * k0) + z)) C S O 12 (Nat.le_of_ble_eq_true rfl) rfl ((32 * k0) + z) rfl (show (32 * k0) + z < 1920 from by first | omega | exact hL _ | exact hP _ | exact hF _) (Nat.le_of_ble_eq_true rfl) rfl dX5_kept_84 ?_
                  refine o_nald (x := (N 20) ((N 12) ((32 * k0) + z))) C S O 20 (Nat.le_of_ble_eq_true rfl) rfl ((N 12) ((32 * k0) + z)) rfl (show (N 12) ((32 * k0) + z) < 64 from by first | omega | exact hk12 _ | exact hL _) (Nat.le_of_ble_eq_true rfl) rfl dX5_kept_85 ?_
                  refine o_yald (x := (B 21) ((N 20) ((N 12) ((32 * k0) + z)))) C S O 21 (Nat.le_of_ble_eq_true rfl) rfl ((N 20) ((N 12) ((32 * k0) + z))) rfl (show (N 20) ((N 12) ((32 * k0) + z)) < 64 from by first | omega | exact hk12 _ | exact hL _) (Nat.le_of_ble_eq_true rfl) rfl dX5_kept_86 ?_
                  refine q_ifeqB (tgt := 94) C dX5_kept_87 (by decide) (fun c87 => ?_) (fun c87 => ?_)
                  · refine lv_iconst (v := nI 1) C.1 C.2.1 dX5_kept_94 (by decide) ?_
                    refine q_iadd C dX5_kept_95 ?_
                    refine lv_istore_n (lv' := [(3, .int (nI (q + 1))), (4, .int (nI z)), (0, .ref h), (1, .int (nI k0)), (2, .int (nI u0))]) C.1 C.2.1 dX5_kept_96 rfl hl (by decide) rfl (fun ls hl => ?_)
                    refine q_iinc (d := 1) (lv' := [(4, .int (nI (z + 1))), (3, .int (nI (q + 1))), (0, .ref h), (1, .int (nI k0)), (2, .int (nI u0))]) C dX5_kept_97 hl (k := 1) rfl (by decide) (by decide) rfl (fun ls hl => ?_)
                    refine lv_goto (tgt := 53) C.1 C.2.1 dX5_kept_100 (by decide) ?_
                    exact ih53 (z + 1) (q + 1) (by omega) (by omega) (by rw [hq, cnt_t (by show (!B 21 (N 20 (N 12 (32 * k0 + z)))) = true; rw [c87]; rfl)]) _ (lv_sub hl [0, 1, 2, 3, 4] rfl)
                  · refine lv_iconst (v := nI 0) C.1 C.2.1 dX5_kept_90 (by decide) ?_
                    refine lv_goto (tgt := 95) C.1 C.2.1 dX5_kept_91 (by decide) ?_
                    refine q_iadd C dX5_kept_95 ?_
                    refine lv_istore_n (lv' := [(3, .int (nI (q + 0))), (4, .int (nI z)), (0, .ref h), (1, .int (nI k0)), (2, .int (nI u0))]) C.1 C.2.1 dX5_kept_96 rfl hl (by decide) rfl (fun ls hl => ?_)
                    refine q_iinc (d := 1) (lv' := [(4, .int (nI (z + 1))), (3, .int (nI (q + 0))), (0, .ref h), (1, .int (nI k0)), (2, .int (nI u0))]) C dX5_kept_97 hl (k := 1) rfl (by decide) (by decide) rfl (fun ls hl => ?_)
                    refine lv_goto (tgt := 53) C.1 C.2.1 dX5_kept_100 (by decide) ?_
                    exact ih53 (z + 1) (q + 0) (by omega) (by omega) (by rw [Nat.add_zero, hq, cnt_f (by show (!B 21 (N 20 (N 12 (32 * k0 + z)))) = false; rw [c87]; rfl)]) _ (lv_sub hl [0, 1, 2, 3, 4] rfl)
            exact lp53 (N 11 k0 + 1) 0 0 (by omega) (by omega) rfl _ (lv_sub hl [0, 1, 2, 3, 4] rfl)
          · refine lv_iload_n C.1 C.2.1 dX5_kept_28 rfl (lv_at hl 2 rfl) ?_
            refine q_ifneN (tgt := 41) C (by omega) dX5_kept_29 (by decide) (fun c29 => ?_) (fun c29 => ?_)
            · refine lv_aload_n C.1 C.2.1 dX5_kept_41 rfl (lv_at hl 0 rfl) ?_
              refine o_get (v := .ref (a 11)) C S O rfl inX5_kept_X5 11 (Nat.le_of_ble_eq_true rfl) lkX5_kept_35 rfl dX5_kept_42 ?_
              refine lv_iload_n C.1 C.2.1 dX5_kept_45 rfl (lv_at hl 1 rfl) ?_
              refine o_nald (x := (N 11) k0) C S O 11 (Nat.le_of_ble_eq_true rfl) rfl k0 rfl (show k0 < 60 from by first | omega | exact hL _ | exact hP _ | exact hF _) (Nat.le_of_ble_eq_true rfl) rfl dX5_kept_46 ?_
              exact q_retSi C hr hlk (Or.inr ⟨k0, hk, rfl, by rw [show u0 = 1 by omega]; rfl⟩) dX5_kept_47
            · refine lv_aload_n C.1 C.2.1 dX5_kept_32 rfl (lv_at hl 0 rfl) ?_
              refine o_get (v := .ref (a 10)) C S O rfl inX5_kept_X5 10 (Nat.le_of_ble_eq_true rfl) lkX5_kept_32 rfl dX5_kept_33 ?_
              refine lv_iload_n C.1 C.2.1 dX5_kept_36 rfl (lv_at hl 1 rfl) ?_
              refine o_nald (x := (N 10) k0) C S O 10 (Nat.le_of_ble_eq_true rfl) rfl k0 rfl (show k0 < 60 from by first | omega | exact hL _ | exact hP _ | exact hF _) (Nat.le_of_ble_eq_true rfl) rfl dX5_kept_37 ?_
              refine lv_goto (tgt := 47) C.1 C.2.1 dX5_kept_38 (by decide) ?_
              exact q_retSi C hr hlk (Or.inr ⟨k0, hk, rfl, by rw [c29]; rfl⟩) dX5_kept_47
        · refine lv_iconst (v := (-1)) C.1 C.2.1 dX5_kept_21 (by decide) ?_
          exact q_retSi C hr hlk (Or.inr (by obtain ⟨k, hk, rfl⟩ := ix_of (by omega) c1 (Int32.not_le.mp c9); exact ⟨k, hk, rfl, by rw [kpV_hi (by rw [Int32.not_le] at c18; exact c18)]⟩)) dX5_kept_22
