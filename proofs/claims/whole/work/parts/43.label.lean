theorem inX5_label_X5 : ∀ w ∈ u_ws RX5 TX5 34, w ∈ wsX5_label := (fun _ h => (List.mem_cons_of_mem _ (List.mem_append_right _ h)))
theorem lkX5_label_149 : Cond.fieldLink RX5 149 (TX5 31).1 (TX5 31).2.1 (TX5 31).2.2.1 ∈ wsX5_label := List.mem_of_getElem? (i := 1) rfl
theorem lkX5_label_136 : Cond.fieldLink RX5 136 (TX5 9).1 (TX5 9).2.1 (TX5 9).2.2.1 ∈ wsX5_label := List.mem_of_getElem? (i := 2) rfl
theorem lkX5_label_143 : Cond.fieldLink RX5 143 (TX5 30).1 (TX5 30).2.1 (TX5 30).2.2.1 ∈ wsX5_label := List.mem_of_getElem? (i := 5) rfl
theorem lkX5_label_75 : Cond.fieldLink RX5 75 (TX5 26).1 (TX5 26).2.1 (TX5 26).2.2.1 ∈ wsX5_label := List.mem_of_getElem? (i := 3) rfl
theorem lkX5_label_81 : Cond.fieldLink RX5 81 (TX5 28).1 (TX5 28).2.1 (TX5 28).2.2.1 ∈ wsX5_label := List.mem_of_getElem? (i := 4) rfl
theorem lkX5_label_146 : Cond.fieldLink RX5 146 (TX5 29).1 (TX5 29).2.1 (TX5 29).2.2.1 ∈ wsX5_label := List.mem_of_getElem? (i := 6) rfl
theorem lkX5_label_139 : Cond.fieldLink RX5 139 (TX5 32).1 (TX5 32).2.1 (TX5 32).2.2.1 ∈ wsX5_label := List.mem_of_getElem? (i := 7) rfl
set_option maxHeartbeats 4000000 in
set_option maxRecDepth 100000 in
theorem m_label {l : Launch} {G : fw_G} {A : Nat → Prop} {f0 : fw_F} {h : Nat} {a : Nat → Nat} {I : Nat → Nat} {N : Nat → Nat → Nat} {B : Nat → Nat → Bool} {J : Nat → Nat → Int64} (O : isO G dM f0 2000 h a I N B J) (h26 : ∀ x, B 26 x = false) (hM : mOK I N)  : Met l yX5_label wsX5_label ({ frames := 3, cells := 0, slots := 0, locals := 72 }) (va_Pc [.ref h] (fw_P G A f0)) (va_Qi (fun (r : Int32) (f1 : fw_F) => fw_fr f0 f1 2000 2035 ∧ ∃ I' B' J', isO G dM f1 2000 h a I' (va_up N 28 (gtM (N 7) (N 20) (B 21) (N 28) (I 9)).2) B' J' ∧ (∀ q, q ≠ 9 → q ≠ 29 → q ≠ 30 → q ≠ 31 → I' q = I q) ∧ I' 9 = 0 ∧ (∀ q, q ≠ 26 → q ≠ 32 → B' q = B q) ∧ (∀ x, B' 26 x = false) ∧ (∀ q, q ≠ 27 → q ≠ 33 → J' q = J q) ∧ lbC (gtA (N 7) (N 20) (B 21) (B 22) (N 28) (I 9)) (gtM (N 7) (N 20) (B 21) (N 28) (I 9)).1 (rsM I (va_up N 28 (gtM (N 7) (N 20) (B 21) (N 28) (I 9)).2) B J (gtM (N 7) (N 20) (B 21) (N 28) (I 9)).1) r (I' 29) (I' 30) (I' 31) (B' 32 0) (fun i j => J' 33 (8 * i + j))) (fw_B G A) A) 0 0 A := by
  refine q_head rfl (by decide) (Nat.le_of_ble_eq_true rfl) ?_
  intro p e s m below meth c ls C hr hlk hnm P hl
  have S := P.start
  have hl : lv_has ls 4 [(0, .ref h)] := hl
  have F := fw_fr_rf f0 2000 2035
  have hM0 := hM
  obtain ⟨⟨hm0, hm6, hm9, hm15, hm19⟩, ⟨hs1, hs2, hs3⟩, ⟨hP7, hk10, hk11, hk12⟩, hL, hF⟩ := hM
  have hnle := gtM_le (N 7) (N 20) (B 21) (N 28) (I 9)
  have hds : dst (gtM (N 7) (N 20) (B 21) (N 28) (I 9)).2 (gtM (N 7) (N 20) (B 21) (N 28) (I 9)).1 := gtM_dst (N 7) (N 20) (B 21) (N 28) (I 9)
  have hMc : mOK (va_up (va_up (va_up I 30 0) 29 0) 31 0) N := mOK_I hM0 hm0 hm6 hm9 hm15 hm19
  have hMt : mOK (va_up (va_up (va_up (va_up I 30 0) 29 0) 31 0) 9 0) (va_up N 28 (gtM (N 7) (N 20) (B 21) (N 28) (I 9)).2) := ⟨⟨hm0, hm6, (by show 0 ≤ 32; omega), hm15, hm19⟩, hM0.2.1, hM0.2.2.1, hL, gtM_lt hF hL _⟩
  refine lv_aload_n C.1 C.2.1 dX5_label_0 rfl (lv_at hl 0 rfl) ?_
  refine q_callQv (As := []) (rest := []) C S hl O.1 rfl (m_forget O) (cwV 0 C.2.2.2.2 gX5_label_X5_forget rfl rfl rfl (by decide +kernel) ⟨Nat.le_of_ble_eq_true rfl, Nat.le_of_ble_eq_true rfl⟩) rfl rfl (Nat.le_of_ble_eq_true rfl) ⟨Nat.le_of_ble_eq_true rfl, Nat.le_of_ble_eq_true rfl⟩ dX5_label_1 (fun f H locs hv S => ?_)
  obtain ⟨O, F1⟩ := hv
  have F := fw_fr_tr F F1
  refine lv_aload_n C.1 C.2.1 dX5_label_4 rfl (lv_at hl 0 rfl) ?_
  refine lv_iconst (v := nI 0) C.1 C.2.1 dX5_label_5 (by decide) ?_
  refine o_puti C S O F rfl inX5_label_X5 tyX5 tyX5_ok nmX5 31 (Nat.le_of_ble_eq_true rfl) rfl lkX5_label_149 rfl rfl ⟨by decide, by decide⟩ dX5_label_6 (fun f H locs S O F => ?_)
  refine lv_aload_n C.1 C.2.1 dX5_label_9 rfl (lv_at hl 0 rfl) ?_
  refine q_callQi (As := []) (rest := []) C S hl O.1 rfl (m_collect O hMc) (cwV 0 C.2.2.2.2 gX5_label_X5_collect rfl rfl rfl (by decide +kernel) ⟨Nat.le_of_ble_eq_true rfl, Nat.le_of_ble_eq_true rfl⟩) rfl rfl (Nat.le_of_ble_eq_true rfl) ⟨Nat.le_of_ble_eq_true rfl, Nat.le_of_ble_eq_true rfl⟩ dX5_label_10 (fun v f H locs hv S => ?_)
  obtain ⟨hr0, O, F1⟩ := hv
  have F := fw_fr_tr F F1
  have hr0 : v = (if gtA (N 7) (N 20) (B 21) (B 22) (N 28) (I 9) = true then nI (gtM (N 7) (N 20) (B 21) (N 28) (I 9)).1 else -1) := hr0
  by_cases hga : gtA (N 7) (N 20) (B 21) (B 22) (N 28) (I 9) = true
  · have hr1 : v = nI (gtM (N 7) (N 20) (B 21) (N 28) (I 9)).1 := by rw [hr0, if_pos hga]
    subst hr1
    refine lv_istore_n (lv' := [(1, .int (nI ((gtM (N 7) (N 20) (B 21) (N 28) (I 9)).1))), (0, .ref h)]) C.1 C.2.1 dX5_label_13 rfl hl (by decide) rfl (fun ls hl => ?_)
    refine lv_aload_n C.1 C.2.1 dX5_label_14 rfl (lv_at hl 1 rfl) ?_
    refine lv_iconst (v := nI 0) C.1 C.2.1 dX5_label_15 (by decide) ?_
    refine o_puti C S O F rfl inX5_label_X5 tyX5 tyX5_ok nmX5 9 (Nat.le_of_ble_eq_true rfl) rfl lkX5_label_136 rfl rfl ⟨by decide, by decide⟩ dX5_label_16 (fun f H locs S O F => ?_)
    refine lv_iload_n C.1 C.2.1 dX5_label_19 rfl (lv_at hl 0 rfl) ?_
    refine lv_iconst (v := (-1)) C.1 C.2.1 dX5_label_20 (by decide) ?_
    refine lv_icmp_eq (tgt := 30) C.1 C.2.1 dX5_label_21 (by decide) (fun c21 => ?_) (fun c21 => ?_)
    · exact absurd c21 (nI_m1 (by omega))
    · refine lv_iload_n C.1 C.2.1 dX5_label_24 rfl (lv_at hl 0 rfl) ?_
      refine lv_bipush (v := nI 8) C.1 C.2.1 dX5_label_25 (by decide) ?_
      refine q_le (tgt := 42) C (by omega) (by decide) dX5_label_27 (by decide) (fun c27 => ?_) (fun c27 => ?_)
      · refine lv_iload_n C.1 C.2.1 dX5_label_42 rfl (lv_at hl 0 rfl) ?_
        refine q_ifneN (tgt := 50) C (by omega) dX5_label_43 (by decide) (fun c43 => ?_) (fun c43 => ?_)
        · refine lv_aload_n C.1 C.2.1 dX5_label_50 rfl (lv_at hl 1 rfl) ?_
          refine lv_iload_n C.1 C.2.1 dX5_label_51 rfl (lv_at hl 0 rfl) ?_
          refine q_callQi (As := [.int (nI ((gtM (N 7) (N 20) (B 21) (N 28) (I 9)).1))]) (rest := []) C S hl O.1 rfl (m_tries O ((gtM (N 7) (N 20) (B 21) (N 28) (I 9)).1) (by omega) (by omega) hds h26 rfl hMt) (cwV 1 C.2.2.2.2 gX5_label_X5_tries rfl rfl rfl (by decide +kernel) ⟨Nat.le_of_ble_eq_true rfl, Nat.le_of_ble_eq_true rfl⟩) rfl rfl (Nat.le_of_ble_eq_true rfl) ⟨Nat.le_of_ble_eq_true rfl, Nat.le_of_ble_eq_true rfl⟩ dX5_label_52 (fun v f H locs hv S => ?_)
          obtain ⟨hr2, B5, J5, O, hB5, hB26, hJ5, hcs, F1⟩ := hv
          have F := fw_fr_tr F F1
          have hr2 : v = (rsM I (va_up N 28 (gtM (N 7) (N 20) (B 21) (N 28) (I 9)).2) B J (gtM (N 7) (N 20) (B 21) (N 28) (I 9)).1).1 := hr2
          rcases hcs with hcs | hcs | ⟨w9, hw9, hcs, hW9⟩
          · subst hcs
            refine lv_istore_n (lv' := [(2, .int (-3)), (1, .int (nI ((gtM (N 7) (N 20) (B 21) (N 28) (I 9)).1))), (0, .ref h)]) C.1 C.2.1 dX5_label_55 rfl hl (by decide) rfl (fun ls hl => ?_)
            refine lv_iconst (v := nI 0) C.1 C.2.1 dX5_label_56 (by decide) ?_
            refine lv_istore_n (lv' := [(3, .int (nI 0)), (2, .int (-3)), (1, .int (nI ((gtM (N 7) (N 20) (B 21) (N 28) (I 9)).1))), (0, .ref h)]) C.1 C.2.1 dX5_label_57 rfl hl (by decide) rfl (fun ls hl => ?_)
            have lp58 : ∀ (n58 : Nat) (z : Nat) (B6 : Nat → Nat → Bool), (gtM (N 7) (N 20) (B 21) (N 28) (I 9)).1 - z < n58 → (z ≤ (gtM (N 7) (N 20) (B 21) (N 28) (I 9)).1) → (∀ x, B6 26 x = true → ∃ j, z ≤ j ∧ j < (gtM (N 7) (N 20) (B 21) (N 28) (I 9)).1 ∧ x = (gtM (N 7) (N 20) (B 21) (N 28) (I 9)).2 j) → (∀ q, q ≠ 26 → B6 q = B5 q) → ∀ (f : fw_F) (H : Heap) (locs : List Loc) (ls : Array Slot), fw_S G A s f H locs → isO G dM f 2000 h a (va_up (va_up (va_up (va_up (va_up I 30 0) 29 0) 31 0) 9 0) 31 (rsM I (va_up N 28 (gtM (N 7) (N 20) (B 21) (N 28) (I 9)).2) B J (gtM (N 7) (N 20) (B 21) (N 28) (I 9)).1).2.1) (va_up N 28 (gtM (N 7) (N 20) (B 21) (N 28) (I 9)).2) B6 J5 → fw_fr f0 f 2000 2035 → lv_has ls 4 [(3, .int (nI z)), (2, .int (-3)), (1, .int (nI ((gtM (N 7) (N 20) (B 21) (N 28) (I 9)).1))), (0, .ref h)] → W p l e ({ frames := 3, cells := 0, slots := 0, locals := 72 }) s m [.ref h].toArray below meth c H locs 0 0 (MQ below (va_Qi (fun (r : Int32) (f1 : fw_F) => fw_fr f0 f1 2000 2035 ∧ ∃ I' B' J', isO G dM f1 2000 h a I' (va_up N 28 (gtM (N 7) (N 20) (B 21) (N 28) (I 9)).2) B' J' ∧ (∀ q, q ≠ 9 → q ≠ 29 → q ≠ 30 → q ≠ 31 → I' q = I q) ∧ I' 9 = 0 ∧ (∀ q, q ≠ 26 → q ≠ 32 → B' q = B q) ∧ (∀ x, B' 26 x = false) ∧ (∀ q, q ≠ 27 → q ≠ 33 → J' q = J q) ∧ lbC (gtA (N 7) (N 20) (B 21) (B 22) (N 28) (I 9)) (gtM (N 7) (N 20) (B 21) (N 28) (I 9)).1 (rsM I (va_up N 28 (gtM (N 7) (N 20) (B 21) (N 28) (I 9)).2) B J (gtM (N 7) (N 20) (B 21) (N 28) (I 9)).1) r (I' 29) (I' 30) (I' 31) (B' 32 0) (fun i j => J' 33 (8 * i + j))) (fw_B G A) A) [.ref h].toArray s 0 0 A) (F0 m 58 ls []) := by
              intro n58
              induction n58 with
              | zero => intro z B6 hme58; exact absurd hme58 (Nat.not_lt_zero _)
              | succ n58 ih58 =>
                intro z B6 hme58 hz hB6 hB6k f H locs ls S O F hl
                refine lv_iload_n C.1 C.2.1 dX5_label_58 rfl (lv_at hl 0 rfl) ?_
                refine lv_iload_n C.1 C.2.1 dX5_label_59 rfl (lv_at hl 2 rfl) ?_
                refine q_ge (tgt := 81) C (by omega) (by omega) dX5_label_60 (by decide) (fun c60 => ?_) (fun c60 => ?_)
                · have hB6f : ∀ x, B6 26 x = false := fun x => Bool.eq_false_iff.mpr (fun hx => by obtain ⟨j, j1, j2, j3⟩ := hB6 x hx; omega)
                  refine lv_iload_n C.1 C.2.1 dX5_label_81 rfl (lv_at hl 1 rfl) ?_
                  refine lv_if_ge (tgt := 92) C.1 C.2.1 dX5_label_82 (by decide) (fun c82 => ?_) (fun c82 => ?_)
                  · exact absurd c82 (by decide)
                  · refine lv_aload_n C.1 C.2.1 dX5_label_85 rfl (lv_at hl 3 rfl) ?_
                    refine lv_iconst (v := nI 0) C.1 C.2.1 dX5_label_86 (by decide) ?_
                    refine o_puti C S O F rfl inX5_label_X5 tyX5 tyX5_ok nmX5 30 (Nat.le_of_ble_eq_true rfl) rfl lkX5_label_143 rfl rfl ⟨by decide, by decide⟩ dX5_label_87 (fun f H locs S O F => ?_)
                    refine lv_iload_n C.1 C.2.1 dX5_label_90 rfl (lv_at hl 1 rfl) ?_
                    exact q_retQi C S hr hlk ⟨F, _, _, _, O, (fun q a1 a2 a3 a4 => by simp only [va_up, a1, a2, a3, a4, if_false]), rfl, (fun q a b => (hB6k q a).trans ((hB5 q a).trans (up_n b))), (fun x => hB6f x), hJ5, Or.inr (Or.inr (Or.inr (Or.inl ⟨hga, by omega, by omega, Or.inl hr2.symm, hr2, rfl, rfl, rfl, (congrFun ((hB6k 32 (by decide)).trans (hB5 32 (by decide))) 0)⟩)))⟩ dX5_label_91
                · refine lv_aload_n C.1 C.2.1 dX5_label_63 rfl (lv_at hl 3 rfl) ?_
                  refine o_get (v := .ref (a 26)) C S O rfl inX5_label_X5 26 (Nat.le_of_ble_eq_true rfl) lkX5_label_75 rfl dX5_label_64 ?_
                  refine lv_aload_n C.1 C.2.1 dX5_label_67 rfl (lv_at hl 3 rfl) ?_
                  refine o_get (v := .ref (a 28)) C S O rfl inX5_label_X5 28 (Nat.le_of_ble_eq_true rfl) lkX5_label_81 rfl dX5_label_68 ?_
                  refine lv_iload_n C.1 C.2.1 dX5_label_71 rfl (lv_at hl 0 rfl) ?_
                  refine o_nald (x := (gtM (N 7) (N 20) (B 21) (N 28) (I 9)).2 z) C S O 28 (Nat.le_of_ble_eq_true rfl) rfl z rfl (show z < 32 from by omega) (Nat.le_of_ble_eq_true rfl) rfl dX5_label_72 ?_
                  refine lv_iconst (v := bI false) C.1 C.2.1 dX5_label_73 (by decide) ?_
                  refine o_yast C S O F 26 (Nat.le_of_ble_eq_true rfl) rfl ((gtM (N 7) (N 20) (B 21) (N 28) (I 9)).2 z) rfl (show (gtM (N 7) (N 20) (B 21) (N 28) (I 9)).2 z < 64 from by exact gtM_lt hF hL _ _) (Nat.le_of_ble_eq_true rfl) ⟨by decide, by decide⟩ dX5_label_74 (fun f H locs S O F => ?_)
                  refine q_iinc (d := 1) (lv' := [(3, .int (nI (z + 1))), (2, .int (-3)), (1, .int (nI ((gtM (N 7) (N 20) (B 21) (N 28) (I 9)).1))), (0, .ref h)]) C dX5_label_75 hl (k := 0) rfl (by decide) (by decide) rfl (fun ls hl => ?_)
                  refine lv_goto (tgt := 58) C.1 C.2.1 dX5_label_78 (by decide) ?_
                  exact ih58 (z + 1) (va_up B6 26 (va_up (B6 26) ((gtM (N 7) (N 20) (B 21) (N 28) (I 9)).2 z) false)) (by omega) (by omega) (fun x hx => by have hx : va_up (B6 26) ((gtM (N 7) (N 20) (B 21) (N 28) (I 9)).2 z) false x = true := hx; by_cases q : x = (gtM (N 7) (N 20) (B 21) (N 28) (I 9)).2 z; rw [q, up_s] at hx; cases hx; rw [up_n q] at hx; obtain ⟨j, j1, j2, j3⟩ := hB6 x hx; exact ⟨j, by rcases Nat.lt_or_ge z j with a1 | a1; omega; exact absurd (by rw [j3, show j = z by omega]) q, j2, j3⟩) (fun q hq => by rw [up_n hq]; exact hB6k q hq) _ _ _ _ S O F (lv_sub hl [0, 1, 2, 3] rfl)
            exact lp58 ((gtM (N 7) (N 20) (B 21) (N 28) (I 9)).1 + 1) 0 B5 (by omega) (by omega) (fun x hx => by obtain ⟨j, j1, j2⟩ := hB26 x hx; exact ⟨j, Nat.zero_le j, j1, j2⟩) (fun _ _ => rfl) _ _ _ _ S O F (lv_sub hl [0, 1, 2, 3] rfl)
          · subst hcs
            refine lv_istore_n (lv' := [(2, .int (-4)), (1, .int (nI ((gtM (N 7) (N 20) (B 21) (N 28) (I 9)).1))), (0, .ref h)]) C.1 C.2.1 dX5_label_55 rfl hl (by decide) rfl (fun ls hl => ?_)
            refine lv_iconst (v := nI 0) C.1 C.2.1 dX5_label_56 (by decide) ?_
            refine lv_istore_n (lv' := [(3, .int (nI 0)), (2, .int (-4)), (1, .int (nI ((gtM (N 7) (N 20) (B 21) (N 28) (I 9)).1))), (0, .ref h)]) C.1 C.2.1 dX5_label_57 rfl hl (by decide) rfl (fun ls hl => ?_)
            have lp58 : ∀ (n58 : Nat) (z : Nat) (B6 : Nat → Nat → Bool), (gtM (N 7) (N 20) (B 21) (N 28) (I 9)).1 - z < n58 → (z ≤ (gtM (N 7) (N 20) (B 21) (N 28) (I 9)).1) → (∀ x, B6 26 x = true → ∃ j, z ≤ j ∧ j < (gtM (N 7) (N 20) (B 21) (N 28) (I 9)).1 ∧ x = (gtM (N 7) (N 20) (B 21) (N 28) (I 9)).2 j) → (∀ q, q ≠ 26 → B6 q = B5 q) → ∀ (f : fw_F) (H : Heap) (locs : List Loc) (ls : Array Slot), fw_S G A s f H locs → isO G dM f 2000 h a (va_up (va_up (va_up (va_up (va_up I 30 0) 29 0) 31 0) 9 0) 31 (rsM I (va_up N 28 (gtM (N 7) (N 20) (B 21) (N 28) (I 9)).2) B J (gtM (N 7) (N 20) (B 21) (N 28) (I 9)).1).2.1) (va_up N 28 (gtM (N 7) (N 20) (B 21) (N 28) (I 9)).2) B6 J5 → fw_fr f0 f 2000 2035 → lv_has ls 4 [(3, .int (nI z)), (2, .int (-4)), (1, .int (nI ((gtM (N 7) (N 20) (B 21) (N 28) (I 9)).1))), (0, .ref h)] → W p l e ({ frames := 3, cells := 0, slots := 0, locals := 72 }) s m [.ref h].toArray below meth c H locs 0 0 (MQ below (va_Qi (fun (r : Int32) (f1 : fw_F) => fw_fr f0 f1 2000 2035 ∧ ∃ I' B' J', isO G dM f1 2000 h a I' (va_up N 28 (gtM (N 7) (N 20) (B 21) (N 28) (I 9)).2) B' J' ∧ (∀ q, q ≠ 9 → q ≠ 29 → q ≠ 30 → q ≠ 31 → I' q = I q) ∧ I' 9 = 0 ∧ (∀ q, q ≠ 26 → q ≠ 32 → B' q = B q) ∧ (∀ x, B' 26 x = false) ∧ (∀ q, q ≠ 27 → q ≠ 33 → J' q = J q) ∧ lbC (gtA (N 7) (N 20) (B 21) (B 22) (N 28) (I 9)) (gtM (N 7) (N 20) (B 21) (N 28) (I 9)).1 (rsM I (va_up N 28 (gtM (N 7) (N 20) (B 21) (N 28) (I 9)).2) B J (gtM (N 7) (N 20) (B 21) (N 28) (I 9)).1) r (I' 29) (I' 30) (I' 31) (B' 32 0) (fun i j => J' 33 (8 * i + j))) (fw_B G A) A) [.ref h].toArray s 0 0 A) (F0 m 58 ls []) := by
              intro n58
              induction n58 with
              | zero => intro z B6 hme58; exact absurd hme58 (Nat.not_lt_zero _)
              | succ n58 ih58 =>
                intro z B6 hme58 hz hB6 hB6k f H locs ls S O F hl
                refine lv_iload_n C.1 C.2.1 dX5_label_58 rfl (lv_at hl 0 rfl) ?_
                refine lv_iload_n C.1 C.2.1 dX5_label_59 rfl (lv_at hl 2 rfl) ?_
                refine q_ge (tgt := 81) C (by omega) (by omega) dX5_label_60 (by decide) (fun c60 => ?_) (fun c60 => ?_)
                · have hB6f : ∀ x, B6 26 x = false := fun x => Bool.eq_false_iff.mpr (fun hx => by obtain ⟨j, j1, j2, j3⟩ := hB6 x hx; omega)
                  refine lv_iload_n C.1 C.2.1 dX5_label_81 rfl (lv_at hl 1 rfl) ?_
                  refine lv_if_ge (tgt := 92) C.1 C.2.1 dX5_label_82 (by decide) (fun c82 => ?_) (fun c82 => ?_)
                  · exact absurd c82 (by decide)
                  · refine lv_aload_n C.1 C.2.1 dX5_label_85 rfl (lv_at hl 3 rfl) ?_
                    refine lv_iconst (v := nI 0) C.1 C.2.1 dX5_label_86 (by decide) ?_
                    refine o_puti C S O F rfl inX5_label_X5 tyX5 tyX5_ok nmX5 30 (Nat.le_of_ble_eq_true rfl) rfl lkX5_label_143 rfl rfl ⟨by decide, by decide⟩ dX5_label_87 (fun f H locs S O F => ?_)
                    refine lv_iload_n C.1 C.2.1 dX5_label_90 rfl (lv_at hl 1 rfl) ?_
                    exact q_retQi C S hr hlk ⟨F, _, _, _, O, (fun q a1 a2 a3 a4 => by simp only [va_up, a1, a2, a3, a4, if_false]), rfl, (fun q a b => (hB6k q a).trans ((hB5 q a).trans (up_n b))), (fun x => hB6f x), hJ5, Or.inr (Or.inr (Or.inr (Or.inl ⟨hga, by omega, by omega, Or.inr hr2.symm, hr2, rfl, rfl, rfl, (congrFun ((hB6k 32 (by decide)).trans (hB5 32 (by decide))) 0)⟩)))⟩ dX5_label_91
                · refine lv_aload_n C.1 C.2.1 dX5_label_63 rfl (lv_at hl 3 rfl) ?_
                  refine o_get (v := .ref (a 26)) C S O rfl inX5_label_X5 26 (Nat.le_of_ble_eq_true rfl) lkX5_label_75 rfl dX5_label_64 ?_
                  refine lv_aload_n C.1 C.2.1 dX5_label_67 rfl (lv_at hl 3 rfl) ?_
                  refine o_get (v := .ref (a 28)) C S O rfl inX5_label_X5 28 (Nat.le_of_ble_eq_true rfl) lkX5_label_81 rfl dX5_label_68 ?_
                  refine lv_iload_n C.1 C.2.1 dX5_label_71 rfl (lv_at hl 0 rfl) ?_
                  refine o_nald (x := (gtM (N 7) (N 20) (B 21) (N 28) (I 9)).2 z) C S O 28 (Nat.le_of_ble_eq_true rfl) rfl z rfl (show z < 32 from by omega) (Nat.le_of_ble_eq_true rfl) rfl dX5_label_72 ?_
                  refine lv_iconst (v := bI false) C.1 C.2.1 dX5_label_73 (by decide) ?_
                  refine o_yast C S O F 26 (Nat.le_of_ble_eq_true rfl) rfl ((gtM (N 7) (N 20) (B 21) (N 28) (I 9)).2 z) rfl (show (gtM (N 7) (N 20) (B 21) (N 28) (I 9)).2 z < 64 from by exact gtM_lt hF hL _ _) (Nat.le_of_ble_eq_true rfl) ⟨by decide, by decide⟩ dX5_label_74 (fun f H locs S O F => ?_)
                  refine q_iinc (d := 1) (lv' := [(3, .int (nI (z + 1))), (2, .int (-4)), (1, .int (nI ((gtM (N 7) (N 20) (B 21) (N 28) (I 9)).1))), (0, .ref h)]) C dX5_label_75 hl (k := 0) rfl (by decide) (by decide) rfl (fun ls hl => ?_)
                  refine lv_goto (tgt := 58) C.1 C.2.1 dX5_label_78 (by decide) ?_
                  exact ih58 (z + 1) (va_up B6 26 (va_up (B6 26) ((gtM (N 7) (N 20) (B 21) (N 28) (I 9)).2 z) false)) (by omega) (by omega) (fun x hx => by have hx : va_up (B6 26) ((gtM (N 7) (N 20) (B 21) (N 28) (I 9)).2 z) false x = true := hx; by_cases q : x = (gtM (N 7) (N 20) (B 21) (N 28) (I 9)).2 z; rw [q, up_s] at hx; cases hx; rw [up_n q] at hx; obtain ⟨j, j1, j2, j3⟩ := hB6 x hx; exact ⟨j, by rcases Nat.lt_or_ge z j with a1 | a1; omega; exact absurd (by rw [j3, show j = z by omega]) q, j2, j3⟩) (fun q hq => by rw [up_n hq]; exact hB6k q hq) _ _ _ _ S O F (lv_sub hl [0, 1, 2, 3] rfl)
            exact lp58 ((gtM (N 7) (N 20) (B 21) (N 28) (I 9)).1 + 1) 0 B5 (by omega) (by omega) (fun x hx => by obtain ⟨j, j1, j2⟩ := hB26 x hx; exact ⟨j, Nat.zero_le j, j1, j2⟩) (fun _ _ => rfl) _ _ _ _ S O F (lv_sub hl [0, 1, 2, 3] rfl)
          · subst hcs
            refine lv_istore_n (lv' := [(2, .int (nI w9)), (1, .int (nI ((gtM (N 7) (N 20) (B 21) (N 28) (I 9)).1))), (0, .ref h)]) C.1 C.2.1 dX5_label_55 rfl hl (by decide) rfl (fun ls hl => ?_)
            refine lv_iconst (v := nI 0) C.1 C.2.1 dX5_label_56 (by decide) ?_
            refine lv_istore_n (lv' := [(3, .int (nI 0)), (2, .int (nI w9)), (1, .int (nI ((gtM (N 7) (N 20) (B 21) (N 28) (I 9)).1))), (0, .ref h)]) C.1 C.2.1 dX5_label_57 rfl hl (by decide) rfl (fun ls hl => ?_)
            have lp58 : ∀ (n58 : Nat) (z : Nat) (B6 : Nat → Nat → Bool), (gtM (N 7) (N 20) (B 21) (N 28) (I 9)).1 - z < n58 → (z ≤ (gtM (N 7) (N 20) (B 21) (N 28) (I 9)).1) → (∀ x, B6 26 x = true → ∃ j, z ≤ j ∧ j < (gtM (N 7) (N 20) (B 21) (N 28) (I 9)).1 ∧ x = (gtM (N 7) (N 20) (B 21) (N 28) (I 9)).2 j) → (∀ q, q ≠ 26 → B6 q = B5 q) → ∀ (f : fw_F) (H : Heap) (locs : List Loc) (ls : Array Slot), fw_S G A s f H locs → isO G dM f 2000 h a (va_up (va_up (va_up (va_up (va_up I 30 0) 29 0) 31 0) 9 0) 31 (rsM I (va_up N 28 (gtM (N 7) (N 20) (B 21) (N 28) (I 9)).2) B J (gtM (N 7) (N 20) (B 21) (N 28) (I 9)).1).2.1) (va_up N 28 (gtM (N 7) (N 20) (B 21) (N 28) (I 9)).2) B6 J5 → fw_fr f0 f 2000 2035 → lv_has ls 4 [(3, .int (nI z)), (2, .int (nI w9)), (1, .int (nI ((gtM (N 7) (N 20) (B 21) (N 28) (I 9)).1))), (0, .ref h)] → W p l e ({ frames := 3, cells := 0, slots := 0, locals := 72 }) s m [.ref h].toArray below meth c H locs 0 0 (MQ below (va_Qi (fun (r : Int32) (f1 : fw_F) => fw_fr f0 f1 2000 2035 ∧ ∃ I' B' J', isO G dM f1 2000 h a I' (va_up N 28 (gtM (N 7) (N 20) (B 21) (N 28) (I 9)).2) B' J' ∧ (∀ q, q ≠ 9 → q ≠ 29 → q ≠ 30 → q ≠ 31 → I' q = I q) ∧ I' 9 = 0 ∧ (∀ q, q ≠ 26 → q ≠ 32 → B' q = B q) ∧ (∀ x, B' 26 x = false) ∧ (∀ q, q ≠ 27 → q ≠ 33 → J' q = J q) ∧ lbC (gtA (N 7) (N 20) (B 21) (B 22) (N 28) (I 9)) (gtM (N 7) (N 20) (B 21) (N 28) (I 9)).1 (rsM I (va_up N 28 (gtM (N 7) (N 20) (B 21) (N 28) (I 9)).2) B J (gtM (N 7) (N 20) (B 21) (N 28) (I 9)).1) r (I' 29) (I' 30) (I' 31) (B' 32 0) (fun i j => J' 33 (8 * i + j))) (fw_B G A) A) [.ref h].toArray s 0 0 A) (F0 m 58 ls []) := by
              intro n58
              induction n58 with
              | zero => intro z B6 hme58; exact absurd hme58 (Nat.not_lt_zero _)
              | succ n58 ih58 =>
                intro z B6 hme58 hz hB6 hB6k f H locs ls S O F hl
                refine lv_iload_n C.1 C.2.1 dX5_label_58 rfl (lv_at hl 0 rfl) ?_
                refine lv_iload_n C.1 C.2.1 dX5_label_59 rfl (lv_at hl 2 rfl) ?_
                refine q_ge (tgt := 81) C (by omega) (by omega) dX5_label_60 (by decide) (fun c60 => ?_) (fun c60 => ?_)
                · have hB6f : ∀ x, B6 26 x = false := fun x => Bool.eq_false_iff.mpr (fun hx => by obtain ⟨j, j1, j2, j3⟩ := hB6 x hx; omega)
                  refine lv_iload_n C.1 C.2.1 dX5_label_81 rfl (lv_at hl 1 rfl) ?_
                  refine lv_if_ge (tgt := 92) C.1 C.2.1 dX5_label_82 (by decide) (fun c82 => ?_) (fun c82 => ?_)
                  · refine lv_aload_n C.1 C.2.1 dX5_label_92 rfl (lv_at hl 3 rfl) ?_
                    refine lv_iload_n C.1 C.2.1 dX5_label_93 rfl (lv_at hl 1 rfl) ?_
                    refine o_puti C S O F rfl inX5_label_X5 tyX5 tyX5_ok nmX5 30 (Nat.le_of_ble_eq_true rfl) rfl lkX5_label_143 rfl rfl ⟨by decide, by decide⟩ dX5_label_94 (fun f H locs S O F => ?_)
                    refine lv_aload_n C.1 C.2.1 dX5_label_97 rfl (lv_at hl 3 rfl) ?_
                    refine lv_iload_n C.1 C.2.1 dX5_label_98 rfl (lv_at hl 2 rfl) ?_
                    refine o_puti C S O F rfl inX5_label_X5 tyX5 tyX5_ok nmX5 29 (Nat.le_of_ble_eq_true rfl) rfl lkX5_label_146 rfl rfl ⟨by decide, by decide⟩ dX5_label_99 (fun f H locs S O F => ?_)
                    refine lv_aload_n C.1 C.2.1 dX5_label_102 rfl (lv_at hl 3 rfl) ?_
                    refine lv_iconst (v := bI true) C.1 C.2.1 dX5_label_103 (by decide) ?_
                    refine o_putz C S O F rfl inX5_label_X5 tyX5 tyX5_ok nmX5 32 (Nat.le_of_ble_eq_true rfl) rfl lkX5_label_139 rfl rfl ⟨by decide, by decide⟩ dX5_label_104 (fun f H locs S O F => ?_)
                    refine lv_aload_n C.1 C.2.1 dX5_label_107 rfl (lv_at hl 3 rfl) ?_
                    refine o_get (v := .int (nI w9)) C S O rfl inX5_label_X5 30 (Nat.le_of_ble_eq_true rfl) lkX5_label_143 rfl dX5_label_108 ?_
                    exact q_retQi C S hr hlk ⟨F, _, _, _, O, (fun q a1 a2 a3 a4 => by simp only [va_up, a1, a2, a3, a4, if_false]), rfl, (fun q a b => (up_n b).trans ((hB6k q a).trans ((hB5 q a).trans (up_n b)))), (fun x => hB6f x), hJ5, Or.inr (Or.inr (Or.inr (Or.inr ⟨hga, by omega, by omega, w9, hw9, hr2.symm, rfl, rfl, rfl, rfl, rfl, hW9⟩)))⟩ dX5_label_111
                  · exact absurd (nI_pos' (by omega)) c82
                · refine lv_aload_n C.1 C.2.1 dX5_label_63 rfl (lv_at hl 3 rfl) ?_
                  refine o_get (v := .ref (a 26)) C S O rfl inX5_label_X5 26 (Nat.le_of_ble_eq_true rfl) lkX5_label_75 rfl dX5_label_64 ?_
                  refine lv_aload_n C.1 C.2.1 dX5_label_67 rfl (lv_at hl 3 rfl) ?_
                  refine o_get (v := .ref (a 28)) C S O rfl inX5_label_X5 28 (Nat.le_of_ble_eq_true rfl) lkX5_label_81 rfl dX5_label_68 ?_
                  refine lv_iload_n C.1 C.2.1 dX5_label_71 rfl (lv_at hl 0 rfl) ?_
                  refine o_nald (x := (gtM (N 7) (N 20) (B 21) (N 28) (I 9)).2 z) C S O 28 (Nat.le_of_ble_eq_true rfl) rfl z rfl (show z < 32 from by omega) (Nat.le_of_ble_eq_true rfl) rfl dX5_label_72 ?_
                  refine lv_iconst (v := bI false) C.1 C.2.1 dX5_label_73 (by decide) ?_
                  refine o_yast C S O F 26 (Nat.le_of_ble_eq_true rfl) rfl ((gtM (N 7) (N 20) (B 21) (N 28) (I 9)).2 z) rfl (show (gtM (N 7) (N 20) (B 21) (N 28) (I 9)).2 z < 64 from by exact gtM_lt hF hL _ _) (Nat.le_of_ble_eq_true rfl) ⟨by decide, by decide⟩ dX5_label_74 (fun f H locs S O F => ?_)
                  refine q_iinc (d := 1) (lv' := [(3, .int (nI (z + 1))), (2, .int (nI w9)), (1, .int (nI ((gtM (N 7) (N 20) (B 21) (N 28) (I 9)).1))), (0, .ref h)]) C dX5_label_75 hl (k := 0) rfl (by decide) (by decide) rfl (fun ls hl => ?_)
                  refine lv_goto (tgt := 58) C.1 C.2.1 dX5_label_78 (by decide) ?_
                  exact ih58 (z + 1) (va_up B6 26 (va_up (B6 26) ((gtM (N 7) (N 20) (B 21) (N 28) (I 9)).2 z) false)) (by omega) (by omega) (fun x hx => by have hx : va_up (B6 26) ((gtM (N 7) (N 20) (B 21) (N 28) (I 9)).2 z) false x = true := hx; by_cases q : x = (gtM (N 7) (N 20) (B 21) (N 28) (I 9)).2 z; rw [q, up_s] at hx; cases hx; rw [up_n q] at hx; obtain ⟨j, j1, j2, j3⟩ := hB6 x hx; exact ⟨j, by rcases Nat.lt_or_ge z j with a1 | a1; omega; exact absurd (by rw [j3, show j = z by omega]) q, j2, j3⟩) (fun q hq => by rw [up_n hq]; exact hB6k q hq) _ _ _ _ S O F (lv_sub hl [0, 1, 2, 3] rfl)
            exact lp58 ((gtM (N 7) (N 20) (B 21) (N 28) (I 9)).1 + 1) 0 B5 (by omega) (by omega) (fun x hx => by obtain ⟨j, j1, j2⟩ := hB26 x hx; exact ⟨j, Nat.zero_le j, j1, j2⟩) (fun _ _ => rfl) _ _ _ _ S O F (lv_sub hl [0, 1, 2, 3] rfl)
        · refine lv_iconst (v := nI 1) C.1 C.2.1 dX5_label_46 (by decide) ?_
          refine lv_goto (tgt := 55) C.1 C.2.1 dX5_label_47 (by decide) ?_
          refine lv_istore_n (lv' := [(2, .int (nI 1)), (1, .int (nI ((gtM (N 7) (N 20) (B 21) (N 28) (I 9)).1))), (0, .ref h)]) C.1 C.2.1 dX5_label_55 rfl hl (by decide) rfl (fun ls hl => ?_)
          refine lv_iconst (v := nI 0) C.1 C.2.1 dX5_label_56 (by decide) ?_
          refine lv_istore_n (lv' := [(3, .int (nI 0)), (2, .int (nI 1)), (1, .int (nI ((gtM (N 7) (N 20) (B 21) (N 28) (I 9)).1))), (0, .ref h)]) C.1 C.2.1 dX5_label_57 rfl hl (by decide) rfl (fun ls hl => ?_)
          have lp58 : ∀ (n58 : Nat) (z : Nat) (B6 : Nat → Nat → Bool), (gtM (N 7) (N 20) (B 21) (N 28) (I 9)).1 - z < n58 → (z ≤ (gtM (N 7) (N 20) (B 21) (N 28) (I 9)).1) → (∀ x, B6 26 x = true → ∃ j, z ≤ j ∧ j < (gtM (N 7) (N 20) (B 21) (N 28) (I 9)).1 ∧ x = (gtM (N 7) (N 20) (B 21) (N 28) (I 9)).2 j) → (∀ q, q ≠ 26 → B6 q = (va_up B 32 (fun _ => false)) q) → ∀ (f : fw_F) (H : Heap) (locs : List Loc) (ls : Array Slot), fw_S G A s f H locs → isO G dM f 2000 h a (va_up (va_up (va_up (va_up I 30 0) 29 0) 31 0) 9 0) (va_up N 28 (gtM (N 7) (N 20) (B 21) (N 28) (I 9)).2) B6 J → fw_fr f0 f 2000 2035 → lv_has ls 4 [(3, .int (nI z)), (2, .int (nI 1)), (1, .int (nI ((gtM (N 7) (N 20) (B 21) (N 28) (I 9)).1))), (0, .ref h)] → W p l e ({ frames := 3, cells := 0, slots := 0, locals := 72 }) s m [.ref h].toArray below meth c H locs 0 0 (MQ below (va_Qi (fun (r : Int32) (f1 : fw_F) => fw_fr f0 f1 2000 2035 ∧ ∃ I' B' J', isO G dM f1 2000 h a I' (va_up N 28 (gtM (N 7) (N 20) (B 21) (N 28) (I 9)).2) B' J' ∧ (∀ q, q ≠ 9 → q ≠ 29 → q ≠ 30 → q ≠ 31 → I' q = I q) ∧ I' 9 = 0 ∧ (∀ q, q ≠ 26 → q ≠ 32 → B' q = B q) ∧ (∀ x, B' 26 x = false) ∧ (∀ q, q ≠ 27 → q ≠ 33 → J' q = J q) ∧ lbC (gtA (N 7) (N 20) (B 21) (B 22) (N 28) (I 9)) (gtM (N 7) (N 20) (B 21) (N 28) (I 9)).1 (rsM I (va_up N 28 (gtM (N 7) (N 20) (B 21) (N 28) (I 9)).2) B J (gtM (N 7) (N 20) (B 21) (N 28) (I 9)).1) r (I' 29) (I' 30) (I' 31) (B' 32 0) (fun i j => J' 33 (8 * i + j))) (fw_B G A) A) [.ref h].toArray s 0 0 A) (F0 m 58 ls []) := by
            intro n58
            induction n58 with
            | zero => intro z B6 hme58; exact absurd hme58 (Nat.not_lt_zero _)
            | succ n58 ih58 =>
              intro z B6 hme58 hz hB6 hB6k f H locs ls S O F hl
              refine lv_iload_n C.1 C.2.1 dX5_label_58 rfl (lv_at hl 0 rfl) ?_
              refine lv_iload_n C.1 C.2.1 dX5_label_59 rfl (lv_at hl 2 rfl) ?_
              refine q_ge (tgt := 81) C (by omega) (by omega) dX5_label_60 (by decide) (fun c60 => ?_) (fun c60 => ?_)
              · have hB6f : ∀ x, B6 26 x = false := fun x => Bool.eq_false_iff.mpr (fun hx => by obtain ⟨j, j1, j2, j3⟩ := hB6 x hx; omega)
                refine lv_iload_n C.1 C.2.1 dX5_label_81 rfl (lv_at hl 1 rfl) ?_
                refine lv_if_ge (tgt := 92) C.1 C.2.1 dX5_label_82 (by decide) (fun c82 => ?_) (fun c82 => ?_)
                · refine lv_aload_n C.1 C.2.1 dX5_label_92 rfl (lv_at hl 3 rfl) ?_
                  refine lv_iload_n C.1 C.2.1 dX5_label_93 rfl (lv_at hl 1 rfl) ?_
                  refine o_puti C S O F rfl inX5_label_X5 tyX5 tyX5_ok nmX5 30 (Nat.le_of_ble_eq_true rfl) rfl lkX5_label_143 rfl rfl ⟨by decide, by decide⟩ dX5_label_94 (fun f H locs S O F => ?_)
                  refine lv_aload_n C.1 C.2.1 dX5_label_97 rfl (lv_at hl 3 rfl) ?_
                  refine lv_iload_n C.1 C.2.1 dX5_label_98 rfl (lv_at hl 2 rfl) ?_
                  refine o_puti C S O F rfl inX5_label_X5 tyX5 tyX5_ok nmX5 29 (Nat.le_of_ble_eq_true rfl) rfl lkX5_label_146 rfl rfl ⟨by decide, by decide⟩ dX5_label_99 (fun f H locs S O F => ?_)
                  refine lv_aload_n C.1 C.2.1 dX5_label_102 rfl (lv_at hl 3 rfl) ?_
                  refine lv_iconst (v := bI true) C.1 C.2.1 dX5_label_103 (by decide) ?_
                  refine o_putz C S O F rfl inX5_label_X5 tyX5 tyX5_ok nmX5 32 (Nat.le_of_ble_eq_true rfl) rfl lkX5_label_139 rfl rfl ⟨by decide, by decide⟩ dX5_label_104 (fun f H locs S O F => ?_)
                  refine lv_aload_n C.1 C.2.1 dX5_label_107 rfl (lv_at hl 3 rfl) ?_
                  refine o_get (v := .int (nI 1)) C S O rfl inX5_label_X5 30 (Nat.le_of_ble_eq_true rfl) lkX5_label_143 rfl dX5_label_108 ?_
                  exact q_retQi C S hr hlk ⟨F, _, _, _, O, (fun q a1 a2 a3 a4 => by simp only [va_up, a1, a2, a3, a4, if_false]), rfl, (fun q a b => (up_n b).trans ((hB6k q a).trans (up_n b))), (fun x => hB6f x), (fun q _ _ => rfl), Or.inr (Or.inr (Or.inl ⟨hga, c43, rfl, c43, rfl, rfl, rfl⟩))⟩ dX5_label_111
                · exact absurd (by decide) c82
              · refine lv_aload_n C.1 C.2.1 dX5_label_63 rfl (lv_at hl 3 rfl) ?_
                refine o_get (v := .ref (a 26)) C S O rfl inX5_label_X5 26 (Nat.le_of_ble_eq_true rfl) lkX5_label_75 rfl dX5_label_64 ?_
                refine lv_aload_n C.1 C.2.1 dX5_label_67 rfl (lv_at hl 3 rfl) ?_
                refine o_get (v := .ref (a 28)) C S O rfl inX5_label_X5 28 (Nat.le_of_ble_eq_true rfl) lkX5_label_81 rfl dX5_label_68 ?_
                refine lv_iload_n C.1 C.2.1 dX5_label_71 rfl (lv_at hl 0 rfl) ?_
                refine o_nald (x := (gtM (N 7) (N 20) (B 21) (N 28) (I 9)).2 z) C S O 28 (Nat.le_of_ble_eq_true rfl) rfl z rfl (show z < 32 from by omega) (Nat.le_of_ble_eq_true rfl) rfl dX5_label_72 ?_
                refine lv_iconst (v := bI false) C.1 C.2.1 dX5_label_73 (by decide) ?_
                refine o_yast C S O F 26 (Nat.le_of_ble_eq_true rfl) rfl ((gtM (N 7) (N 20) (B 21) (N 28) (I 9)).2 z) rfl (show (gtM (N 7) (N 20) (B 21) (N 28) (I 9)).2 z < 64 from by exact gtM_lt hF hL _ _) (Nat.le_of_ble_eq_true rfl) ⟨by decide, by decide⟩ dX5_label_74 (fun f H locs S O F => ?_)
                refine q_iinc (d := 1) (lv' := [(3, .int (nI (z + 1))), (2, .int (nI 1)), (1, .int (nI ((gtM (N 7) (N 20) (B 21) (N 28) (I 9)).1))), (0, .ref h)]) C dX5_label_75 hl (k := 0) rfl (by decide) (by decide) rfl (fun ls hl => ?_)
                refine lv_goto (tgt := 58) C.1 C.2.1 dX5_label_78 (by decide) ?_
                exact ih58 (z + 1) (va_up B6 26 (va_up (B6 26) ((gtM (N 7) (N 20) (B 21) (N 28) (I 9)).2 z) false)) (by omega) (by omega) (fun x hx => by have hx : va_up (B6 26) ((gtM (N 7) (N 20) (B 21) (N 28) (I 9)).2 z) false x = true := hx; by_cases q : x = (gtM (N 7) (N 20) (B 21) (N 28) (I 9)).2 z; rw [q, up_s] at hx; cases hx; rw [up_n q] at hx; obtain ⟨j, j1, j2, j3⟩ := hB6 x hx; exact ⟨j, by rcases Nat.lt_or_ge z j with a1 | a1; omega; exact absurd (by rw [j3, show j = z by omega]) q, j2, j3⟩) (fun q hq => by rw [up_n hq]; exact hB6k q hq) _ _ _ _ S O F (lv_sub hl [0, 1, 2, 3] rfl)
          exact lp58 ((gtM (N 7) (N 20) (B 21) (N 28) (I 9)).1 + 1) 0 (va_up B 32 (fun _ => false)) (by omega) (by omega) (fun x hx => absurd hx (by rw [show (va_up B 32 (fun _ => false)) 26 x = B 26 x from rfl, h26 x]; decide)) (fun _ _ => rfl) _ _ _ _ S O F (lv_sub hl [0, 1, 2, 3] rfl)
      · refine lv_iload_n C.1 C.2.1 dX5_label_30 rfl (lv_at hl 0 rfl) ?_
        refine lv_iconst (v := (-1)) C.1 C.2.1 dX5_label_31 (by decide) ?_
        refine lv_icmp_ne (tgt := 39) C.1 C.2.1 dX5_label_32 (by decide) (fun c32 => ?_) (fun c32 => ?_)
        · refine lv_bipush (v := (-2)) C.1 C.2.1 dX5_label_39 (by decide) ?_
          exact q_retQi C S hr hlk ⟨F, _, _, _, O, (fun q a1 a2 a3 a4 => by simp only [va_up, a1, a2, a3, a4, if_false]), rfl, (fun q _ b => up_n b), h26, (fun q _ _ => rfl), Or.inr (Or.inl ⟨hga, c27, rfl, rfl, rfl, rfl, rfl⟩)⟩ dX5_label_41
        · exact absurd c32 (nI_m1 (by omega))
  · have hr1 : v = (-1) := by rw [hr0, if_neg hga]
    subst hr1
    refine lv_istore_n (lv' := [(1, .int (-1)), (0, .ref h)]) C.1 C.2.1 dX5_label_13 rfl hl (by decide) rfl (fun ls hl => ?_)
    refine lv_aload_n C.1 C.2.1 dX5_label_14 rfl (lv_at hl 1 rfl) ?_
    refine lv_iconst (v := nI 0) C.1 C.2.1 dX5_label_15 (by decide) ?_
    refine o_puti C S O F rfl inX5_label_X5 tyX5 tyX5_ok nmX5 9 (Nat.le_of_ble_eq_true rfl) rfl lkX5_label_136 rfl rfl ⟨by decide, by decide⟩ dX5_label_16 (fun f H locs S O F => ?_)
    refine lv_iload_n C.1 C.2.1 dX5_label_19 rfl (lv_at hl 0 rfl) ?_
    refine lv_iconst (v := (-1)) C.1 C.2.1 dX5_label_20 (by decide) ?_
    refine lv_icmp_eq (tgt := 30) C.1 C.2.1 dX5_label_21 (by decide) (fun c21 => ?_) (fun c21 => ?_)
    · refine lv_iload_n C.1 C.2.1 dX5_label_30 rfl (lv_at hl 0 rfl) ?_
      refine lv_iconst (v := (-1)) C.1 C.2.1 dX5_label_31 (by decide) ?_
      refine lv_icmp_ne (tgt := 39) C.1 C.2.1 dX5_label_32 (by decide) (fun c32 => ?_) (fun c32 => ?_)
      · exact absurd rfl c32
      · refine lv_iconst (v := (-1)) C.1 C.2.1 dX5_label_35 (by decide) ?_
        refine lv_goto (tgt := 41) C.1 C.2.1 dX5_label_36 (by decide) ?_
        exact q_retQi C S hr hlk ⟨F, _, _, _, O, (fun q a1 a2 a3 a4 => by simp only [va_up, a1, a2, a3, a4, if_false]), rfl, (fun q _ b => up_n b), h26, (fun q _ _ => rfl), Or.inl ⟨eq_false_of_ne_true hga, rfl, rfl, rfl, rfl, rfl⟩⟩ dX5_label_41
    · exact absurd rfl c21
