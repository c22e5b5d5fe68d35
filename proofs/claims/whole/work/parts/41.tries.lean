theorem inX5_tries_X5 : ∀ w ∈ u_ws RX5 TX5 34, w ∈ wsX5_tries := (fun _ h => (List.mem_cons_of_mem _ (List.mem_append_right _ h)))
theorem lkX5_tries_78 : Cond.fieldLink RX5 78 (TX5 27).1 (TX5 27).2.1 (TX5 27).2.2.1 ∈ wsX5_tries := List.mem_of_getElem? (i := 1) rfl
theorem lkX5_tries_81 : Cond.fieldLink RX5 81 (TX5 28).1 (TX5 28).2.1 (TX5 28).2.2.1 ∈ wsX5_tries := List.mem_of_getElem? (i := 2) rfl
theorem lkX5_tries_69 : Cond.fieldLink RX5 69 (TX5 24).1 (TX5 24).2.1 (TX5 24).2.2.1 ∈ wsX5_tries := List.mem_of_getElem? (i := 3) rfl
theorem lkX5_tries_149 : Cond.fieldLink RX5 149 (TX5 31).1 (TX5 31).2.1 (TX5 31).2.2.1 ∈ wsX5_tries := List.mem_of_getElem? (i := 4) rfl
theorem lkX5_tries_75 : Cond.fieldLink RX5 75 (TX5 26).1 (TX5 26).2.1 (TX5 26).2.2.1 ∈ wsX5_tries := List.mem_of_getElem? (i := 5) rfl
theorem lkX5_tries_108 : Cond.fieldLink RX5 108 (TX5 15).1 (TX5 15).2.1 (TX5 15).2.2.1 ∈ wsX5_tries := List.mem_of_getElem? (i := 6) rfl
theorem lkX5_tries_72 : Cond.fieldLink RX5 72 (TX5 25).1 (TX5 25).2.1 (TX5 25).2.2.1 ∈ wsX5_tries := List.mem_of_getElem? (i := 8) rfl
theorem lkX5_tries_84 : Cond.fieldLink RX5 84 (TX5 33).1 (TX5 33).2.1 (TX5 33).2.2.1 ∈ wsX5_tries := List.mem_of_getElem? (i := 7) rfl
set_option maxHeartbeats 4000000 in
set_option maxRecDepth 100000 in
theorem m_tries {l : Launch} {G : fw_G} {A : Nat → Prop} {f0 : fw_F} {h : Nat} {a : Nat → Nat} {I : Nat → Nat} {N : Nat → Nat → Nat} {B : Nat → Nat → Bool} {J : Nat → Nat → Int64} (O : isO G dM f0 2000 h a I N B J) (n : Nat) (hn1 : 1 ≤ n) (hn8 : n ≤ 8) (hd : dst (N 28) n) (h26 : ∀ x, B 26 x = false) (h31 : I 31 = 0) (hM : mOK I N)  : Met l yX5_tries wsX5_tries ({ frames := 2, cells := 0, slots := 0, locals := 46 }) (va_Pc [.ref h, .int (nI n)] (fw_P G A f0)) (va_Qi (fun (r : Int32) (f1 : fw_F) => r = (rsM I N B J n).1 ∧ ∃ B' J', isO G dM f1 2000 h a (va_up I 31 (rsM I N B J n).2.1) N B' J' ∧ (∀ q, q ≠ 26 → B' q = B q) ∧ (∀ x, B' 26 x = true → ∃ j, j < n ∧ x = N 28 j) ∧ (∀ q, q ≠ 27 → q ≠ 33 → J' q = J q) ∧ (r = -3 ∨ r = -4 ∨ ∃ w, w ≤ 200 ∧ r = nI w ∧ ∀ i j, i < w → j < n → J' 33 (8 * i + j) = (rsM I N B J n).2.2 i j) ∧ fw_fr f0 f1 2000 2035) (fw_B G A) A) 0 0 A := by
  refine q_head rfl (by decide) (Nat.le_of_ble_eq_true rfl) ?_
  intro p e s m below meth c ls C hr hlk hnm P hl
  have S := P.start
  have hl : lv_has ls 7 [(0, .ref h), (1, .int (nI n))] := hl
  have F := fw_fr_rf f0 2000 2035
  have hM0 := hM
  obtain ⟨⟨hm0, hm6, hm9, hm15, hm19⟩, ⟨hs1, hs2, hs3⟩, ⟨hP7, hk10, hk11, hk12⟩, hL, hF⟩ := hM
  refine lv_iconst (v := nI 0) C.1 C.2.1 dX5_tries_0 (by decide) ?_
  refine lv_istore_n (lv' := [(2, .int (nI 0)), (0, .ref h), (1, .int (nI n))]) C.1 C.2.1 dX5_tries_1 rfl hl (by decide) rfl (fun ls hl => ?_)
  refine lv_iconst (v := nI 0) C.1 C.2.1 dX5_tries_2 (by decide) ?_
  refine lv_istore_n (lv' := [(3, .int (nI 0)), (2, .int (nI 0)), (0, .ref h), (1, .int (nI n))]) C.1 C.2.1 dX5_tries_3 rfl hl (by decide) rfl (fun ls hl => ?_)
  refine lv_aload_n C.1 C.2.1 dX5_tries_4 rfl (lv_at hl 2 rfl) ?_
  refine o_get (v := .ref (a 27)) C S O rfl inX5_tries_X5 27 (Nat.le_of_ble_eq_true rfl) lkX5_tries_78 rfl dX5_tries_5 ?_
  refine lv_aload_n C.1 C.2.1 dX5_tries_8 rfl (lv_at hl 2 rfl) ?_
  refine o_get (v := .ref (a 28)) C S O rfl inX5_tries_X5 28 (Nat.le_of_ble_eq_true rfl) lkX5_tries_81 rfl dX5_tries_9 ?_
  refine lv_iconst (v := nI 0) C.1 C.2.1 dX5_tries_12 (by decide) ?_
  refine o_nald (x := (N 28) 0) C S O 28 (Nat.le_of_ble_eq_true rfl) rfl 0 rfl (show 0 < 32 from by first | omega | exact hL _ | exact hP _ | exact hF _) (Nat.le_of_ble_eq_true rfl) rfl dX5_tries_13 ?_
  refine lv_aload_n C.1 C.2.1 dX5_tries_14 rfl (lv_at hl 2 rfl) ?_
  refine o_get (v := .ref (a 24)) C S O rfl inX5_tries_X5 24 (Nat.le_of_ble_eq_true rfl) lkX5_tries_69 rfl dX5_tries_15 ?_
  refine lv_aload_n C.1 C.2.1 dX5_tries_18 rfl (lv_at hl 2 rfl) ?_
  refine o_get (v := .ref (a 28)) C S O rfl inX5_tries_X5 28 (Nat.le_of_ble_eq_true rfl) lkX5_tries_81 rfl dX5_tries_19 ?_
  refine lv_iconst (v := nI 0) C.1 C.2.1 dX5_tries_22 (by decide) ?_
  refine o_nald (x := (N 28) 0) C S O 28 (Nat.le_of_ble_eq_true rfl) rfl 0 rfl (show 0 < 32 from by first | omega | exact hL _ | exact hP _ | exact hF _) (Nat.le_of_ble_eq_true rfl) rfl dX5_tries_23 ?_
  refine o_lald (x := (J 24) ((N 28) 0)) C S O 24 (Nat.le_of_ble_eq_true rfl) rfl ((N 28) 0) rfl (show (N 28) 0 < 64 from by first | omega | exact hF _) (Nat.le_of_ble_eq_true rfl) rfl dX5_tries_24 ?_
  refine o_last C S O F 27 (Nat.le_of_ble_eq_true rfl) rfl ((N 28) 0) rfl (show (N 28) 0 < 64 from by first | omega | exact hF _) (Nat.le_of_ble_eq_true rfl) ⟨by decide, by decide⟩ dX5_tries_25 (fun f H locs S O F => ?_)
  have lp26 : ∀ (n26 : Nat) (m0 : Nat) (w : Nat) (I3 : Nat → Nat) (B3 : Nat → Nat → Bool) (J3 : Nat → Nat → Int64) (cur : Nat → Int64) (acc : Nat → Nat → Int64), 5000 - I3 31 < n26 → (m0 ≤ n) → (w ≤ 200) → (I3 = va_up I 31 (I3 31)) → (I3 31 ≤ 5000) → (∀ x, (m0 = 0 ∨ x ≠ N 28 (m0 - 1)) → B3 26 x = decide (levF (N 28) (m0 - 1) x ≠ 0)) → (∀ q, q ≠ 26 → B3 q = B q) → (∀ j, j < m0 → J3 27 (N 28 j) = cur j) → (∀ i j, i < w → j < n → J3 33 (8 * i + j) = acc i j) → (∀ q, q ≠ 27 → q ≠ 33 → J3 q = J q) → ((m0 = 0 → rsM I N B J n = (nI w, I3 31, acc)) ∧ (0 < m0 → it n (loM N J) (hiM N J) (gdM I N B J n) (5000 - I3 31) (m0 - 1) cur w acc = rsM I N B J n)) → ∀ (f : fw_F) (H : Heap) (locs : List Loc) (ls : Array Slot), fw_S G A s f H locs → isO G dM f 2000 h a I3 N B3 J3 → fw_fr f0 f 2000 2035 → lv_has ls 7 [(3, .int (mI m0)), (2, .int (nI w)), (0, .ref h), (1, .int (nI n))] → W p l e ({ frames := 2, cells := 0, slots := 0, locals := 46 }) s m [.ref h, .int (nI n)].toArray below meth c H locs 0 0 (MQ below (va_Qi (fun (r : Int32) (f1 : fw_F) => r = (rsM I N B J n).1 ∧ ∃ B' J', isO G dM f1 2000 h a (va_up I 31 (rsM I N B J n).2.1) N B' J' ∧ (∀ q, q ≠ 26 → B' q = B q) ∧ (∀ x, B' 26 x = true → ∃ j, j < n ∧ x = N 28 j) ∧ (∀ q, q ≠ 27 → q ≠ 33 → J' q = J q) ∧ (r = -3 ∨ r = -4 ∨ ∃ w, w ≤ 200 ∧ r = nI w ∧ ∀ i j, i < w → j < n → J' 33 (8 * i + j) = (rsM I N B J n).2.2 i j) ∧ fw_fr f0 f1 2000 2035) (fw_B G A) A) [.ref h, .int (nI n)].toArray s 0 0 A) (F0 m 26 ls []) := by
    intro n26
    induction n26 with
    | zero => intro m0 w I3 B3 J3 cur acc hme26; exact absurd hme26 (Nat.not_lt_zero _)
    | succ n26 ih26 =>
      intro m0 w I3 B3 J3 cur acc hme26 hm hw hI hk hB hBk hJ hW hJk hR f H locs ls S O F hl
      refine lv_iload_n C.1 C.2.1 dX5_tries_26 rfl (lv_at hl 0 rfl) ?_
      refine lv_if_lt (tgt := 273) C.1 C.2.1 dX5_tries_27 (by decide) (fun c27 => ?_) (fun c27 => ?_)
      · have hm0 : m0 = 0 := (mI_lt (by omega)).mp c27
        have hRz : rsM I N B J n = (nI w, I3 31, acc) := hR.1 hm0
        refine lv_iload_n C.1 C.2.1 dX5_tries_273 rfl (lv_at hl 1 rfl) ?_
        exact q_retQi C S hr hlk ⟨by rw [hRz], B3, J3, by rw [hRz, ← hI]; exact O, hBk, fun x hx => (by rw [hB x (Or.inl hm0), hm0] at hx; exact (of_decide_eq_true hx rfl).elim), hJk, Or.inr (Or.inr ⟨w, hw, rfl, fun i j hi hj => by rw [hRz]; exact hW i j hi hj⟩), F⟩ dX5_tries_274
      · obtain ⟨at_, rfl⟩ : ∃ q, m0 = q + 1 := ⟨m0 - 1, by have := mt (mI_lt (m := m0) (by omega)).mpr c27; omega⟩
        rw [mI_s] at hl
        have hB1 : ∀ x, x ≠ N 28 at_ → B3 26 x = decide (levF (N 28) at_ x ≠ 0) := fun x hx => hB x (Or.inr hx)
        have hR1 : it n (loM N J) (hiM N J) (gdM I N B J n) (5000 - I3 31) at_ cur w acc = rsM I N B J n := hR.2 (by omega)
        have hI0 : I3 0 = I 0 := by rw [hI]; rfl
        have hI6 : I3 6 = I 6 := by rw [hI]; rfl
        have hI9 : I3 9 = I 9 := by rw [hI]; rfl
        have hI15 : I3 15 = I 15 := by rw [hI]; rfl
        have hI19 : I3 19 = I 19 := by rw [hI]; rfl
        have hMI : mOK (va_up I3 31 (I3 31 + 1)) N := mOK_I hM0 (by show I3 0 ≤ 64; omega) (by show I3 6 ≤ 6400; omega) (by show I3 9 ≤ 32; omega) (by show I3 15 ≤ 60; omega) (by show I3 19 ≤ 40; omega)
        refine lv_aload_n C.1 C.2.1 dX5_tries_30 rfl (lv_at hl 2 rfl) ?_
        refine o_get (v := .int (nI (I3 31))) C S O rfl inX5_tries_X5 31 (Nat.le_of_ble_eq_true rfl) lkX5_tries_149 rfl dX5_tries_31 ?_
        refine lv_sipush (v := nI 5000) C.1 C.2.1 dX5_tries_34 (by decide) ?_
        refine q_nee (tgt := 43) C (by omega) (by decide) dX5_tries_37 (by decide) (fun c37 => ?_) (fun c37 => ?_)
        · have hR2 : it n (loM N J) (hiM N J) (gdM I N B J n) ((5000 - (I3 31 + 1)) + 1) at_ cur w acc = rsM I N B J n := by rw [show (5000 - (I3 31 + 1)) + 1 = 5000 - I3 31 by omega]; exact hR1
          have hI2 : va_up I3 31 (I3 31 + 1) = va_up I 31 (I3 31 + 1) := by rw [hI, bx_uu, up_s]
          refine lv_aload_n C.1 C.2.1 dX5_tries_43 rfl (lv_at hl 2 rfl) ?_
          refine lv_dup C.1 C.2.1 dX5_tries_44 rfl ?_
          refine o_get (v := .int (nI (I3 31))) C S O rfl inX5_tries_X5 31 (Nat.le_of_ble_eq_true rfl) lkX5_tries_149 rfl dX5_tries_45 ?_
          refine lv_iconst (v := nI 1) C.1 C.2.1 dX5_tries_48 (by decide) ?_
          refine q_iadd C dX5_tries_49 ?_
          refine o_puti C S O F rfl inX5_tries_X5 tyX5 tyX5_ok nmX5 31 (Nat.le_of_ble_eq_true rfl) rfl lkX5_tries_149 rfl rfl ⟨by decide, by decide⟩ dX5_tries_50 (fun f H locs S O F => ?_)
          refine lv_aload_n C.1 C.2.1 dX5_tries_53 rfl (lv_at hl 2 rfl) ?_
          refine o_get (v := .ref (a 28)) C S O rfl inX5_tries_X5 28 (Nat.le_of_ble_eq_true rfl) lkX5_tries_81 rfl dX5_tries_54 ?_
          refine lv_iload_n C.1 C.2.1 dX5_tries_57 rfl (lv_at hl 0 rfl) ?_
          refine o_nald (x := (N 28) at_) C S O 28 (Nat.le_of_ble_eq_true rfl) rfl at_ rfl (show at_ < 32 from by first | omega | exact hL _ | exact hP _ | exact hF _) (Nat.le_of_ble_eq_true rfl) rfl dX5_tries_58 ?_
          refine lv_istore (lv' := [(4, .int (nI ((N 28) at_))), (3, .int (nI at_)), (2, .int (nI w)), (0, .ref h), (1, .int (nI n))]) C.1 C.2.1 dX5_tries_59 hl (by decide) rfl (fun ls hl => ?_)
          refine lv_aload_n C.1 C.2.1 dX5_tries_61 rfl (lv_at hl 3 rfl) ?_
          refine o_get (v := .ref (a 26)) C S O rfl inX5_tries_X5 26 (Nat.le_of_ble_eq_true rfl) lkX5_tries_75 rfl dX5_tries_62 ?_
          refine lv_iload C.1 C.2.1 dX5_tries_65 (lv_at hl 0 rfl) ?_
          refine lv_iconst (v := bI true) C.1 C.2.1 dX5_tries_67 (by decide) ?_
          refine o_yast C S O F 26 (Nat.le_of_ble_eq_true rfl) rfl ((N 28) at_) rfl (show (N 28) at_ < 64 from by first | omega | exact hF _) (Nat.le_of_ble_eq_true rfl) ⟨by decide, by decide⟩ dX5_tries_68 (fun f H locs S O F => ?_)
          have hB4 : ∀ x, (va_up B3 26 (va_up (B3 26) (N 28 at_) true)) 26 x = decide (levF (N 28) (at_ + 1) x ≠ 0) := fun x => tb_set hd (by omega) hB1 x
          have hgd : allb (hoM N (va_up B3 26 (va_up (B3 26) (N 28 at_) true)) J3) (I 15) = gdM I N B J n (at_ + 1) cur := gd_M hd (by omega) (hBk 21 (by decide)) hB4 (hJk 13 (by decide) (by decide)) (hJk 14 (by decide) (by decide)) (hJk 23 (by decide) (by decide)) (fun j hj => hJ j (by omega))
          refine lv_iconst (v := bI true) C.1 C.2.1 dX5_tries_69 (by decide) ?_
          refine lv_istore (lv' := [(5, .int (bI true)), (4, .int (nI ((N 28) at_))), (3, .int (nI at_)), (2, .int (nI w)), (0, .ref h), (1, .int (nI n))]) C.1 C.2.1 dX5_tries_70 hl (by decide) rfl (fun ls hl => ?_)
          refine lv_iconst (v := nI 0) C.1 C.2.1 dX5_tries_72 (by decide) ?_
          refine lv_istore (lv' := [(6, .int (nI 0)), (5, .int (bI true)), (4, .int (nI ((N 28) at_))), (3, .int (nI at_)), (2, .int (nI w)), (0, .ref h), (1, .int (nI n))]) C.1 C.2.1 dX5_tries_73 hl (by decide) rfl (fun ls hl => ?_)
          have lp75 : ∀ (n75 : Nat) (t6 : Nat) (g : Bool), I 15 - t6 < n75 → (t6 ≤ I 15) → (g = allb (hoM N (va_up B3 26 (va_up (B3 26) (N 28 at_) true)) J3) t6) → ∀ (ls : Array Slot), lv_has ls 7 [(6, .int (nI t6)), (5, .int (bI g)), (4, .int (nI ((N 28) at_))), (3, .int (nI at_)), (2, .int (nI w)), (0, .ref h), (1, .int (nI n))] → W p l e ({ frames := 2, cells := 0, slots := 0, locals := 46 }) s m [.ref h, .int (nI n)].toArray below meth c H locs 0 0 (MQ below (va_Qi (fun (r : Int32) (f1 : fw_F) => r = (rsM I N B J n).1 ∧ ∃ B' J', isO G dM f1 2000 h a (va_up I 31 (rsM I N B J n).2.1) N B' J' ∧ (∀ q, q ≠ 26 → B' q = B q) ∧ (∀ x, B' 26 x = true → ∃ j, j < n ∧ x = N 28 j) ∧ (∀ q, q ≠ 27 → q ≠ 33 → J' q = J q) ∧ (r = -3 ∨ r = -4 ∨ ∃ w, w ≤ 200 ∧ r = nI w ∧ ∀ i j, i < w → j < n → J' 33 (8 * i + j) = (rsM I N B J n).2.2 i j) ∧ fw_fr f0 f1 2000 2035) (fw_B G A) A) [.ref h, .int (nI n)].toArray s 0 0 A) (F0 m 75 ls []) := by
            intro n75
            induction n75 with
            | zero => intro t6 g hme75; exact absurd hme75 (Nat.not_lt_zero _)
            | succ n75 ih75 =>
              intro t6 g hme75 ht6 hg ls hl
              refine lv_iload C.1 C.2.1 dX5_tries_75 (lv_at hl 0 rfl) ?_
              refine lv_aload_n C.1 C.2.1 dX5_tries_77 rfl (lv_at hl 5 rfl) ?_
              refine o_get (v := .int (nI (I3 15))) C S O rfl inX5_tries_X5 15 (Nat.le_of_ble_eq_true rfl) lkX5_tries_108 rfl dX5_tries_78 ?_
              refine q_ge (tgt := 103) C (by omega) (by omega) dX5_tries_81 (by decide) (fun c81 => ?_) (fun c81 => ?_)
              · have hgf : g = gdM I N B J n (at_ + 1) cur := by rw [hg, show t6 = I 15 by omega, hgd]
                refine lv_iload C.1 C.2.1 dX5_tries_103 (lv_at hl 1 rfl) ?_
                refine q_ifeqB (tgt := 170) C dX5_tries_105 (by decide) (fun c105 => ?_) (fun c105 => ?_)
                · have hR5 : rsM I N B J n = itB n (loM N J) (hiM N J) (gdM I N B J n) (5000 - (I3 31 + 1)) (at_ + 1) cur w acc := by rw [← hR2, it_bad (hgf.symm.trans c105)]
                  refine lv_iload C.1 C.2.1 dX5_tries_170 (lv_at hl 1 rfl) ?_
                  refine q_ifeqB (tgt := 203) C dX5_tries_172 (by decide) (fun c172 => ?_) (fun c172 => ?_)
                  · have lp203 : ∀ (n203 : Nat) (b : Nat) (B6 : Nat → Nat → Bool), b < n203 → (b ≤ at_ + 1) → (∀ x, B6 26 x = decide (levF (N 28) b x ≠ 0)) → (∀ q, q ≠ 26 → B6 q = B q) → (rsM I N B J n = itB n (loM N J) (hiM N J) (gdM I N B J n) (5000 - (I3 31 + 1)) b cur w acc) → ∀ (f : fw_F) (H : Heap) (locs : List Loc) (ls : Array Slot), fw_S G A s f H locs → isO G dM f 2000 h a (va_up I3 31 ((I3 31) + 1)) N B6 J3 → fw_fr f0 f 2000 2035 → lv_has ls 7 [(3, .int (mI b)), (2, .int (nI w)), (0, .ref h), (1, .int (nI n))] → W p l e ({ frames := 2, cells := 0, slots := 0, locals := 46 }) s m [.ref h, .int (nI n)].toArray below meth c H locs 0 0 (MQ below (va_Qi (fun (r : Int32) (f1 : fw_F) => r = (rsM I N B J n).1 ∧ ∃ B' J', isO G dM f1 2000 h a (va_up I 31 (rsM I N B J n).2.1) N B' J' ∧ (∀ q, q ≠ 26 → B' q = B q) ∧ (∀ x, B' 26 x = true → ∃ j, j < n ∧ x = N 28 j) ∧ (∀ q, q ≠ 27 → q ≠ 33 → J' q = J q) ∧ (r = -3 ∨ r = -4 ∨ ∃ w, w ≤ 200 ∧ r = nI w ∧ ∀ i j, i < w → j < n → J' 33 (8 * i + j) = (rsM I N B J n).2.2 i j) ∧ fw_fr f0 f1 2000 2035) (fw_B G A) A) [.ref h, .int (nI n)].toArray s 0 0 A) (F0 m 203 ls []) := by
                      intro n203
                      induction n203 with
                      | zero => intro b B6 hme203; exact absurd hme203 (Nat.not_lt_zero _)
                      | succ n203 ih203 =>
                        intro b B6 hme203 hb hB6 hB6k hR6 f H locs ls S O F hl
                        refine lv_iload_n C.1 C.2.1 dX5_tries_203 rfl (lv_at hl 0 rfl) ?_
                        refine lv_if_lt (tgt := 251) C.1 C.2.1 dX5_tries_204 (by decide) (fun c204 => ?_) (fun c204 => ?_)
                        · refine lv_iload_n C.1 C.2.1 dX5_tries_251 rfl (lv_at hl 0 rfl) ?_
                          refine lv_if_lt (tgt := 270) C.1 C.2.1 dX5_tries_252 (by decide) (fun c252 => ?_) (fun c252 => ?_)
                          · refine lv_goto (tgt := 26) C.1 C.2.1 dX5_tries_270 (by decide) ?_
                            have hb0 : b = 0 := (mI_lt (by omega)).mp c204
                            subst hb0
                            exact ih26 0 w (va_up I3 31 ((I3 31) + 1)) B6 J3 cur acc (by show 5000 - (I3 31 + 1) < _; omega) (by omega) (by omega) (by rw [up_s]; exact hI2) (by show I3 31 + 1 ≤ 5000; omega) (fun x _ => hB6 x) hB6k (fun j hj => absurd hj (Nat.not_lt_zero j)) hW hJk ⟨fun _ => by rw [hR6, itB_0, up_s, show 5000 - (5000 - (I3 31 + 1)) = I3 31 + 1 by omega], fun q => absurd q (Nat.lt_irrefl 0)⟩ _ _ _ _ S O F (lv_sub hl [0, 1, 2, 3] rfl)
                          · exact absurd c204 c252
                        · obtain ⟨b0, rfl⟩ : ∃ q, b = q + 1 := ⟨b - 1, by have := mt (mI_lt (m := b) (by omega)).mpr c204; omega⟩
                          rw [mI_s] at hl
                          refine lv_aload_n C.1 C.2.1 dX5_tries_207 rfl (lv_at hl 2 rfl) ?_
                          refine o_get (v := .ref (a 27)) C S O rfl inX5_tries_X5 27 (Nat.le_of_ble_eq_true rfl) lkX5_tries_78 rfl dX5_tries_208 ?_
                          refine lv_aload_n C.1 C.2.1 dX5_tries_211 rfl (lv_at hl 2 rfl) ?_
                          refine o_get (v := .ref (a 28)) C S O rfl inX5_tries_X5 28 (Nat.le_of_ble_eq_true rfl) lkX5_tries_81 rfl dX5_tries_212 ?_
                          refine lv_iload_n C.1 C.2.1 dX5_tries_215 rfl (lv_at hl 0 rfl) ?_
                          refine o_nald (x := (N 28) b0) C S O 28 (Nat.le_of_ble_eq_true rfl) rfl b0 rfl (show b0 < 32 from by first | omega | exact hL _ | exact hP _ | exact hF _) (Nat.le_of_ble_eq_true rfl) rfl dX5_tries_216 ?_
                          refine o_lald (x := cur b0) C S O 27 (Nat.le_of_ble_eq_true rfl) rfl ((N 28) b0) rfl (show (N 28) b0 < 64 from by first | omega | exact hF _) (Nat.le_of_ble_eq_true rfl) (hJ b0 (by omega)) dX5_tries_217 ?_
                          refine lv_aload_n C.1 C.2.1 dX5_tries_218 rfl (lv_at hl 2 rfl) ?_
                          refine o_get (v := .ref (a 25)) C S O rfl inX5_tries_X5 25 (Nat.le_of_ble_eq_true rfl) lkX5_tries_72 rfl dX5_tries_219 ?_
                          refine lv_aload_n C.1 C.2.1 dX5_tries_222 rfl (lv_at hl 2 rfl) ?_
                          refine o_get (v := .ref (a 28)) C S O rfl inX5_tries_X5 28 (Nat.le_of_ble_eq_true rfl) lkX5_tries_81 rfl dX5_tries_223 ?_
                          refine lv_iload_n C.1 C.2.1 dX5_tries_226 rfl (lv_at hl 0 rfl) ?_
                          refine o_nald (x := (N 28) b0) C S O 28 (Nat.le_of_ble_eq_true rfl) rfl b0 rfl (show b0 < 32 from by first | omega | exact hL _ | exact hP _ | exact hF _) (Nat.le_of_ble_eq_true rfl) rfl dX5_tries_227 ?_
                          refine o_lald (x := hiM N J b0) C S O 25 (Nat.le_of_ble_eq_true rfl) rfl ((N 28) b0) rfl (show (N 28) b0 < 64 from by first | omega | exact hF _) (Nat.le_of_ble_eq_true rfl) (congrFun (hJk 25 (by decide) (by decide)) _) dX5_tries_228 ?_
                          refine q_lcmp_ne (tgt := 251) C dX5_tries_229 dX5_tries_230 (by decide) (fun c229 => ?_) (fun c229 => ?_)
                          · refine lv_iload_n C.1 C.2.1 dX5_tries_251 rfl (lv_at hl 0 rfl) ?_
                            refine lv_if_lt (tgt := 270) C.1 C.2.1 dX5_tries_252 (by decide) (fun c252 => ?_) (fun c252 => ?_)
                            · exact absurd c252 (nI_pos (by omega))
                            · refine lv_aload_n C.1 C.2.1 dX5_tries_255 rfl (lv_at hl 2 rfl) ?_
                              refine o_get (v := .ref (a 27)) C S O rfl inX5_tries_X5 27 (Nat.le_of_ble_eq_true rfl) lkX5_tries_78 rfl dX5_tries_256 ?_
                              refine lv_aload_n C.1 C.2.1 dX5_tries_259 rfl (lv_at hl 2 rfl) ?_
                              refine o_get (v := .ref (a 28)) C S O rfl inX5_tries_X5 28 (Nat.le_of_ble_eq_true rfl) lkX5_tries_81 rfl dX5_tries_260 ?_
                              refine lv_iload_n C.1 C.2.1 dX5_tries_263 rfl (lv_at hl 0 rfl) ?_
                              refine o_nald (x := (N 28) b0) C S O 28 (Nat.le_of_ble_eq_true rfl) rfl b0 rfl (show b0 < 32 from by first | omega | exact hL _ | exact hP _ | exact hF _) (Nat.le_of_ble_eq_true rfl) rfl dX5_tries_264 ?_
                              refine lv_dup2_11 C.1 C.2.1 dX5_tries_265 rfl rfl ?_
                              refine o_lald (x := cur b0) C S O 27 (Nat.le_of_ble_eq_true rfl) rfl ((N 28) b0) rfl (show (N 28) b0 < 64 from by first | omega | exact hF _) (Nat.le_of_ble_eq_true rfl) (hJ b0 (by omega)) dX5_tries_266 ?_
                              refine lv_lconst (v := 1) C.1 C.2.1 dX5_tries_267 (by decide) ?_
                              refine lv_ladd C.1 C.2.1 dX5_tries_268 ?_
                              refine o_last C S O F 27 (Nat.le_of_ble_eq_true rfl) rfl ((N 28) b0) rfl (show (N 28) b0 < 64 from by first | omega | exact hF _) (Nat.le_of_ble_eq_true rfl) ⟨by decide, by decide⟩ dX5_tries_269 (fun f H locs S O F => ?_)
                              refine lv_goto (tgt := 26) C.1 C.2.1 dX5_tries_270 (by decide) ?_
                              have hl : lv_has ls 7 [(3, .int (mI (b0 + 1))), (2, .int (nI w)), (0, .ref h), (1, .int (nI n))] := by rw [mI_s]; exact hl
                              exact ih26 (b0 + 1) w (va_up I3 31 ((I3 31) + 1)) B6 (va_up J3 27 (va_up (J3 27) ((N 28) b0) ((cur b0) + 1))) (va_up cur b0 (cur b0 + 1)) acc (by show 5000 - (I3 31 + 1) < _; omega) (by omega) (by omega) (by rw [up_s]; exact hI2) (by show I3 31 + 1 ≤ 5000; omega) (fun x hx => tb_lev hd (by omega) hB6 x (hx.resolve_left (by omega))) hB6k (tj_up hd (by omega) (fun j hj => (hJ j (by omega)))) hW (fun q a1 a2 => by rw [up_n a1]; exact hJk q a1 a2) ⟨fun q => absurd q (by omega), fun _ => by rw [up_s, hR6, itB_ne c229]; rfl⟩ _ _ _ _ S O F (lv_sub hl [0, 1, 2, 3] rfl)
                          · refine lv_aload_n C.1 C.2.1 dX5_tries_233 rfl (lv_at hl 2 rfl) ?_
                            refine o_get (v := .ref (a 26)) C S O rfl inX5_tries_X5 26 (Nat.le_of_ble_eq_true rfl) lkX5_tries_75 rfl dX5_tries_234 ?_
                            refine lv_aload_n C.1 C.2.1 dX5_tries_237 rfl (lv_at hl 2 rfl) ?_
                            refine o_get (v := .ref (a 28)) C S O rfl inX5_tries_X5 28 (Nat.le_of_ble_eq_true rfl) lkX5_tries_81 rfl dX5_tries_238 ?_
                            refine lv_iload_n C.1 C.2.1 dX5_tries_241 rfl (lv_at hl 0 rfl) ?_
                            refine o_nald (x := (N 28) b0) C S O 28 (Nat.le_of_ble_eq_true rfl) rfl b0 rfl (show b0 < 32 from by first | omega | exact hL _ | exact hP _ | exact hF _) (Nat.le_of_ble_eq_true rfl) rfl dX5_tries_242 ?_
                            refine lv_iconst (v := bI false) C.1 C.2.1 dX5_tries_243 (by decide) ?_
                            refine o_yast C S O F 26 (Nat.le_of_ble_eq_true rfl) rfl ((N 28) b0) rfl (show (N 28) b0 < 64 from by first | omega | exact hF _) (Nat.le_of_ble_eq_true rfl) ⟨by decide, by decide⟩ dX5_tries_244 (fun f H locs S O F => ?_)
                            refine lv_iinc (v := mI b0) (lv' := [(3, .int (mI b0)), (2, .int (nI w)), (0, .ref h), (1, .int (nI n))]) C.1 C.2.1 dX5_tries_245 hl (k := 0) rfl (mI_dec b0) (by decide) rfl (fun ls hl => ?_)
                            refine lv_goto (tgt := 203) C.1 C.2.1 dX5_tries_248 (by decide) ?_
                            exact ih203 b0 (va_up B6 26 (va_up (B6 26) ((N 28) b0) false)) (by omega) (by omega) (fun x => tb_clr hd (by omega) hB6 x) (fun q hq => by rw [up_n hq]; exact hB6k q hq) (by rw [hR6, itB_eq c229]) _ _ _ _ S O F (lv_sub hl [0, 1, 2, 3] rfl)
                    have hl : lv_has ls 7 [(6, .int (nI t6)), (5, .int (bI g)), (4, .int (nI ((N 28) at_))), (3, .int (mI (at_ + 1))), (2, .int (nI w)), (0, .ref h), (1, .int (nI n))] := by rw [mI_s]; exact hl
                    exact lp203 (at_ + 2) (at_ + 1) (va_up B3 26 (va_up (B3 26) ((N 28) at_) true)) (by omega) (by omega) hB4 (fun q hq => by rw [up_n hq]; exact hBk q hq) hR5 _ _ _ _ S O F (lv_sub hl [3, 4, 5, 6] rfl)
                  · exact absurd (c105.symm.trans c172) (by decide)
                · refine lv_iload_n C.1 C.2.1 dX5_tries_108 rfl (lv_at hl 3 rfl) ?_
                  refine lv_iload_n C.1 C.2.1 dX5_tries_109 rfl (lv_at hl 6 rfl) ?_
                  refine lv_iconst (v := nI 1) C.1 C.2.1 dX5_tries_110 (by decide) ?_
                  refine q_isub C (by omega) dX5_tries_111 ?_
                  refine q_nee (tgt := 170) C (by omega) (by omega) dX5_tries_112 (by decide) (fun c112 => ?_) (fun c112 => ?_)
                  · refine lv_iload C.1 C.2.1 dX5_tries_170 (lv_at hl 1 rfl) ?_
                    refine q_ifeqB (tgt := 203) C dX5_tries_172 (by decide) (fun c172 => ?_) (fun c172 => ?_)
                    · exact absurd (c105.symm.trans c172) (by decide)
                    · refine q_iinc (d := 1) (lv' := [(3, .int (nI (at_ + 1))), (6, .int (nI t6)), (5, .int (bI g)), (4, .int (nI ((N 28) at_))), (2, .int (nI w)), (0, .ref h), (1, .int (nI n))]) C dX5_tries_175 hl (k := 3) rfl (by decide) (by decide) rfl (fun ls hl => ?_)
                      refine lv_aload_n C.1 C.2.1 dX5_tries_178 rfl (lv_at hl 5 rfl) ?_
                      refine o_get (v := .ref (a 27)) C S O rfl inX5_tries_X5 27 (Nat.le_of_ble_eq_true rfl) lkX5_tries_78 rfl dX5_tries_179 ?_
                      refine lv_aload_n C.1 C.2.1 dX5_tries_182 rfl (lv_at hl 5 rfl) ?_
                      refine o_get (v := .ref (a 28)) C S O rfl inX5_tries_X5 28 (Nat.le_of_ble_eq_true rfl) lkX5_tries_81 rfl dX5_tries_183 ?_
                      refine lv_iload_n C.1 C.2.1 dX5_tries_186 rfl (lv_at hl 0 rfl) ?_
                      refine o_nald (x := (N 28) (at_ + 1)) C S O 28 (Nat.le_of_ble_eq_true rfl) rfl (at_ + 1) rfl (show at_ + 1 < 32 from by first | omega | exact hL _ | exact hP _ | exact hF _) (Nat.le_of_ble_eq_true rfl) rfl dX5_tries_187 ?_
                      refine lv_aload_n C.1 C.2.1 dX5_tries_188 rfl (lv_at hl 5 rfl) ?_
                      refine o_get (v := .ref (a 24)) C S O rfl inX5_tries_X5 24 (Nat.le_of_ble_eq_true rfl) lkX5_tries_69 rfl dX5_tries_189 ?_
                      refine lv_aload_n C.1 C.2.1 dX5_tries_192 rfl (lv_at hl 5 rfl) ?_
                      refine o_get (v := .ref (a 28)) C S O rfl inX5_tries_X5 28 (Nat.le_of_ble_eq_true rfl) lkX5_tries_81 rfl dX5_tries_193 ?_
                      refine lv_iload_n C.1 C.2.1 dX5_tries_196 rfl (lv_at hl 0 rfl) ?_
                      refine o_nald (x := (N 28) (at_ + 1)) C S O 28 (Nat.le_of_ble_eq_true rfl) rfl (at_ + 1) rfl (show at_ + 1 < 32 from by first | omega | exact hL _ | exact hP _ | exact hF _) (Nat.le_of_ble_eq_true rfl) rfl dX5_tries_197 ?_
                      refine o_lald (x := loM N J (at_ + 1)) C S O 24 (Nat.le_of_ble_eq_true rfl) rfl ((N 28) (at_ + 1)) rfl (show (N 28) (at_ + 1) < 64 from by first | omega | exact hF _) (Nat.le_of_ble_eq_true rfl) (congrFun (hJk 24 (by decide) (by decide)) _) dX5_tries_198 ?_
                      refine o_last C S O F 27 (Nat.le_of_ble_eq_true rfl) rfl ((N 28) (at_ + 1)) rfl (show (N 28) (at_ + 1) < 64 from by first | omega | exact hF _) (Nat.le_of_ble_eq_true rfl) ⟨by decide, by decide⟩ dX5_tries_199 (fun f H locs S O F => ?_)
                      refine lv_goto (tgt := 26) C.1 C.2.1 dX5_tries_200 (by decide) ?_
                      have hl : lv_has ls 7 [(3, .int (mI (at_ + 1 + 1))), (6, .int (nI t6)), (5, .int (bI g)), (4, .int (nI ((N 28) at_))), (2, .int (nI w)), (0, .ref h), (1, .int (nI n))] := by rw [mI_s]; exact hl
                      exact ih26 (at_ + 1 + 1) w (va_up I3 31 ((I3 31) + 1)) (va_up B3 26 (va_up (B3 26) ((N 28) at_) true)) (va_up J3 27 (va_up (J3 27) ((N 28) (at_ + 1)) (loM N J (at_ + 1)))) (va_up cur (at_ + 1) (loM N J (at_ + 1))) acc (by show 5000 - (I3 31 + 1) < _; omega) (by omega) (by omega) (by rw [up_s]; exact hI2) (by show I3 31 + 1 ≤ 5000; omega) (fun x hx => hB4 x) (fun q hq => by rw [up_n hq]; exact hBk q hq) (tj_up hd (by omega) (fun j hj => hJ j (by omega))) hW (fun q a1 a2 => by rw [up_n a1]; exact hJk q a1 a2) ⟨fun q => absurd q (by omega), fun _ => by rw [up_s, ← hR2, it_down (hgf.symm.trans c105) (by omega)]; rfl⟩ _ _ _ _ S O F (lv_sub hl [0, 4, 5, 6] rfl)
                  · refine lv_iload_n C.1 C.2.1 dX5_tries_115 rfl (lv_at hl 4 rfl) ?_
                    refine lv_sipush (v := nI 200) C.1 C.2.1 dX5_tries_116 (by decide) ?_
                    refine q_nee (tgt := 125) C (by omega) (by decide) dX5_tries_119 (by decide) (fun c119 => ?_) (fun c119 => ?_)
                    · refine lv_iconst (v := nI 0) C.1 C.2.1 dX5_tries_125 (by decide) ?_
                      refine lv_istore (lv' := [(6, .int (nI 0)), (5, .int (bI g)), (4, .int (nI ((N 28) at_))), (3, .int (nI at_)), (2, .int (nI w)), (0, .ref h), (1, .int (nI n))]) C.1 C.2.1 dX5_tries_126 hl (by decide) rfl (fun ls hl => ?_)
                      have lp128 : ∀ (n128 : Nat) (j6 : Nat) (J5 : Nat → Nat → Int64), n - j6 < n128 → (j6 ≤ n) → (J5 33 = wset (J3 33) (8 * w) j6 (fun j => J3 27 (N 28 j))) → (∀ q, q ≠ 33 → J5 q = J3 q) → ∀ (f : fw_F) (H : Heap) (locs : List Loc) (ls : Array Slot), fw_S G A s f H locs → isO G dM f 2000 h a (va_up I3 31 ((I3 31) + 1)) N (va_up B3 26 (va_up (B3 26) ((N 28) at_) true)) J5 → fw_fr f0 f 2000 2035 → lv_has ls 7 [(6, .int (nI j6)), (5, .int (bI g)), (4, .int (nI ((N 28) at_))), (3, .int (nI at_)), (2, .int (nI w)), (0, .ref h), (1, .int (nI n))] → W p l e ({ frames := 2, cells := 0, slots := 0, locals := 46 }) s m [.ref h, .int (nI n)].toArray below meth c H locs 0 0 (MQ below (va_Qi (fun (r : Int32) (f1 : fw_F) => r = (rsM I N B J n).1 ∧ ∃ B' J', isO G dM f1 2000 h a (va_up I 31 (rsM I N B J n).2.1) N B' J' ∧ (∀ q, q ≠ 26 → B' q = B q) ∧ (∀ x, B' 26 x = true → ∃ j, j < n ∧ x = N 28 j) ∧ (∀ q, q ≠ 27 → q ≠ 33 → J' q = J q) ∧ (r = -3 ∨ r = -4 ∨ ∃ w, w ≤ 200 ∧ r = nI w ∧ ∀ i j, i < w → j < n → J' 33 (8 * i + j) = (rsM I N B J n).2.2 i j) ∧ fw_fr f0 f1 2000 2035) (fw_B G A) A) [.ref h, .int (nI n)].toArray s 0 0 A) (F0 m 128 ls []) := by
                        intro n128
                        induction n128 with
                        | zero => intro j6 J5 hme128; exact absurd hme128 (Nat.not_lt_zero _)
                        | succ n128 ih128 =>
                          intro j6 J5 hme128 hj6 hJ5 hJ5k f H locs ls S O F hl
                          refine lv_iload C.1 C.2.1 dX5_tries_128 (lv_at hl 0 rfl) ?_
                          refine lv_iload_n C.1 C.2.1 dX5_tries_130 rfl (lv_at hl 6 rfl) ?_
                          refine q_ge (tgt := 164) C (by omega) (by omega) dX5_tries_131 (by decide) (fun c131 => ?_) (fun c131 => ?_)
                          · refine q_iinc (d := 1) (lv' := [(2, .int (nI (w + 1))), (6, .int (nI j6)), (5, .int (bI g)), (4, .int (nI ((N 28) at_))), (3, .int (nI at_)), (0, .ref h), (1, .int (nI n))]) C dX5_tries_164 hl (k := 4) rfl (by decide) (by decide) rfl (fun ls hl => ?_)
                            refine lv_iconst (v := bI false) C.1 C.2.1 dX5_tries_167 (by decide) ?_
                            refine lv_istore (lv' := [(5, .int (bI false)), (2, .int (nI (w + 1))), (6, .int (nI j6)), (4, .int (nI ((N 28) at_))), (3, .int (nI at_)), (0, .ref h), (1, .int (nI n))]) C.1 C.2.1 dX5_tries_168 hl (by decide) rfl (fun ls hl => ?_)
                            have hR5 : rsM I N B J n = itB n (loM N J) (hiM N J) (gdM I N B J n) (5000 - (I3 31 + 1)) (at_ + 1) cur (w + 1) (va_up acc w cur) := by rw [← hR2, it_way (hgf.symm.trans c105) (by omega) c119]
                            have hW5 : ∀ i j, i < w + 1 → j < n → J5 33 (8 * i + j) = va_up acc w cur i j := fun i j hi hj => by
                              rw [hJ5, show j6 = n by omega]
                              unfold wset
                              by_cases q : i = w
                              · subst q; rw [if_pos (by omega), up_s, show 8 * i + j - 8 * i = j by omega]; exact hJ j (by omega)
                              · rw [if_neg (by omega), up_n q]; exact hW i j (by omega) hj
                            refine lv_iload C.1 C.2.1 dX5_tries_170 (lv_at hl 0 rfl) ?_
                            refine q_ifeqB (tgt := 203) C dX5_tries_172 (by decide) (fun c172 => ?_) (fun c172 => ?_)
                            · have lp203 : ∀ (n203 : Nat) (b : Nat) (B6 : Nat → Nat → Bool), b < n203 → (b ≤ at_ + 1) → (∀ x, B6 26 x = decide (levF (N 28) b x ≠ 0)) → (∀ q, q ≠ 26 → B6 q = B q) → (rsM I N B J n = itB n (loM N J) (hiM N J) (gdM I N B J n) (5000 - (I3 31 + 1)) b cur (w + 1) (va_up acc w cur)) → ∀ (f : fw_F) (H : Heap) (locs : List Loc) (ls : Array Slot), fw_S G A s f H locs → isO G dM f 2000 h a (va_up I3 31 ((I3 31) + 1)) N B6 J5 → fw_fr f0 f 2000 2035 → lv_has ls 7 [(2, .int (nI (w + 1))), (3, .int (mI b)), (0, .ref h), (1, .int (nI n))] → W p l e ({ frames := 2, cells := 0, slots := 0, locals := 46 }) s m [.ref h, .int (nI n)].toArray below meth c H locs 0 0 (MQ below (va_Qi (fun (r : Int32) (f1 : fw_F) => r = (rsM I N B J n).1 ∧ ∃ B' J', isO G dM f1 2000 h a (va_up I 31 (rsM I N B J n).2.1) N B' J' ∧ (∀ q, q ≠ 26 → B' q = B q) ∧ (∀ x, B' 26 x = true → ∃ j, j < n ∧ x = N 28 j) ∧ (∀ q, q ≠ 27 → q ≠ 33 → J' q = J q) ∧ (r = -3 ∨ r = -4 ∨ ∃ w, w ≤ 200 ∧ r = nI w ∧ ∀ i j, i < w → j < n → J' 33 (8 * i + j) = (rsM I N B J n).2.2 i j) ∧ fw_fr f0 f1 2000 2035) (fw_B G A) A) [.ref h, .int (nI n)].toArray s 0 0 A) (F0 m 203 ls []) := by
                                intro n203
                                induction n203 with
                                | zero => intro b B6 hme203; exact absurd hme203 (Nat.not_lt_zero _)
                                | succ n203 ih203 =>
                                  intro b B6 hme203 hb hB6 hB6k hR6 f H locs ls S O F hl
                                  refine lv_iload_n C.1 C.2.1 dX5_tries_203 rfl (lv_at hl 1 rfl) ?_
                                  refine lv_if_lt (tgt := 251) C.1 C.2.1 dX5_tries_204 (by decide) (fun c204 => ?_) (fun c204 => ?_)
                                  · refine lv_iload_n C.1 C.2.1 dX5_tries_251 rfl (lv_at hl 1 rfl) ?_
                                    refine lv_if_lt (tgt := 270) C.1 C.2.1 dX5_tries_252 (by decide) (fun c252 => ?_) (fun c252 => ?_)
                                    · refine lv_goto (tgt := 26) C.1 C.2.1 dX5_tries_270 (by decide) ?_
                                      have hb0 : b = 0 := (mI_lt (by omega)).mp c204
                                      subst hb0
                                      exact ih26 0 (w + 1) (va_up I3 31 ((I3 31) + 1)) B6 J5 cur (va_up acc w cur) (by show 5000 - (I3 31 + 1) < _; omega) (by omega) (by omega) (by rw [up_s]; exact hI2) (by show I3 31 + 1 ≤ 5000; omega) (fun x _ => hB6 x) hB6k (fun j hj => absurd hj (Nat.not_lt_zero j)) (fun i j hi hj => by show J5 33 (8 * i + j) = _; exact hW5 i j hi hj) (fun q a1 a2 => (hJ5k q a2).trans (hJk q a1 a2)) ⟨fun _ => by rw [hR6, itB_0, up_s, show 5000 - (5000 - (I3 31 + 1)) = I3 31 + 1 by omega], fun q => absurd q (Nat.lt_irrefl 0)⟩ _ _ _ _ S O F (lv_sub hl [1, 0, 2, 3] rfl)
                                    · exact absurd c204 c252
                                  · obtain ⟨b0, rfl⟩ : ∃ q, b = q + 1 := ⟨b - 1, by have := mt (mI_lt (m := b) (by omega)).mpr c204; omega⟩
                                    rw [mI_s] at hl
                                    refine lv_aload_n C.1 C.2.1 dX5_tries_207 rfl (lv_at hl 2 rfl) ?_
                                    refine o_get (v := .ref (a 27)) C S O rfl inX5_tries_X5 27 (Nat.le_of_ble_eq_true rfl) lkX5_tries_78 rfl dX5_tries_208 ?_
                                    refine lv_aload_n C.1 C.2.1 dX5_tries_211 rfl (lv_at hl 2 rfl) ?_
                                    refine o_get (v := .ref (a 28)) C S O rfl inX5_tries_X5 28 (Nat.le_of_ble_eq_true rfl) lkX5_tries_81 rfl dX5_tries_212 ?_
                                    refine lv_iload_n C.1 C.2.1 dX5_tries_215 rfl (lv_at hl 1 rfl) ?_
                                    refine o_nald (x := (N 28) b0) C S O 28 (Nat.le_of_ble_eq_true rfl) rfl b0 rfl (show b0 < 32 from by first | omega | exact hL _ | exact hP _ | exact hF _) (Nat.le_of_ble_eq_true rfl) rfl dX5_tries_216 ?_
                                    refine o_lald (x := cur b0) C S O 27 (Nat.le_of_ble_eq_true rfl) rfl ((N 28) b0) rfl (show (N 28) b0 < 64 from by first | omega | exact hF _) (Nat.le_of_ble_eq_true rfl) ((congrFun (hJ5k 27 (by decide)) _).trans (hJ b0 (by omega))) dX5_tries_217 ?_
                                    refine lv_aload_n C.1 C.2.1 dX5_tries_218 rfl (lv_at hl 2 rfl) ?_
                                    refine o_get (v := .ref (a 25)) C S O rfl inX5_tries_X5 25 (Nat.le_of_ble_eq_true rfl) lkX5_tries_72 rfl dX5_tries_219 ?_
                                    refine lv_aload_n C.1 C.2.1 dX5_tries_222 rfl (lv_at hl 2 rfl) ?_
                                    refine o_get (v := .ref (a 28)) C S O rfl inX5_tries_X5 28 (Nat.le_of_ble_eq_true rfl) lkX5_tries_81 rfl dX5_tries_223 ?_
                                    refine lv_iload_n C.1 C.2.1 dX5_tries_226 rfl (lv_at hl 1 rfl) ?_
                                    refine o_nald (x := (N 28) b0) C S O 28 (Nat.le_of_ble_eq_true rfl) rfl b0 rfl (show b0 < 32 from by first | omega | exact hL _ | exact hP _ | exact hF _) (Nat.le_of_ble_eq_true rfl) rfl dX5_tries_227 ?_
                                    refine o_lald (x := hiM N J b0) C S O 25 (Nat.le_of_ble_eq_true rfl) rfl ((N 28) b0) rfl (show (N 28) b0 < 64 from by first | omega | exact hF _) (Nat.le_of_ble_eq_true rfl) (congrFun ((hJ5k 25 (by decide)).trans (hJk 25 (by decide) (by decide))) _) dX5_tries_228 ?_
                                    refine q_lcmp_ne (tgt := 251) C dX5_tries_229 dX5_tries_230 (by decide) (fun c229 => ?_) (fun c229 => ?_)
                                    · refine lv_iload_n C.1 C.2.1 dX5_tries_251 rfl (lv_at hl 1 rfl) ?_
                                      refine lv_if_lt (tgt := 270) C.1 C.2.1 dX5_tries_252 (by decide) (fun c252 => ?_) (fun c252 => ?_)
                                      · exact absurd c252 (nI_pos (by omega))
                                      · refine lv_aload_n C.1 C.2.1 dX5_tries_255 rfl (lv_at hl 2 rfl) ?_
                                        refine o_get (v := .ref (a 27)) C S O rfl inX5_tries_X5 27 (Nat.le_of_ble_eq_true rfl) lkX5_tries_78 rfl dX5_tries_256 ?_
                                        refine lv_aload_n C.1 C.2.1 dX5_tries_259 rfl (lv_at hl 2 rfl) ?_
                                        refine o_get (v := .ref (a 28)) C S O rfl inX5_tries_X5 28 (Nat.le_of_ble_eq_true rfl) lkX5_tries_81 rfl dX5_tries_260 ?_
                                        refine lv_iload_n C.1 C.2.1 dX5_tries_263 rfl (lv_at hl 1 rfl) ?_
                                        refine o_nald (x := (N 28) b0) C S O 28 (Nat.le_of_ble_eq_true rfl) rfl b0 rfl (show b0 < 32 from by first | omega | exact hL _ | exact hP _ | exact hF _) (Nat.le_of_ble_eq_true rfl) rfl dX5_tries_264 ?_
                                        refine lv_dup2_11 C.1 C.2.1 dX5_tries_265 rfl rfl ?_
                                        refine o_lald (x := cur b0) C S O 27 (Nat.le_of_ble_eq_true rfl) rfl ((N 28) b0) rfl (show (N 28) b0 < 64 from by first | omega | exact hF _) (Nat.le_of_ble_eq_true rfl) ((congrFun (hJ5k 27 (by decide)) _).trans (hJ b0 (by omega))) dX5_tries_266 ?_
                                        refine lv_lconst (v := 1) C.1 C.2.1 dX5_tries_267 (by decide) ?_
                                        refine lv_ladd C.1 C.2.1 dX5_tries_268 ?_
                                        refine o_last C S O F 27 (Nat.le_of_ble_eq_true rfl) rfl ((N 28) b0) rfl (show (N 28) b0 < 64 from by first | omega | exact hF _) (Nat.le_of_ble_eq_true rfl) ⟨by decide, by decide⟩ dX5_tries_269 (fun f H locs S O F => ?_)
                                        refine lv_goto (tgt := 26) C.1 C.2.1 dX5_tries_270 (by decide) ?_
                                        have hl : lv_has ls 7 [(2, .int (nI (w + 1))), (3, .int (mI (b0 + 1))), (0, .ref h), (1, .int (nI n))] := by rw [mI_s]; exact hl
                                        exact ih26 (b0 + 1) (w + 1) (va_up I3 31 ((I3 31) + 1)) B6 (va_up J5 27 (va_up (J5 27) ((N 28) b0) ((cur b0) + 1))) (va_up cur b0 (cur b0 + 1)) (va_up acc w cur) (by show 5000 - (I3 31 + 1) < _; omega) (by omega) (by omega) (by rw [up_s]; exact hI2) (by show I3 31 + 1 ≤ 5000; omega) (fun x hx => tb_lev hd (by omega) hB6 x (hx.resolve_left (by omega))) hB6k (tj_up hd (by omega) (fun j hj => ((congrFun (hJ5k 27 (by decide)) _).trans (hJ j (by omega))))) (fun i j hi hj => by show J5 33 (8 * i + j) = _; exact hW5 i j hi hj) (fun q a1 a2 => by rw [up_n a1]; exact (hJ5k q a2).trans (hJk q a1 a2)) ⟨fun q => absurd q (by omega), fun _ => by rw [up_s, hR6, itB_ne c229]; rfl⟩ _ _ _ _ S O F (lv_sub hl [1, 0, 2, 3] rfl)
                                    · refine lv_aload_n C.1 C.2.1 dX5_tries_233 rfl (lv_at hl 2 rfl) ?_
                                      refine o_get (v := .ref (a 26)) C S O rfl inX5_tries_X5 26 (Nat.le_of_ble_eq_true rfl) lkX5_tries_75 rfl dX5_tries_234 ?_
                                      refine lv_aload_n C.1 C.2.1 dX5_tries_237 rfl (lv_at hl 2 rfl) ?_
                                      refine o_get (v := .ref (a 28)) C S O rfl inX5_tries_X5 28 (Nat.le_of_ble_eq_true rfl) lkX5_tries_81 rfl dX5_tries_238 ?_
                                      refine lv_iload_n C.1 C.2.1 dX5_tries_241 rfl (lv_at hl 1 rfl) ?_
                                      refine o_nald (x := (N 28) b0) C S O 28 (Nat.le_of_ble_eq_true rfl) rfl b0 rfl (show b0 < 32 from by first | omega | exact hL _ | exact hP _ | exact hF _) (Nat.le_of_ble_eq_true rfl) rfl dX5_tries_242 ?_
                                      refine lv_iconst (v := bI false) C.1 C.2.1 dX5_tries_243 (by decide) ?_
                                      refine o_yast C S O F 26 (Nat.le_of_ble_eq_true rfl) rfl ((N 28) b0) rfl (show (N 28) b0 < 64 from by first | omega | exact hF _) (Nat.le_of_ble_eq_true rfl) ⟨by decide, by decide⟩ dX5_tries_244 (fun f H locs S O F => ?_)
                                      refine lv_iinc (v := mI b0) (lv' := [(3, .int (mI b0)), (2, .int (nI (w + 1))), (0, .ref h), (1, .int (nI n))]) C.1 C.2.1 dX5_tries_245 hl (k := 1) rfl (mI_dec b0) (by decide) rfl (fun ls hl => ?_)
                                      refine lv_goto (tgt := 203) C.1 C.2.1 dX5_tries_248 (by decide) ?_
                                      exact ih203 b0 (va_up B6 26 (va_up (B6 26) ((N 28) b0) false)) (by omega) (by omega) (fun x => tb_clr hd (by omega) hB6 x) (fun q hq => by rw [up_n hq]; exact hB6k q hq) (by rw [hR6, itB_eq c229]) _ _ _ _ S O F (lv_sub hl [1, 0, 2, 3] rfl)
                              have hl : lv_has ls 7 [(5, .int (bI false)), (2, .int (nI (w + 1))), (6, .int (nI j6)), (4, .int (nI ((N 28) at_))), (3, .int (mI (at_ + 1))), (0, .ref h), (1, .int (nI n))] := by rw [mI_s]; exact hl
                              exact lp203 (at_ + 2) (at_ + 1) (va_up B3 26 (va_up (B3 26) ((N 28) at_) true)) (by omega) (by omega) hB4 (fun q hq => by rw [up_n hq]; exact hBk q hq) hR5 _ _ _ _ S O F (lv_sub hl [1, 4, 5, 6] rfl)
                            · exact absurd c172 (by decide)
                          · refine lv_aload_n C.1 C.2.1 dX5_tries_134 rfl (lv_at hl 5 rfl) ?_
                            refine o_get (v := .ref (a 33)) C S O rfl inX5_tries_X5 33 (Nat.le_of_ble_eq_true rfl) lkX5_tries_84 rfl dX5_tries_135 ?_
                            refine lv_bipush (v := nI 8) C.1 C.2.1 dX5_tries_138 (by decide) ?_
                            refine lv_iload_n C.1 C.2.1 dX5_tries_140 rfl (lv_at hl 4 rfl) ?_
                            refine q_imul C dX5_tries_141 ?_
                            refine lv_iload C.1 C.2.1 dX5_tries_142 (lv_at hl 0 rfl) ?_
                            refine q_iadd C dX5_tries_144 ?_
                            refine lv_aload_n C.1 C.2.1 dX5_tries_145 rfl (lv_at hl 5 rfl) ?_
                            refine o_get (v := .ref (a 27)) C S O rfl inX5_tries_X5 27 (Nat.le_of_ble_eq_true rfl) lkX5_tries_78 rfl dX5_tries_146 ?_
                            refine lv_aload_n C.1 C.2.1 dX5_tries_149 rfl (lv_at hl 5 rfl) ?_
                            refine o_get (v := .ref (a 28)) C S O rfl inX5_tries_X5 28 (Nat.le_of_ble_eq_true rfl) lkX5_tries_81 rfl dX5_tries_150 ?_
                            refine lv_iload C.1 C.2.1 dX5_tries_153 (lv_at hl 0 rfl) ?_
                            refine o_nald (x := (N 28) j6) C S O 28 (Nat.le_of_ble_eq_true rfl) rfl j6 rfl (show j6 < 32 from by first | omega | exact hL _ | exact hP _ | exact hF _) (Nat.le_of_ble_eq_true rfl) rfl dX5_tries_155 ?_
                            refine o_lald (x := J3 27 (N 28 j6)) C S O 27 (Nat.le_of_ble_eq_true rfl) rfl ((N 28) j6) rfl (show (N 28) j6 < 64 from by first | omega | exact hF _) (Nat.le_of_ble_eq_true rfl) (congrFun (hJ5k 27 (by decide)) _) dX5_tries_156 ?_
                            refine o_last C S O F 33 (Nat.le_of_ble_eq_true rfl) rfl ((8 * w) + j6) rfl (show (8 * w) + j6 < 1600 from by first | omega | exact hF _) (Nat.le_of_ble_eq_true rfl) ⟨by decide, by decide⟩ dX5_tries_157 (fun f H locs S O F => ?_)
                            refine q_iinc (d := 1) (lv' := [(6, .int (nI (j6 + 1))), (5, .int (bI g)), (4, .int (nI ((N 28) at_))), (3, .int (nI at_)), (2, .int (nI w)), (0, .ref h), (1, .int (nI n))]) C dX5_tries_158 hl (k := 0) rfl (by decide) (by decide) rfl (fun ls hl => ?_)
                            refine lv_goto (tgt := 128) C.1 C.2.1 dX5_tries_161 (by decide) ?_
                            exact ih128 (j6 + 1) (va_up J5 33 (va_up (J5 33) ((8 * w) + j6) (J3 27 (N 28 j6)))) (by omega) (by omega) (by show va_up (J5 33) (8 * w + j6) _ = _; rw [wset_s, ← hJ5]) (fun q hq => by rw [up_n hq]; exact hJ5k q hq) _ _ _ _ S O F (lv_sub hl [0, 1, 2, 3, 4, 5, 6] rfl)
                      exact lp128 (n + 1) 0 J3 (by omega) (by omega) (wset_0 _ _ _).symm (fun _ _ => rfl) _ _ _ _ S O F (lv_sub hl [0, 1, 2, 3, 4, 5, 6] rfl)
                    · have hRz : rsM I N B J n = (-4, 5000 - (5000 - (I3 31 + 1)), acc) := by rw [← hR2, it_full (hgf.symm.trans c105) (by omega) c119]
                      refine lv_bipush (v := (-4)) C.1 C.2.1 dX5_tries_122 (by decide) ?_
                      exact q_retQi C S hr hlk ⟨by rw [hRz], (va_up B3 26 (va_up (B3 26) (N 28 at_) true)), J3, by rw [hRz, show 5000 - (5000 - (I3 31 + 1)) = I3 31 + 1 by omega, ← hI2]; exact O, fun q hq => by rw [up_n hq]; exact hBk q hq, fun x hx => (by rw [hB4 x] at hx; obtain ⟨k, k1, k2, k3⟩ := levF_ne0 (of_decide_eq_true hx); exact ⟨k, by omega, k2.symm⟩), hJk, Or.inr (Or.inl rfl), F⟩ dX5_tries_124
              · refine lv_iload C.1 C.2.1 dX5_tries_84 (lv_at hl 1 rfl) ?_
                refine q_ifeqB (tgt := 103) C dX5_tries_86 (by decide) (fun c86 => ?_) (fun c86 => ?_)
                · have hgf : g = gdM I N B J n (at_ + 1) cur := by rw [← hgd, c86]; exact (allb_mono (by omega) (hg.symm.trans c86)).symm
                  refine lv_iload C.1 C.2.1 dX5_tries_103 (lv_at hl 1 rfl) ?_
                  refine q_ifeqB (tgt := 170) C dX5_tries_105 (by decide) (fun c105 => ?_) (fun c105 => ?_)
                  · have hR5 : rsM I N B J n = itB n (loM N J) (hiM N J) (gdM I N B J n) (5000 - (I3 31 + 1)) (at_ + 1) cur w acc := by rw [← hR2, it_bad (hgf.symm.trans c105)]
                    refine lv_iload C.1 C.2.1 dX5_tries_170 (lv_at hl 1 rfl) ?_
                    refine q_ifeqB (tgt := 203) C dX5_tries_172 (by decide) (fun c172 => ?_) (fun c172 => ?_)
                    · have lp203 : ∀ (n203 : Nat) (b : Nat) (B6 : Nat → Nat → Bool), b < n203 → (b ≤ at_ + 1) → (∀ x, B6 26 x = decide (levF (N 28) b x ≠ 0)) → (∀ q, q ≠ 26 → B6 q = B q) → (rsM I N B J n = itB n (loM N J) (hiM N J) (gdM I N B J n) (5000 - (I3 31 + 1)) b cur w acc) → ∀ (f : fw_F) (H : Heap) (locs : List Loc) (ls : Array Slot), fw_S G A s f H locs → isO G dM f 2000 h a (va_up I3 31 ((I3 31) + 1)) N B6 J3 → fw_fr f0 f 2000 2035 → lv_has ls 7 [(3, .int (mI b)), (2, .int (nI w)), (0, .ref h), (1, .int (nI n))] → W p l e ({ frames := 2, cells := 0, slots := 0, locals := 46 }) s m [.ref h, .int (nI n)].toArray below meth c H locs 0 0 (MQ below (va_Qi (fun (r : Int32) (f1 : fw_F) => r = (rsM I N B J n).1 ∧ ∃ B' J', isO G dM f1 2000 h a (va_up I 31 (rsM I N B J n).2.1) N B' J' ∧ (∀ q, q ≠ 26 → B' q = B q) ∧ (∀ x, B' 26 x = true → ∃ j, j < n ∧ x = N 28 j) ∧ (∀ q, q ≠ 27 → q ≠ 33 → J' q = J q) ∧ (r = -3 ∨ r = -4 ∨ ∃ w, w ≤ 200 ∧ r = nI w ∧ ∀ i j, i < w → j < n → J' 33 (8 * i + j) = (rsM I N B J n).2.2 i j) ∧ fw_fr f0 f1 2000 2035) (fw_B G A) A) [.ref h, .int (nI n)].toArray s 0 0 A) (F0 m 203 ls []) := by
                        intro n203
                        induction n203 with
                        | zero => intro b B6 hme203; exact absurd hme203 (Nat.not_lt_zero _)
                        | succ n203 ih203 =>
                          intro b B6 hme203 hb hB6 hB6k hR6 f H locs ls S O F hl
                          refine lv_iload_n C.1 C.2.1 dX5_tries_203 rfl (lv_at hl 0 rfl) ?_
                          refine lv_if_lt (tgt := 251) C.1 C.2.1 dX5_tries_204 (by decide) (fun c204 => ?_) (fun c204 => ?_)
                          · refine lv_iload_n C.1 C.2.1 dX5_tries_251 rfl (lv_at hl 0 rfl) ?_
                            refine lv_if_lt (tgt := 270) C.1 C.2.1 dX5_tries_252 (by decide) (fun c252 => ?_) (fun c252 => ?_)
                            · refine lv_goto (tgt := 26) C.1 C.2.1 dX5_tries_270 (by decide) ?_
                              have hb0 : b = 0 := (mI_lt (by omega)).mp c204
                              subst hb0
                              exact ih26 0 w (va_up I3 31 ((I3 31) + 1)) B6 J3 cur acc (by show 5000 - (I3 31 + 1) < _; omega) (by omega) (by omega) (by rw [up_s]; exact hI2) (by show I3 31 + 1 ≤ 5000; omega) (fun x _ => hB6 x) hB6k (fun j hj => absurd hj (Nat.not_lt_zero j)) hW hJk ⟨fun _ => by rw [hR6, itB_0, up_s, show 5000 - (5000 - (I3 31 + 1)) = I3 31 + 1 by omega], fun q => absurd q (Nat.lt_irrefl 0)⟩ _ _ _ _ S O F (lv_sub hl [0, 1, 2, 3] rfl)
                            · exact absurd c204 c252
                          · obtain ⟨b0, rfl⟩ : ∃ q, b = q + 1 := ⟨b - 1, by have := mt (mI_lt (m := b) (by omega)).mpr c204; omega⟩
                            rw [mI_s] at hl
                            refine lv_aload_n C.1 C.2.1 dX5_tries_207 rfl (lv_at hl 2 rfl) ?_
                            refine o_get (v := .ref (a 27)) C S O rfl inX5_tries_X5 27 (Nat.le_of_ble_eq_true rfl) lkX5_tries_78 rfl dX5_tries_208 ?_
                            refine lv_aload_n C.1 C.2.1 dX5_tries_211 rfl (lv_at hl 2 rfl) ?_
                            refine o_get (v := .ref (a 28)) C S O rfl inX5_tries_X5 28 (Nat.le_of_ble_eq_true rfl) lkX5_tries_81 rfl dX5_tries_212 ?_
                            refine lv_iload_n C.1 C.2.1 dX5_tries_215 rfl (lv_at hl 0 rfl) ?_
                            refine o_nald (x := (N 28) b0) C S O 28 (Nat.le_of_ble_eq_true rfl) rfl b0 rfl (show b0 < 32 from by first | omega | exact hL _ | exact hP _ | exact hF _) (Nat.le_of_ble_eq_true rfl) rfl dX5_tries_216 ?_
                            refine o_lald (x := cur b0) C S O 27 (Nat.le_of_ble_eq_true rfl) rfl ((N 28) b0) rfl (show (N 28) b0 < 64 from by first | omega | exact hF _) (Nat.le_of_ble_eq_true rfl) (hJ b0 (by omega)) dX5_tries_217 ?_
                            refine lv_aload_n C.1 C.2.1 dX5_tries_218 rfl (lv_at hl 2 rfl) ?_
                            refine o_get (v := .ref (a 25)) C S O rfl inX5_tries_X5 25 (Nat.le_of_ble_eq_true rfl) lkX5_tries_72 rfl dX5_tries_219 ?_
                            refine lv_aload_n C.1 C.2.1 dX5_tries_222 rfl (lv_at hl 2 rfl) ?_
                            refine o_get (v := .ref (a 28)) C S O rfl inX5_tries_X5 28 (Nat.le_of_ble_eq_true rfl) lkX5_tries_81 rfl dX5_tries_223 ?_
                            refine lv_iload_n C.1 C.2.1 dX5_tries_226 rfl (lv_at hl 0 rfl) ?_
                            refine o_nald (x := (N 28) b0) C S O 28 (Nat.le_of_ble_eq_true rfl) rfl b0 rfl (show b0 < 32 from by first | omega | exact hL _ | exact hP _ | exact hF _) (Nat.le_of_ble_eq_true rfl) rfl dX5_tries_227 ?_
                            refine o_lald (x := hiM N J b0) C S O 25 (Nat.le_of_ble_eq_true rfl) rfl ((N 28) b0) rfl (show (N 28) b0 < 64 from by first | omega | exact hF _) (Nat.le_of_ble_eq_true rfl) (congrFun (hJk 25 (by decide) (by decide)) _) dX5_tries_228 ?_
                            refine q_lcmp_ne (tgt := 251) C dX5_tries_229 dX5_tries_230 (by decide) (fun c229 => ?_) (fun c229 => ?_)
                            · refine lv_iload_n C.1 C.2.1 dX5_tries_251 rfl (lv_at hl 0 rfl) ?_
                              refine lv_if_lt (tgt := 270) C.1 C.2.1 dX5_tries_252 (by decide) (fun c252 => ?_) (fun c252 => ?_)
                              · exact absurd c252 (nI_pos (by omega))
                              · refine lv_aload_n C.1 C.2.1 dX5_tries_255 rfl (lv_at hl 2 rfl) ?_
                                refine o_get (v := .ref (a 27)) C S O rfl inX5_tries_X5 27 (Nat.le_of_ble_eq_true rfl) lkX5_tries_78 rfl dX5_tries_256 ?_
                                refine lv_aload_n C.1 C.2.1 dX5_tries_259 rfl (lv_at hl 2 rfl) ?_
                                refine o_get (v := .ref (a 28)) C S O rfl inX5_tries_X5 28 (Nat.le_of_ble_eq_true rfl) lkX5_tries_81 rfl dX5_tries_260 ?_
                                refine lv_iload_n C.1 C.2.1 dX5_tries_263 rfl (lv_at hl 0 rfl) ?_
                                refine o_nald (x := (N 28) b0) C S O 28 (Nat.le_of_ble_eq_true rfl) rfl b0 rfl (show b0 < 32 from by first | omega | exact hL _ | exact hP _ | exact hF _) (Nat.le_of_ble_eq_true rfl) rfl dX5_tries_264 ?_
                                refine lv_dup2_11 C.1 C.2.1 dX5_tries_265 rfl rfl ?_
                                refine o_lald (x := cur b0) C S O 27 (Nat.le_of_ble_eq_true rfl) rfl ((N 28) b0) rfl (show (N 28) b0 < 64 from by first | omega | exact hF _) (Nat.le_of_ble_eq_true rfl) (hJ b0 (by omega)) dX5_tries_266 ?_
                                refine lv_lconst (v := 1) C.1 C.2.1 dX5_tries_267 (by decide) ?_
                                refine lv_ladd C.1 C.2.1 dX5_tries_268 ?_
                                refine o_last C S O F 27 (Nat.le_of_ble_eq_true rfl) rfl ((N 28) b0) rfl (show (N 28) b0 < 64 from by first | omega | exact hF _) (Nat.le_of_ble_eq_true rfl) ⟨by decide, by decide⟩ dX5_tries_269 (fun f H locs S O F => ?_)
                                refine lv_goto (tgt := 26) C.1 C.2.1 dX5_tries_270 (by decide) ?_
                                have hl : lv_has ls 7 [(3, .int (mI (b0 + 1))), (2, .int (nI w)), (0, .ref h), (1, .int (nI n))] := by rw [mI_s]; exact hl
                                exact ih26 (b0 + 1) w (va_up I3 31 ((I3 31) + 1)) B6 (va_up J3 27 (va_up (J3 27) ((N 28) b0) ((cur b0) + 1))) (va_up cur b0 (cur b0 + 1)) acc (by show 5000 - (I3 31 + 1) < _; omega) (by omega) (by omega) (by rw [up_s]; exact hI2) (by show I3 31 + 1 ≤ 5000; omega) (fun x hx => tb_lev hd (by omega) hB6 x (hx.resolve_left (by omega))) hB6k (tj_up hd (by omega) (fun j hj => (hJ j (by omega)))) hW (fun q a1 a2 => by rw [up_n a1]; exact hJk q a1 a2) ⟨fun q => absurd q (by omega), fun _ => by rw [up_s, hR6, itB_ne c229]; rfl⟩ _ _ _ _ S O F (lv_sub hl [0, 1, 2, 3] rfl)
                            · refine lv_aload_n C.1 C.2.1 dX5_tries_233 rfl (lv_at hl 2 rfl) ?_
                              refine o_get (v := .ref (a 26)) C S O rfl inX5_tries_X5 26 (Nat.le_of_ble_eq_true rfl) lkX5_tries_75 rfl dX5_tries_234 ?_
                              refine lv_aload_n C.1 C.2.1 dX5_tries_237 rfl (lv_at hl 2 rfl) ?_
                              refine o_get (v := .ref (a 28)) C S O rfl inX5_tries_X5 28 (Nat.le_of_ble_eq_true rfl) lkX5_tries_81 rfl dX5_tries_238 ?_
                              refine lv_iload_n C.1 C.2.1 dX5_tries_241 rfl (lv_at hl 0 rfl) ?_
                              refine o_nald (x := (N 28) b0) C S O 28 (Nat.le_of_ble_eq_true rfl) rfl b0 rfl (show b0 < 32 from by first | omega | exact hL _ | exact hP _ | exact hF _) (Nat.le_of_ble_eq_true rfl) rfl dX5_tries_242 ?_
                              refine lv_iconst (v := bI false) C.1 C.2.1 dX5_tries_243 (by decide) ?_
                              refine o_yast C S O F 26 (Nat.le_of_ble_eq_true rfl) rfl ((N 28) b0) rfl (show (N 28) b0 < 64 from by first | omega | exact hF _) (Nat.le_of_ble_eq_true rfl) ⟨by decide, by decide⟩ dX5_tries_244 (fun f H locs S O F => ?_)
                              refine lv_iinc (v := mI b0) (lv' := [(3, .int (mI b0)), (2, .int (nI w)), (0, .ref h), (1, .int (nI n))]) C.1 C.2.1 dX5_tries_245 hl (k := 0) rfl (mI_dec b0) (by decide) rfl (fun ls hl => ?_)
                              refine lv_goto (tgt := 203) C.1 C.2.1 dX5_tries_248 (by decide) ?_
                              exact ih203 b0 (va_up B6 26 (va_up (B6 26) ((N 28) b0) false)) (by omega) (by omega) (fun x => tb_clr hd (by omega) hB6 x) (fun q hq => by rw [up_n hq]; exact hB6k q hq) (by rw [hR6, itB_eq c229]) _ _ _ _ S O F (lv_sub hl [0, 1, 2, 3] rfl)
                      have hl : lv_has ls 7 [(6, .int (nI t6)), (5, .int (bI g)), (4, .int (nI ((N 28) at_))), (3, .int (mI (at_ + 1))), (2, .int (nI w)), (0, .ref h), (1, .int (nI n))] := by rw [mI_s]; exact hl
                      exact lp203 (at_ + 2) (at_ + 1) (va_up B3 26 (va_up (B3 26) ((N 28) at_) true)) (by omega) (by omega) hB4 (fun q hq => by rw [up_n hq]; exact hBk q hq) hR5 _ _ _ _ S O F (lv_sub hl [3, 4, 5, 6] rfl)
                    · exact absurd (c105.symm.trans c172) (by decide)
                  · refine lv_iload_n C.1 C.2.1 dX5_tries_108 rfl (lv_at hl 3 rfl) ?_
                    refine lv_iload_n C.1 C.2.1 dX5_tries_109 rfl (lv_at hl 6 rfl) ?_
                    refine lv_iconst (v := nI 1) C.1 C.2.1 dX5_tries_110 (by decide) ?_
                    refine q_isub C (by omega) dX5_tries_111 ?_
                    refine q_nee (tgt := 170) C (by omega) (by omega) dX5_tries_112 (by decide) (fun c112 => ?_) (fun c112 => ?_)
                    · refine lv_iload C.1 C.2.1 dX5_tries_170 (lv_at hl 1 rfl) ?_
                      refine q_ifeqB (tgt := 203) C dX5_tries_172 (by decide) (fun c172 => ?_) (fun c172 => ?_)
                      · exact absurd (c105.symm.trans c172) (by decide)
                      · refine q_iinc (d := 1) (lv' := [(3, .int (nI (at_ + 1))), (6, .int (nI t6)), (5, .int (bI g)), (4, .int (nI ((N 28) at_))), (2, .int (nI w)), (0, .ref h), (1, .int (nI n))]) C dX5_tries_175 hl (k := 3) rfl (by decide) (by decide) rfl (fun ls hl => ?_)
                        refine lv_aload_n C.1 C.2.1 dX5_tries_178 rfl (lv_at hl 5 rfl) ?_
                        refine o_get (v := .ref (a 27)) C S O rfl inX5_tries_X5 27 (Nat.le_of_ble_eq_true rfl) lkX5_tries_78 rfl dX5_tries_179 ?_
                        refine lv_aload_n C.1 C.2.1 dX5_tries_182 rfl (lv_at hl 5 rfl) ?_
                        refine o_get (v := .ref (a 28)) C S O rfl inX5_tries_X5 28 (Nat.le_of_ble_eq_true rfl) lkX5_tries_81 rfl dX5_tries_183 ?_
                        refine lv_iload_n C.1 C.2.1 dX5_tries_186 rfl (lv_at hl 0 rfl) ?_
                        refine o_nald (x := (N 28) (at_ + 1)) C S O 28 (Nat.le_of_ble_eq_true rfl) rfl (at_ + 1) rfl (show at_ + 1 < 32 from by first | omega | exact hL _ | exact hP _ | exact hF _) (Nat.le_of_ble_eq_true rfl) rfl dX5_tries_187 ?_
                        refine lv_aload_n C.1 C.2.1 dX5_tries_188 rfl (lv_at hl 5 rfl) ?_
                        refine o_get (v := .ref (a 24)) C S O rfl inX5_tries_X5 24 (Nat.le_of_ble_eq_true rfl) lkX5_tries_69 rfl dX5_tries_189 ?_
                        refine lv_aload_n C.1 C.2.1 dX5_tries_192 rfl (lv_at hl 5 rfl) ?_
                        refine o_get (v := .ref (a 28)) C S O rfl inX5_tries_X5 28 (Nat.le_of_ble_eq_true rfl) lkX5_tries_81 rfl dX5_tries_193 ?_
                        refine lv_iload_n C.1 C.2.1 dX5_tries_196 rfl (lv_at hl 0 rfl) ?_
                        refine o_nald (x := (N 28) (at_ + 1)) C S O 28 (Nat.le_of_ble_eq_true rfl) rfl (at_ + 1) rfl (show at_ + 1 < 32 from by first | omega | exact hL _ | exact hP _ | exact hF _) (Nat.le_of_ble_eq_true rfl) rfl dX5_tries_197 ?_
                        refine o_lald (x := loM N J (at_ + 1)) C S O 24 (Nat.le_of_ble_eq_true rfl) rfl ((N 28) (at_ + 1)) rfl (show (N 28) (at_ + 1) < 64 from by first | omega | exact hF _) (Nat.le_of_ble_eq_true rfl) (congrFun (hJk 24 (by decide) (by decide)) _) dX5_tries_198 ?_
                        refine o_last C S O F 27 (Nat.le_of_ble_eq_true rfl) rfl ((N 28) (at_ + 1)) rfl (show (N 28) (at_ + 1) < 64 from by first | omega | exact hF _) (Nat.le_of_ble_eq_true rfl) ⟨by decide, by decide⟩ dX5_tries_199 (fun f H locs S O F => ?_)
                        refine lv_goto (tgt := 26) C.1 C.2.1 dX5_tries_200 (by decide) ?_
                        have hl : lv_has ls 7 [(3, .int (mI (at_ + 1 + 1))), (6, .int (nI t6)), (5, .int (bI g)), (4, .int (nI ((N 28) at_))), (2, .int (nI w)), (0, .ref h), (1, .int (nI n))] := by rw [mI_s]; exact hl
                        exact ih26 (at_ + 1 + 1) w (va_up I3 31 ((I3 31) + 1)) (va_up B3 26 (va_up (B3 26) ((N 28) at_) true)) (va_up J3 27 (va_up (J3 27) ((N 28) (at_ + 1)) (loM N J (at_ + 1)))) (va_up cur (at_ + 1) (loM N J (at_ + 1))) acc (by show 5000 - (I3 31 + 1) < _; omega) (by omega) (by omega) (by rw [up_s]; exact hI2) (by show I3 31 + 1 ≤ 5000; omega) (fun x hx => hB4 x) (fun q hq => by rw [up_n hq]; exact hBk q hq) (tj_up hd (by omega) (fun j hj => hJ j (by omega))) hW (fun q a1 a2 => by rw [up_n a1]; exact hJk q a1 a2) ⟨fun q => absurd q (by omega), fun _ => by rw [up_s, ← hR2, it_down (hgf.symm.trans c105) (by omega)]; rfl⟩ _ _ _ _ S O F (lv_sub hl [0, 4, 5, 6] rfl)
                    · refine lv_iload_n C.1 C.2.1 dX5_tries_115 rfl (lv_at hl 4 rfl) ?_
                      refine lv_sipush (v := nI 200) C.1 C.2.1 dX5_tries_116 (by decide) ?_
                      refine q_nee (tgt := 125) C (by omega) (by decide) dX5_tries_119 (by decide) (fun c119 => ?_) (fun c119 => ?_)
                      · refine lv_iconst (v := nI 0) C.1 C.2.1 dX5_tries_125 (by decide) ?_
                        refine lv_istore (lv' := [(6, .int (nI 0)), (5, .int (bI g)), (4, .int (nI ((N 28) at_))), (3, .int (nI at_)), (2, .int (nI w)), (0, .ref h), (1, .int (nI n))]) C.1 C.2.1 dX5_tries_126 hl (by decide) rfl (fun ls hl => ?_)
                        have lp128 : ∀ (n128 : Nat) (j6 : Nat) (J5 : Nat → Nat → Int64), n - j6 < n128 → (j6 ≤ n) → (J5 33 = wset (J3 33) (8 * w) j6 (fun j => J3 27 (N 28 j))) → (∀ q, q ≠ 33 → J5 q = J3 q) → ∀ (f : fw_F) (H : Heap) (locs : List Loc) (ls : Array Slot), fw_S G A s f H locs → isO G dM f 2000 h a (va_up I3 31 ((I3 31) + 1)) N (va_up B3 26 (va_up (B3 26) ((N 28) at_) true)) J5 → fw_fr f0 f 2000 2035 → lv_has ls 7 [(6, .int (nI j6)), (5, .int (bI g)), (4, .int (nI ((N 28) at_))), (3, .int (nI at_)), (2, .int (nI w)), (0, .ref h), (1, .int (nI n))] → W p l e ({ frames := 2, cells := 0, slots := 0, locals := 46 }) s m [.ref h, .int (nI n)].toArray below meth c H locs 0 0 (MQ below (va_Qi (fun (r : Int32) (f1 : fw_F) => r = (rsM I N B J n).1 ∧ ∃ B' J', isO G dM f1 2000 h a (va_up I 31 (rsM I N B J n).2.1) N B' J' ∧ (∀ q, q ≠ 26 → B' q = B q) ∧ (∀ x, B' 26 x = true → ∃ j, j < n ∧ x = N 28 j) ∧ (∀ q, q ≠ 27 → q ≠ 33 → J' q = J q) ∧ (r = -3 ∨ r = -4 ∨ ∃ w, w ≤ 200 ∧ r = nI w ∧ ∀ i j, i < w → j < n → J' 33 (8 * i + j) = (rsM I N B J n).2.2 i j) ∧ fw_fr f0 f1 2000 2035) (fw_B G A) A) [.ref h, .int (nI n)].toArray s 0 0 A) (F0 m 128 ls []) := by
                          intro n128
                          induction n128 with
                          | zero => intro j6 J5 hme128; exact absurd hme128 (Nat.not_lt_zero _)
                          | succ n128 ih128 =>
                            intro j6 J5 hme128 hj6 hJ5 hJ5k f H locs ls S O F hl
                            refine lv_iload C.1 C.2.1 dX5_tries_128 (lv_at hl 0 rfl) ?_
                            refine lv_iload_n C.1 C.2.1 dX5_tries_130 rfl (lv_at hl 6 rfl) ?_
                            refine q_ge (tgt := 164) C (by omega) (by omega) dX5_tries_131 (by decide) (fun c131 => ?_) (fun c131 => ?_)
                            · refine q_iinc (d := 1) (lv' := [(2, .int (nI (w + 1))), (6, .int (nI j6)), (5, .int (bI g)), (4, .int (nI ((N 28) at_))), (3, .int (nI at_)), (0, .ref h), (1, .int (nI n))]) C dX5_tries_164 hl (k := 4) rfl (by decide) (by decide) rfl (fun ls hl => ?_)
                              refine lv_iconst (v := bI false) C.1 C.2.1 dX5_tries_167 (by decide) ?_
                              refine lv_istore (lv' := [(5, .int (bI false)), (2, .int (nI (w + 1))), (6, .int (nI j6)), (4, .int (nI ((N 28) at_))), (3, .int (nI at_)), (0, .ref h), (1, .int (nI n))]) C.1 C.2.1 dX5_tries_168 hl (by decide) rfl (fun ls hl => ?_)
                              have hR5 : rsM I N B J n = itB n (loM N J) (hiM N J) (gdM I N B J n) (5000 - (I3 31 + 1)) (at_ + 1) cur (w + 1) (va_up acc w cur) := by rw [← hR2, it_way (hgf.symm.trans c105) (by omega) c119]
                              have hW5 : ∀ i j, i < w + 1 → j < n → J5 33 (8 * i + j) = va_up acc w cur i j := fun i j hi hj => by
                                rw [hJ5, show j6 = n by omega]
                                unfold wset
                                by_cases q : i = w
                                · subst q; rw [if_pos (by omega), up_s, show 8 * i + j - 8 * i = j by omega]; exact hJ j (by omega)
                                · rw [if_neg (by omega), up_n q]; exact hW i j (by omega) hj
                              refine lv_iload C.1 C.2.1 dX5_tries_170 (lv_at hl 0 rfl) ?_
                              refine q_ifeqB (tgt := 203) C dX5_tries_172 (by decide) (fun c172 => ?_) (fun c172 => ?_)
                              · have lp203 : ∀ (n203 : Nat) (b : Nat) (B6 : Nat → Nat → Bool), b < n203 → (b ≤ at_ + 1) → (∀ x, B6 26 x = decide (levF (N 28) b x ≠ 0)) → (∀ q, q ≠ 26 → B6 q = B q) → (rsM I N B J n = itB n (loM N J) (hiM N J) (gdM I N B J n) (5000 - (I3 31 + 1)) b cur (w + 1) (va_up acc w cur)) → ∀ (f : fw_F) (H : Heap) (locs : List Loc) (ls : Array Slot), fw_S G A s f H locs → isO G dM f 2000 h a (va_up I3 31 ((I3 31) + 1)) N B6 J5 → fw_fr f0 f 2000 2035 → lv_has ls 7 [(2, .int (nI (w + 1))), (3, .int (mI b)), (0, .ref h), (1, .int (nI n))] → W p l e ({ frames := 2, cells := 0, slots := 0, locals := 46 }) s m [.ref h, .int (nI n)].toArray below meth c H locs 0 0 (MQ below (va_Qi (fun (r : Int32) (f1 : fw_F) => r = (rsM I N B J n).1 ∧ ∃ B' J', isO G dM f1 2000 h a (va_up I 31 (rsM I N B J n).2.1) N B' J' ∧ (∀ q, q ≠ 26 → B' q = B q) ∧ (∀ x, B' 26 x = true → ∃ j, j < n ∧ x = N 28 j) ∧ (∀ q, q ≠ 27 → q ≠ 33 → J' q = J q) ∧ (r = -3 ∨ r = -4 ∨ ∃ w, w ≤ 200 ∧ r = nI w ∧ ∀ i j, i < w → j < n → J' 33 (8 * i + j) = (rsM I N B J n).2.2 i j) ∧ fw_fr f0 f1 2000 2035) (fw_B G A) A) [.ref h, .int (nI n)].toArray s 0 0 A) (F0 m 203 ls []) := by
                                  intro n203
                                  induction n203 with
                                  | zero => intro b B6 hme203; exact absurd hme203 (Nat.not_lt_zero _)
                                  | succ n203 ih203 =>
                                    intro b B6 hme203 hb hB6 hB6k hR6 f H locs ls S O F hl
                                    refine lv_iload_n C.1 C.2.1 dX5_tries_203 rfl (lv_at hl 1 rfl) ?_
                                    refine lv_if_lt (tgt := 251) C.1 C.2.1 dX5_tries_204 (by decide) (fun c204 => ?_) (fun c204 => ?_)
                                    · refine lv_iload_n C.1 C.2.1 dX5_tries_251 rfl (lv_at hl 1 rfl) ?_
                                      refine lv_if_lt (tgt := 270) C.1 C.2.1 dX5_tries_252 (by decide) (fun c252 => ?_) (fun c252 => ?_)
                                      · refine lv_goto (tgt := 26) C.1 C.2.1 dX5_tries_270 (by decide) ?_
                                        have hb0 : b = 0 := (mI_lt (by omega)).mp c204
                                        subst hb0
                                        exact ih26 0 (w + 1) (va_up I3 31 ((I3 31) + 1)) B6 J5 cur (va_up acc w cur) (by show 5000 - (I3 31 + 1) < _; omega) (by omega) (by omega) (by rw [up_s]; exact hI2) (by show I3 31 + 1 ≤ 5000; omega) (fun x _ => hB6 x) hB6k (fun j hj => absurd hj (Nat.not_lt_zero j)) (fun i j hi hj => by show J5 33 (8 * i + j) = _; exact hW5 i j hi hj) (fun q a1 a2 => (hJ5k q a2).trans (hJk q a1 a2)) ⟨fun _ => by rw [hR6, itB_0, up_s, show 5000 - (5000 - (I3 31 + 1)) = I3 31 + 1 by omega], fun q => absurd q (Nat.lt_irrefl 0)⟩ _ _ _ _ S O F (lv_sub hl [1, 0, 2, 3] rfl)
                                      · exact absurd c204 c252
                                    · obtain ⟨b0, rfl⟩ : ∃ q, b = q + 1 := ⟨b - 1, by have := mt (mI_lt (m := b) (by omega)).mpr c204; omega⟩
                                      rw [mI_s] at hl
                                      refine lv_aload_n C.1 C.2.1 dX5_tries_207 rfl (lv_at hl 2 rfl) ?_
                                      refine o_get (v := .ref (a 27)) C S O rfl inX5_tries_X5 27 (Nat.le_of_ble_eq_true rfl) lkX5_tries_78 rfl dX5_tries_208 ?_
                                      refine lv_aload_n C.1 C.2.1 dX5_tries_211 rfl (lv_at hl 2 rfl) ?_
                                      refine o_get (v := .ref (a 28)) C S O rfl inX5_tries_X5 28 (Nat.le_of_ble_eq_true rfl) lkX5_tries_81 rfl dX5_tries_212 ?_
                                      refine lv_iload_n C.1 C.2.1 dX5_tries_215 rfl (lv_at hl 1 rfl) ?_
                                      refine o_nald (x := (N 28) b0) C S O 28 (Nat.le_of_ble_eq_true rfl) rfl b0 rfl (show b0 < 32 from by first | omega | exact hL _ | exact hP _ | exact hF _) (Nat.le_of_ble_eq_true rfl) rfl dX5_tries_216 ?_
                                      refine o_lald (x := cur b0) C S O 27 (Nat.le_of_ble_eq_true rfl) rfl ((N 28) b0) rfl (show (N 28) b0 < 64 from by first | omega | exact hF _) (Nat.le_of_ble_eq_true rfl) ((congrFun (hJ5k 27 (by decide)) _).trans (hJ b0 (by omega))) dX5_tries_217 ?_
                                      refine lv_aload_n C.1 C.2.1 dX5_tries_218 rfl (lv_at hl 2 rfl) ?_
                                      refine o_get (v := .ref (a 25)) C S O rfl inX5_tries_X5 25 (Nat.le_of_ble_eq_true rfl) lkX5_tries_72 rfl dX5_tries_219 ?_
                                      refine lv_aload_n C.1 C.2.1 dX5_tries_222 rfl (lv_at hl 2 rfl) ?_
                                      refine o_get (v := .ref (a 28)) C S O rfl inX5_tries_X5 28 (Nat.le_of_ble_eq_true rfl) lkX5_tries_81 rfl dX5_tries_223 ?_
                                      refine lv_iload_n C.1 C.2.1 dX5_tries_226 rfl (lv_at hl 1 rfl) ?_
                                      refine o_nald (x := (N 28) b0) C S O 28 (Nat.le_of_ble_eq_true rfl) rfl b0 rfl (show b0 < 32 from by first | omega | exact hL _ | exact hP _ | exact hF _) (Nat.le_of_ble_eq_true rfl) rfl dX5_tries_227 ?_
                                      refine o_lald (x := hiM N J b0) C S O 25 (Nat.le_of_ble_eq_true rfl) rfl ((N 28) b0) rfl (show (N 28) b0 < 64 from by first | omega | exact hF _) (Nat.le_of_ble_eq_true rfl) (congrFun ((hJ5k 25 (by decide)).trans (hJk 25 (by decide) (by decide))) _) dX5_tries_228 ?_
                                      refine q_lcmp_ne (tgt := 251) C dX5_tries_229 dX5_tries_230 (by decide) (fun c229 => ?_) (fun c229 => ?_)
                                      · refine lv_iload_n C.1 C.2.1 dX5_tries_251 rfl (lv_at hl 1 rfl) ?_
                                        refine lv_if_lt (tgt := 270) C.1 C.2.1 dX5_tries_252 (by decide) (fun c252 => ?_) (fun c252 => ?_)
                                        · exact absurd c252 (nI_pos (by omega))
                                        · refine lv_aload_n C.1 C.2.1 dX5_tries_255 rfl (lv_at hl 2 rfl) ?_
                                          refine o_get (v := .ref (a 27)) C S O rfl inX5_tries_X5 27 (Nat.le_of_ble_eq_true rfl) lkX5_tries_78 rfl dX5_tries_256 ?_
                                          refine lv_aload_n C.1 C.2.1 dX5_tries_259 rfl (lv_at hl 2 rfl) ?_
                                          refine o_get (v := .ref (a 28)) C S O rfl inX5_tries_X5 28 (Nat.le_of_ble_eq_true rfl) lkX5_tries_81 rfl dX5_tries_260 ?_
                                          refine lv_iload_n C.1 C.2.1 dX5_tries_263 rfl (lv_at hl 1 rfl) ?_
                                          refine o_nald (x := (N 28) b0) C S O 28 (Nat.le_of_ble_eq_true rfl) rfl b0 rfl (show b0 < 32 from by first | omega | exact hL _ | exact hP _ | exact hF _) (Nat.le_of_ble_eq_true rfl) rfl dX5_tries_264 ?_
                                          refine lv_dup2_11 C.1 C.2.1 dX5_tries_265 rfl rfl ?_
                                          refine o_lald (x := cur b0) C S O 27 (Nat.le_of_ble_eq_true rfl) rfl ((N 28) b0) rfl (show (N 28) b0 < 64 from by first | omega | exact hF _) (Nat.le_of_ble_eq_true rfl) ((congrFun (hJ5k 27 (by decide)) _).trans (hJ b0 (by omega))) dX5_tries_266 ?_
                                          refine lv_lconst (v := 1) C.1 C.2.1 dX5_tries_267 (by decide) ?_
                                          refine lv_ladd C.1 C.2.1 dX5_tries_268 ?_
                                          refine o_last C S O F 27 (Nat.le_of_ble_eq_true rfl) rfl ((N 28) b0) rfl (show (N 28) b0 < 64 from by first | omega | exact hF _) (Nat.le_of_ble_eq_true rfl) ⟨by decide, by decide⟩ dX5_tries_269 (fun f H locs S O F => ?_)
                                          refine lv_goto (tgt := 26) C.1 C.2.1 dX5_tries_270 (by decide) ?_
                                          have hl : lv_has ls 7 [(2, .int (nI (w + 1))), (3, .int (mI (b0 + 1))), (0, .ref h), (1, .int (nI n))] := by rw [mI_s]; exact hl
                                          exact ih26 (b0 + 1) (w + 1) (va_up I3 31 ((I3 31) + 1)) B6 (va_up J5 27 (va_up (J5 27) ((N 28) b0) ((cur b0) + 1))) (va_up cur b0 (cur b0 + 1)) (va_up acc w cur) (by show 5000 - (I3 31 + 1) < _; omega) (by omega) (by omega) (by rw [up_s]; exact hI2) (by show I3 31 + 1 ≤ 5000; omega) (fun x hx => tb_lev hd (by omega) hB6 x (hx.resolve_left (by omega))) hB6k (tj_up hd (by omega) (fun j hj => ((congrFun (hJ5k 27 (by decide)) _).trans (hJ j (by omega))))) (fun i j hi hj => by show J5 33 (8 * i + j) = _; exact hW5 i j hi hj) (fun q a1 a2 => by rw [up_n a1]; exact (hJ5k q a2).trans (hJk q a1 a2)) ⟨fun q => absurd q (by omega), fun _ => by rw [up_s, hR6, itB_ne c229]; rfl⟩ _ _ _ _ S O F (lv_sub hl [1, 0, 2, 3] rfl)
                                      · refine lv_aload_n C.1 C.2.1 dX5_tries_233 rfl (lv_at hl 2 rfl) ?_
                                        refine o_get (v := .ref (a 26)) C S O rfl inX5_tries_X5 26 (Nat.le_of_ble_eq_true rfl) lkX5_tries_75 rfl dX5_tries_234 ?_
                                        refine lv_aload_n C.1 C.2.1 dX5_tries_237 rfl (lv_at hl 2 rfl) ?_
                                        refine o_get (v := .ref (a 28)) C S O rfl inX5_tries_X5 28 (Nat.le_of_ble_eq_true rfl) lkX5_tries_81 rfl dX5_tries_238 ?_
                                        refine lv_iload_n C.1 C.2.1 dX5_tries_241 rfl (lv_at hl 1 rfl) ?_
                                        refine o_nald (x := (N 28) b0) C S O 28 (Nat.le_of_ble_eq_true rfl) rfl b0 rfl (show b0 < 32 from by first | omega | exact hL _ | exact hP _ | exact hF _) (Nat.le_of_ble_eq_true rfl) rfl dX5_tries_242 ?_
                                        refine lv_iconst (v := bI false) C.1 C.2.1 dX5_tries_243 (by decide) ?_
                                        refine o_yast C S O F 26 (Nat.le_of_ble_eq_true rfl) rfl ((N 28) b0) rfl (show (N 28) b0 < 64 from by first | omega | exact hF _) (Nat.le_of_ble_eq_true rfl) ⟨by decide, by decide⟩ dX5_tries_244 (fun f H locs S O F => ?_)
                                        refine lv_iinc (v := mI b0) (lv' := [(3, .int (mI b0)), (2, .int (nI (w + 1))), (0, .ref h), (1, .int (nI n))]) C.1 C.2.1 dX5_tries_245 hl (k := 1) rfl (mI_dec b0) (by decide) rfl (fun ls hl => ?_)
                                        refine lv_goto (tgt := 203) C.1 C.2.1 dX5_tries_248 (by decide) ?_
                                        exact ih203 b0 (va_up B6 26 (va_up (B6 26) ((N 28) b0) false)) (by omega) (by omega) (fun x => tb_clr hd (by omega) hB6 x) (fun q hq => by rw [up_n hq]; exact hB6k q hq) (by rw [hR6, itB_eq c229]) _ _ _ _ S O F (lv_sub hl [1, 0, 2, 3] rfl)
                                have hl : lv_has ls 7 [(5, .int (bI false)), (2, .int (nI (w + 1))), (6, .int (nI j6)), (4, .int (nI ((N 28) at_))), (3, .int (mI (at_ + 1))), (0, .ref h), (1, .int (nI n))] := by rw [mI_s]; exact hl
                                exact lp203 (at_ + 2) (at_ + 1) (va_up B3 26 (va_up (B3 26) ((N 28) at_) true)) (by omega) (by omega) hB4 (fun q hq => by rw [up_n hq]; exact hBk q hq) hR5 _ _ _ _ S O F (lv_sub hl [1, 4, 5, 6] rfl)
                              · exact absurd c172 (by decide)
                            · refine lv_aload_n C.1 C.2.1 dX5_tries_134 rfl (lv_at hl 5 rfl) ?_
                              refine o_get (v := .ref (a 33)) C S O rfl inX5_tries_X5 33 (Nat.le_of_ble_eq_true rfl) lkX5_tries_84 rfl dX5_tries_135 ?_
                              refine lv_bipush (v := nI 8) C.1 C.2.1 dX5_tries_138 (by decide) ?_
                              refine lv_iload_n C.1 C.2.1 dX5_tries_140 rfl (lv_at hl 4 rfl) ?_
                              refine q_imul C dX5_tries_141 ?_
                              refine lv_iload C.1 C.2.1 dX5_tries_142 (lv_at hl 0 rfl) ?_
                              refine q_iadd C dX5_tries_144 ?_
                              refine lv_aload_n C.1 C.2.1 dX5_tries_145 rfl (lv_at hl 5 rfl) ?_
                              refine o_get (v := .ref (a 27)) C S O rfl inX5_tries_X5 27 (Nat.le_of_ble_eq_true rfl) lkX5_tries_78 rfl dX5_tries_146 ?_
                              refine lv_aload_n C.1 C.2.1 dX5_tries_149 rfl (lv_at hl 5 rfl) ?_
                              refine o_get (v := .ref (a 28)) C S O rfl inX5_tries_X5 28 (Nat.le_of_ble_eq_true rfl) lkX5_tries_81 rfl dX5_tries_150 ?_
                              refine lv_iload C.1 C.2.1 dX5_tries_153 (lv_at hl 0 rfl) ?_
                              refine o_nald (x := (N 28) j6) C S O 28 (Nat.le_of_ble_eq_true rfl) rfl j6 rfl (show j6 < 32 from by first | omega | exact hL _ | exact hP _ | exact hF _) (Nat.le_of_ble_eq_true rfl) rfl dX5_tries_155 ?_
                              refine o_lald (x := J3 27 (N 28 j6)) C S O 27 (Nat.le_of_ble_eq_true rfl) rfl ((N 28) j6) rfl (show (N 28) j6 < 64 from by first | omega | exact hF _) (Nat.le_of_ble_eq_true rfl) (congrFun (hJ5k 27 (by decide)) _) dX5_tries_156 ?_
                              refine o_last C S O F 33 (Nat.le_of_ble_eq_true rfl) rfl ((8 * w) + j6) rfl (show (8 * w) + j6 < 1600 from by first | omega | exact hF _) (Nat.le_of_ble_eq_true rfl) ⟨by decide, by decide⟩ dX5_tries_157 (fun f H locs S O F => ?_)
                              refine q_iinc (d := 1) (lv' := [(6, .int (nI (j6 + 1))), (5, .int (bI g)), (4, .int (nI ((N 28) at_))), (3, .int (nI at_)), (2, .int (nI w)), (0, .ref h), (1, .int (nI n))]) C dX5_tries_158 hl (k := 0) rfl (by decide) (by decide) rfl (fun ls hl => ?_)
                              refine lv_goto (tgt := 128) C.1 C.2.1 dX5_tries_161 (by decide) ?_
                              exact ih128 (j6 + 1) (va_up J5 33 (va_up (J5 33) ((8 * w) + j6) (J3 27 (N 28 j6)))) (by omega) (by omega) (by show va_up (J5 33) (8 * w + j6) _ = _; rw [wset_s, ← hJ5]) (fun q hq => by rw [up_n hq]; exact hJ5k q hq) _ _ _ _ S O F (lv_sub hl [0, 1, 2, 3, 4, 5, 6] rfl)
                        exact lp128 (n + 1) 0 J3 (by omega) (by omega) (wset_0 _ _ _).symm (fun _ _ => rfl) _ _ _ _ S O F (lv_sub hl [0, 1, 2, 3, 4, 5, 6] rfl)
                      · have hRz : rsM I N B J n = (-4, 5000 - (5000 - (I3 31 + 1)), acc) := by rw [← hR2, it_full (hgf.symm.trans c105) (by omega) c119]
                        refine lv_bipush (v := (-4)) C.1 C.2.1 dX5_tries_122 (by decide) ?_
                        exact q_retQi C S hr hlk ⟨by rw [hRz], (va_up B3 26 (va_up (B3 26) (N 28 at_) true)), J3, by rw [hRz, show 5000 - (5000 - (I3 31 + 1)) = I3 31 + 1 by omega, ← hI2]; exact O, fun q hq => by rw [up_n hq]; exact hBk q hq, fun x hx => (by rw [hB4 x] at hx; obtain ⟨k, k1, k2, k3⟩ := levF_ne0 (of_decide_eq_true hx); exact ⟨k, by omega, k2.symm⟩), hJk, Or.inr (Or.inl rfl), F⟩ dX5_tries_124
                · refine lv_aload_n C.1 C.2.1 dX5_tries_89 rfl (lv_at hl 5 rfl) ?_
                  refine lv_iload C.1 C.2.1 dX5_tries_90 (lv_at hl 0 rfl) ?_
                  refine q_callSi (As := [.int (nI t6)]) (rest := []) C S hl O.1 rfl (m_holds O t6 (by omega) hMI) (cwV 1 C.2.2.2.2 gX5_tries_X5_holds rfl rfl rfl (by decide +kernel) ⟨Nat.le_of_ble_eq_true rfl, Nat.le_of_ble_eq_true rfl⟩) rfl rfl (Nat.le_of_ble_eq_true rfl) ⟨Nat.le_of_ble_eq_true rfl, Nat.le_of_ble_eq_true rfl⟩ dX5_tries_92 (fun v hv => ?_)
                  subst hv
                  refine lv_istore (lv' := [(5, .int (bI (hoM N (va_up B3 26 (va_up (B3 26) ((N 28) at_) true)) J3 t6))), (6, .int (nI t6)), (4, .int (nI ((N 28) at_))), (3, .int (nI at_)), (2, .int (nI w)), (0, .ref h), (1, .int (nI n))]) C.1 C.2.1 dX5_tries_95 hl (by decide) rfl (fun ls hl => ?_)
                  refine q_iinc (d := 1) (lv' := [(6, .int (nI (t6 + 1))), (5, .int (bI (hoM N (va_up B3 26 (va_up (B3 26) ((N 28) at_) true)) J3 t6))), (4, .int (nI ((N 28) at_))), (3, .int (nI at_)), (2, .int (nI w)), (0, .ref h), (1, .int (nI n))]) C dX5_tries_97 hl (k := 1) rfl (by decide) (by decide) rfl (fun ls hl => ?_)
                  refine lv_goto (tgt := 75) C.1 C.2.1 dX5_tries_100 (by decide) ?_
                  exact ih75 (t6 + 1) (hoM N (va_up B3 26 (va_up (B3 26) ((N 28) at_) true)) J3 t6) (by omega) (by omega) (by rw [allb_s, ← hg, c86]; rfl) _ (lv_sub hl [0, 1, 2, 3, 4, 5, 6] rfl)
          exact lp75 (I 15 + 1) 0 true (by omega) (by omega) rfl _ (lv_sub hl [0, 1, 2, 3, 4, 5, 6] rfl)
        · have hRz : rsM I N B J n = (-3, 5000, acc) := by rw [← hR1, show 5000 - I3 31 = 0 by omega]; rfl
          refine lv_bipush (v := (-3)) C.1 C.2.1 dX5_tries_40 (by decide) ?_
          exact q_retQi C S hr hlk ⟨by rw [hRz], B3, J3, by rw [hRz, show (5000 : Nat) = I3 31 by omega, ← hI]; exact O, hBk, fun x hx => (by by_cases q : x = N 28 at_; exact ⟨at_, by omega, q⟩; rw [hB1 x q] at hx; obtain ⟨k, k1, k2, k3⟩ := levF_ne0 (of_decide_eq_true hx); exact ⟨k, by omega, k2.symm⟩), hJk, Or.inl rfl, F⟩ dX5_tries_42
  have hl : lv_has ls 7 [(3, .int (mI 1)), (2, .int (nI 0)), (0, .ref h), (1, .int (nI n))] := hl
  exact lp26 5001 1 0 I B (va_up J 27 (va_up (J 27) ((N 28) 0) ((J 24) ((N 28) 0)))) (va_up (fun _ => 0) 0 (loM N J 0)) (fun _ _ => 0) (by omega) (by omega) (by omega) (up_id I 31).symm (by omega) (fun x _ => h26 x) (fun _ _ => rfl) (tj_up (b := 0) hd (by omega) (fun j hj => absurd hj (Nat.not_lt_zero j))) (fun i j hi => absurd hi (Nat.not_lt_zero i)) (fun q a1 _ => by rw [up_n a1]) ⟨fun q => absurd q (by decide), fun _ => by rw [h31]; rfl⟩ _ _ _ _ S O F (lv_sub hl [0, 1, 2, 3] rfl)
