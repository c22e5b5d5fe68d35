theorem inX5_works_X5 : ∀ w ∈ u_ws RX5 TX5 34, w ∈ wsX5_works := (fun _ h => (List.mem_cons_of_mem _ (List.mem_append_right _ h)))
theorem lkX5_works_87 : Cond.fieldLink RX5 87 (TX5 0).1 (TX5 0).2.1 (TX5 0).2.2.1 ∈ wsX5_works := List.mem_of_getElem? (i := 1) rfl
theorem lkX5_works_91 : Cond.fieldLink RX5 91 (TX5 6).1 (TX5 6).2.1 (TX5 6).2.2.1 ∈ wsX5_works := List.mem_of_getElem? (i := 5) rfl
theorem lkX5_works_108 : Cond.fieldLink RX5 108 (TX5 15).1 (TX5 15).2.1 (TX5 15).2.2.1 ∈ wsX5_works := List.mem_of_getElem? (i := 27) rfl
theorem lkX5_works_63 : Cond.fieldLink RX5 63 (TX5 22).1 (TX5 22).2.1 (TX5 22).2.2.1 ∈ wsX5_works := List.mem_of_getElem? (i := 4) rfl
theorem lkX5_works_69 : Cond.fieldLink RX5 69 (TX5 24).1 (TX5 24).2.1 (TX5 24).2.2.1 ∈ wsX5_works := List.mem_of_getElem? (i := 18) rfl
theorem lkX5_works_72 : Cond.fieldLink RX5 72 (TX5 25).1 (TX5 25).2.1 (TX5 25).2.2.1 ∈ wsX5_works := List.mem_of_getElem? (i := 22) rfl
theorem lkX5_works_59 : Cond.fieldLink RX5 59 (TX5 21).1 (TX5 21).2.1 (TX5 21).2.2.1 ∈ wsX5_works := List.mem_of_getElem? (i := 3) rfl
theorem lkX5_works_66 : Cond.fieldLink RX5 66 (TX5 23).1 (TX5 23).2.1 (TX5 23).2.2.1 ∈ wsX5_works := List.mem_of_getElem? (i := 16) rfl
theorem lkX5_works_56 : Cond.fieldLink RX5 56 (TX5 20).1 (TX5 20).2.1 (TX5 20).2.2.1 ∈ wsX5_works := List.mem_of_getElem? (i := 2) rfl
theorem lkX5_works_13 : Cond.fieldLink RX5 13 (TX5 2).1 (TX5 2).2.1 (TX5 2).2.2.1 ∈ wsX5_works := List.mem_of_getElem? (i := 7) rfl
theorem lkX5_works_9 : Cond.fieldLink RX5 9 (TX5 1).1 (TX5 1).2.1 (TX5 1).2.2.1 ∈ wsX5_works := List.mem_of_getElem? (i := 6) rfl
theorem lkX5_works_19 : Cond.fieldLink RX5 19 (TX5 4).1 (TX5 4).2.1 (TX5 4).2.2.1 ∈ wsX5_works := List.mem_of_getElem? (i := 17) rfl
theorem lkX5_works_23 : Cond.fieldLink RX5 23 (TX5 5).1 (TX5 5).2.1 (TX5 5).2.2.1 ∈ wsX5_works := List.mem_of_getElem? (i := 23) rfl
theorem lkX5_works_16 : Cond.fieldLink RX5 16 (TX5 3).1 (TX5 3).2.1 (TX5 3).2.2.1 ∈ wsX5_works := List.mem_of_getElem? (i := 8) rfl
set_option maxHeartbeats 4000000 in
set_option maxRecDepth 100000 in
theorem m_works {l : Launch} {G : fw_G} {A : Nat → Prop} {f0 : fw_F} {h : Nat} {a : Nat → Nat} {I : Nat → Nat} {N : Nat → Nat → Nat} {B : Nat → Nat → Bool} {J : Nat → Nat → Int64} (O : isO G dM f0 2000 h a I N B J) (hM : mOK I N)  : Met l yX5_works wsX5_works ({ frames := 2, cells := 0, slots := 0, locals := 46 }) (va_Pc [.ref h] (fw_P G A f0)) (va_Qi (fun (r : Int32) (f1 : fw_F) => ∃ N' B' J', isO G dM f1 2000 h a I N' B' J' ∧ fw_fr f0 f1 2000 2035 ∧ r = bI (wkC N' B' J' I N B J) ∧ wkT N' B' J' I N B J) (fw_B G A) A) 0 0 A := by
  refine q_head rfl (by decide) (Nat.le_of_ble_eq_true rfl) ?_
  intro p e s m below meth c ls C hr hlk hnm P hl
  have S := P.start
  have hl : lv_has ls 5 [(0, .ref h)] := hl
  have F := fw_fr_rf f0 2000 2035
  have hM0 := hM
  obtain ⟨⟨hm0, hm6, hm9, hm15, hm19⟩, ⟨hs1, hs2, hs3⟩, ⟨hP7, hk10, hk11, hk12⟩, hL, hF⟩ := hM
  refine lv_iconst (v := nI 0) C.1 C.2.1 dX5_works_0 (by decide) ?_
  refine lv_istore_n (lv' := [(1, .int (nI 0)), (0, .ref h)]) C.1 C.2.1 dX5_works_1 rfl hl (by decide) rfl (fun ls hl => ?_)
  have lp2 : ∀ (n2 : Nat) (z : Nat) (N1 : Nat → Nat → Nat) (B1 : Nat → Nat → Bool), I 0 - z < n2 → (z ≤ I 0) → (N1 20 = initL (N 20) z) → (∀ k, k ≠ 20 → N1 k = N k) → (B1 21 = initB (B 21) z) → (B1 22 = initB (B 22) z) → (∀ k, k ≠ 21 → k ≠ 22 → B1 k = B k) → (∀ i, N1 20 i < 64) → ∀ (f : fw_F) (H : Heap) (locs : List Loc) (ls : Array Slot), fw_S G A s f H locs → isO G dM f 2000 h a I N1 B1 J → fw_fr f0 f 2000 2035 → lv_has ls 5 [(1, .int (nI z)), (0, .ref h)] → W p l e ({ frames := 2, cells := 0, slots := 0, locals := 46 }) s m [.ref h].toArray below meth c H locs 0 0 (MQ below (va_Qi (fun (r : Int32) (f1 : fw_F) => ∃ N' B' J', isO G dM f1 2000 h a I N' B' J' ∧ fw_fr f0 f1 2000 2035 ∧ r = bI (wkC N' B' J' I N B J) ∧ wkT N' B' J' I N B J) (fw_B G A) A) [.ref h].toArray s 0 0 A) (F0 m 2 ls []) := by
    intro n2
    induction n2 with
    | zero => intro z N1 B1 hme2; exact absurd hme2 (Nat.not_lt_zero _)
    | succ n2 ih2 =>
      intro z N1 B1 hme2 hz ha1 hkN1 ha2 ha3 hkB1 hL1 f H locs ls S O F hl
      refine lv_iload_n C.1 C.2.1 dX5_works_2 rfl (lv_at hl 0 rfl) ?_
      refine lv_aload_n C.1 C.2.1 dX5_works_3 rfl (lv_at hl 1 rfl) ?_
      refine o_get (v := .int (nI (I 0))) C S O rfl inX5_works_X5 0 (Nat.le_of_ble_eq_true rfl) lkX5_works_87 rfl dX5_works_4 ?_
      refine q_ge (tgt := 37) C (by omega) (by omega) dX5_works_7 (by decide) (fun c7 => ?_) (fun c7 => ?_)
      · refine lv_iconst (v := nI 0) C.1 C.2.1 dX5_works_37 (by decide) ?_
        refine lv_istore_n (lv' := [(1, .int (nI 0)), (0, .ref h)]) C.1 C.2.1 dX5_works_38 rfl hl (by decide) rfl (fun ls hl => ?_)
        have lp39 : ∀ (n39 : Nat) (y : Nat) (N2 : Nat → Nat → Nat), I 6 - y < n39 → (y ≤ I 6) → (N2 20 = wF (I 0) (N 1) (N 2) (N 3) (N 20) y) → (∀ k, k ≠ 20 → N2 k = N k) → (∀ i, N2 20 i < 64) → ∀ (f : fw_F) (H : Heap) (locs : List Loc) (ls : Array Slot), fw_S G A s f H locs → isO G dM f 2000 h a I N2 B1 J → fw_fr f0 f 2000 2035 → lv_has ls 5 [(1, .int (nI y)), (0, .ref h)] → W p l e ({ frames := 2, cells := 0, slots := 0, locals := 46 }) s m [.ref h].toArray below meth c H locs 0 0 (MQ below (va_Qi (fun (r : Int32) (f1 : fw_F) => ∃ N' B' J', isO G dM f1 2000 h a I N' B' J' ∧ fw_fr f0 f1 2000 2035 ∧ r = bI (wkC N' B' J' I N B J) ∧ wkT N' B' J' I N B J) (fw_B G A) A) [.ref h].toArray s 0 0 A) (F0 m 39 ls []) := by
          intro n39
          induction n39 with
          | zero => intro y N2 hme39; exact absurd hme39 (Nat.not_lt_zero _)
          | succ n39 ih39 =>
            intro y N2 hme39 hy hb1 hkN2 hL2 f H locs ls S O F hl
            refine lv_iload_n C.1 C.2.1 dX5_works_39 rfl (lv_at hl 0 rfl) ?_
            refine lv_aload_n C.1 C.2.1 dX5_works_40 rfl (lv_at hl 1 rfl) ?_
            refine o_get (v := .int (nI (I 6))) C S O rfl inX5_works_X5 6 (Nat.le_of_ble_eq_true rfl) lkX5_works_91 rfl dX5_works_41 ?_
            refine q_ge (tgt := 155) C (by omega) (by omega) dX5_works_44 (by decide) (fun c44 => ?_) (fun c44 => ?_)
            · refine lv_iconst (v := bI true) C.1 C.2.1 dX5_works_155 (by decide) ?_
              refine lv_istore_n (lv' := [(1, .int (bI true)), (0, .ref h)]) C.1 C.2.1 dX5_works_156 rfl hl (by decide) rfl (fun ls hl => ?_)
              refine lv_iconst (v := nI 0) C.1 C.2.1 dX5_works_157 (by decide) ?_
              refine lv_istore_n (lv' := [(2, .int (nI 0)), (1, .int (bI true)), (0, .ref h)]) C.1 C.2.1 dX5_works_158 rfl hl (by decide) rfl (fun ls hl => ?_)
              have lp159 : ∀ (n159 : Nat) (v : Nat) (can : Bool) (B4 : Nat → Nat → Bool) (J4 : Nat → Nat → Int64), I 6 - v < n159 → (v ≤ I 6) → (B4 21 = hnF (N2 20) (N 1) (N 2) (initB (B 21) (I 0)) v) → (J4 23 = nuF (N2 20) (N 1) (N 2) (J 4) (J 23) v) → (B4 22 = hsF (N2 20) (N 1) (N 2) (initB (B 22) (I 0)) v) → (J4 24 = loF (N2 20) (N 1) (N 2) (J 4) (initB (B 22) (I 0)) (J 24) v) → (J4 25 = hiF (N2 20) (N 1) (N 2) (J 5) (initB (B 22) (I 0)) (J 25) v) → (can = canF (N2 20) (N 1) (N 2) (J 4) (initB (B 21) (I 0)) (J 23) v) → (∀ k, k ≠ 21 → k ≠ 22 → B4 k = B k) → (∀ k, k ≠ 23 → k ≠ 24 → k ≠ 25 → J4 k = J k) → ∀ (f : fw_F) (H : Heap) (locs : List Loc) (ls : Array Slot), fw_S G A s f H locs → isO G dM f 2000 h a I N2 B4 J4 → fw_fr f0 f 2000 2035 → lv_has ls 5 [(2, .int (nI v)), (1, .int (bI can)), (0, .ref h)] → W p l e ({ frames := 2, cells := 0, slots := 0, locals := 46 }) s m [.ref h].toArray below meth c H locs 0 0 (MQ below (va_Qi (fun (r : Int32) (f1 : fw_F) => ∃ N' B' J', isO G dM f1 2000 h a I N' B' J' ∧ fw_fr f0 f1 2000 2035 ∧ r = bI (wkC N' B' J' I N B J) ∧ wkT N' B' J' I N B J) (fw_B G A) A) [.ref h].toArray s 0 0 A) (F0 m 159 ls []) := by
                intro n159
                induction n159 with
                | zero => intro v can B4 J4 hme159; exact absurd hme159 (Nat.not_lt_zero _)
                | succ n159 ih159 =>
                  intro v can B4 J4 hme159 hv hd1 hd2 hd3 hd4 hd5 hd6 hkB4 hkJ4 f H locs ls S O F hl
                  refine lv_iload_n C.1 C.2.1 dX5_works_159 rfl (lv_at hl 0 rfl) ?_
                  refine lv_aload_n C.1 C.2.1 dX5_works_160 rfl (lv_at hl 2 rfl) ?_
                  refine o_get (v := .int (nI (I 6))) C S O rfl inX5_works_X5 6 (Nat.le_of_ble_eq_true rfl) lkX5_works_91 rfl dX5_works_161 ?_
                  refine q_ge (tgt := 343) C (by omega) (by omega) dX5_works_164 (by decide) (fun c164 => ?_) (fun c164 => ?_)
                  · refine lv_iconst (v := nI 0) C.1 C.2.1 dX5_works_343 (by decide) ?_
                    refine lv_istore_n (lv' := [(2, .int (nI 0)), (1, .int (bI can)), (0, .ref h)]) C.1 C.2.1 dX5_works_344 rfl hl (by decide) rfl (fun ls hl => ?_)
                    have lp345 : ∀ (n345 : Nat) (k : Nat) (can2 : Bool), I 0 - k < n345 → (k ≤ I 0) → (can2 = (can && allb (spOk (B4 21) (B4 22) (J4 23) (J4 24) (J4 25)) k)) → ∀ (ls : Array Slot), lv_has ls 5 [(2, .int (nI k)), (1, .int (bI can2)), (0, .ref h)] → W p l e ({ frames := 2, cells := 0, slots := 0, locals := 46 }) s m [.ref h].toArray below meth c H locs 0 0 (MQ below (va_Qi (fun (r : Int32) (f1 : fw_F) => ∃ N' B' J', isO G dM f1 2000 h a I N' B' J' ∧ fw_fr f0 f1 2000 2035 ∧ r = bI (wkC N' B' J' I N B J) ∧ wkT N' B' J' I N B J) (fw_B G A) A) [.ref h].toArray s 0 0 A) (F0 m 345 ls []) := by
                      intro n345
                      induction n345 with
                      | zero => intro k can2 hme345; exact absurd hme345 (Nat.not_lt_zero _)
                      | succ n345 ih345 =>
                        intro k can2 hme345 hk he2 ls hl
                        refine lv_iload_n C.1 C.2.1 dX5_works_345 rfl (lv_at hl 0 rfl) ?_
                        refine lv_aload_n C.1 C.2.1 dX5_works_346 rfl (lv_at hl 2 rfl) ?_
                        refine o_get (v := .int (nI (I 0))) C S O rfl inX5_works_X5 0 (Nat.le_of_ble_eq_true rfl) lkX5_works_87 rfl dX5_works_347 ?_
                        refine q_ge (tgt := 427) C (by omega) (by omega) dX5_works_350 (by decide) (fun c350 => ?_) (fun c350 => ?_)
                        · refine lv_iconst (v := nI 0) C.1 C.2.1 dX5_works_427 (by decide) ?_
                          refine lv_istore_n (lv' := [(2, .int (nI 0)), (1, .int (bI can2)), (0, .ref h)]) C.1 C.2.1 dX5_works_428 rfl hl (by decide) rfl (fun ls hl => ?_)
                          have lp429 : ∀ (n429 : Nat) (t : Nat) (can3 : Bool), I 15 - t < n429 → (t ≤ I 15) → (can3 = (can && allb (spOk (B4 21) (B4 22) (J4 23) (J4 24) (J4 25)) k && allb (hoM N2 B4 J4) t)) → ∀ (ls : Array Slot), lv_has ls 5 [(2, .int (nI t)), (1, .int (bI can3)), (0, .ref h)] → W p l e ({ frames := 2, cells := 0, slots := 0, locals := 46 }) s m [.ref h].toArray below meth c H locs 0 0 (MQ below (va_Qi (fun (r : Int32) (f1 : fw_F) => ∃ N' B' J', isO G dM f1 2000 h a I N' B' J' ∧ fw_fr f0 f1 2000 2035 ∧ r = bI (wkC N' B' J' I N B J) ∧ wkT N' B' J' I N B J) (fw_B G A) A) [.ref h].toArray s 0 0 A) (F0 m 429 ls []) := by
                            intro n429
                            induction n429 with
                            | zero => intro t can3 hme429; exact absurd hme429 (Nat.not_lt_zero _)
                            | succ n429 ih429 =>
                              intro t can3 hme429 ht hf2 ls hl
                              refine lv_iload_n C.1 C.2.1 dX5_works_429 rfl (lv_at hl 0 rfl) ?_
                              refine lv_aload_n C.1 C.2.1 dX5_works_430 rfl (lv_at hl 2 rfl) ?_
                              refine o_get (v := .int (nI (I 15))) C S O rfl inX5_works_X5 15 (Nat.le_of_ble_eq_true rfl) lkX5_works_108 rfl dX5_works_431 ?_
                              refine q_ge (tgt := 461) C (by omega) (by omega) dX5_works_434 (by decide) (fun c434 => ?_) (fun c434 => ?_)
                              · refine lv_iload_n C.1 C.2.1 dX5_works_461 rfl (lv_at hl 1 rfl) ?_
                                exact q_retQz (b := can3) C S hr hlk rfl ⟨N2, B4, J4, O, F, by rw [hf2, wkC, hd6, show v = I 6 by omega, show k = I 0 by omega, show t = I 15 by omega], ⟨by rw [hb1, show y = I 6 by omega], hkN2, hL2⟩, ⟨by rw [hd1, show v = I 6 by omega], by rw [hd3, show v = I 6 by omega], hkB4⟩, by rw [hd2, show v = I 6 by omega], by rw [hd4, show v = I 6 by omega], by rw [hd5, show v = I 6 by omega], hkJ4⟩ dX5_works_462
                              · refine lv_iload_n C.1 C.2.1 dX5_works_437 rfl (lv_at hl 1 rfl) ?_
                                refine q_ifeqB (tgt := 453) C dX5_works_438 (by decide) (fun c438 => ?_) (fun c438 => ?_)
                                · refine lv_iconst (v := bI false) C.1 C.2.1 dX5_works_453 (by decide) ?_
                                  refine lv_istore_n (lv' := [(1, .int (bI false)), (2, .int (nI t)), (0, .ref h)]) C.1 C.2.1 dX5_works_454 rfl hl (by decide) rfl (fun ls hl => ?_)
                                  refine q_iinc (d := 1) (lv' := [(2, .int (nI (t + 1))), (1, .int (bI false)), (0, .ref h)]) C dX5_works_455 hl (k := 1) rfl (by decide) (by decide) rfl (fun ls hl => ?_)
                                  refine lv_goto (tgt := 429) C.1 C.2.1 dX5_works_458 (by decide) ?_
                                  exact ih429 (t + 1) false (by omega) (by omega) (by show false = _; rw [allb_s, ← Bool.and_assoc, ← hf2, c438, Bool.false_and]) _ (lv_sub hl [0, 1, 2] rfl)
                                · refine lv_aload_n C.1 C.2.1 dX5_works_441 rfl (lv_at hl 2 rfl) ?_
                                  refine lv_iload_n C.1 C.2.1 dX5_works_442 rfl (lv_at hl 0 rfl) ?_
                                  refine q_callSi (As := [.int (nI t)]) (rest := []) C S hl O.1 rfl (m_holds O t (by omega) (mOK_20 hM0 hkN2 hL2)) (cwV 1 C.2.2.2.2 gX5_works_X5_holds rfl rfl rfl (by decide +kernel) ⟨Nat.le_of_ble_eq_true rfl, Nat.le_of_ble_eq_true rfl⟩) rfl rfl (Nat.le_of_ble_eq_true rfl) ⟨Nat.le_of_ble_eq_true rfl, Nat.le_of_ble_eq_true rfl⟩ dX5_works_443 (fun v hv => ?_)
                                  subst hv
                                  refine q_ifeqB (tgt := 453) C dX5_works_446 (by decide) (fun c446 => ?_) (fun c446 => ?_)
                                  · refine lv_iconst (v := bI false) C.1 C.2.1 dX5_works_453 (by decide) ?_
                                    refine lv_istore_n (lv' := [(1, .int (bI false)), (2, .int (nI t)), (0, .ref h)]) C.1 C.2.1 dX5_works_454 rfl hl (by decide) rfl (fun ls hl => ?_)
                                    refine q_iinc (d := 1) (lv' := [(2, .int (nI (t + 1))), (1, .int (bI false)), (0, .ref h)]) C dX5_works_455 hl (k := 1) rfl (by decide) (by decide) rfl (fun ls hl => ?_)
                                    refine lv_goto (tgt := 429) C.1 C.2.1 dX5_works_458 (by decide) ?_
                                    exact ih429 (t + 1) false (by omega) (by omega) (by show false = _; rw [allb_s, ← Bool.and_assoc, c446, Bool.and_false]) _ (lv_sub hl [0, 1, 2] rfl)
                                  · refine lv_iconst (v := bI true) C.1 C.2.1 dX5_works_449 (by decide) ?_
                                    refine lv_goto (tgt := 454) C.1 C.2.1 dX5_works_450 (by decide) ?_
                                    refine lv_istore_n (lv' := [(1, .int (bI true)), (2, .int (nI t)), (0, .ref h)]) C.1 C.2.1 dX5_works_454 rfl hl (by decide) rfl (fun ls hl => ?_)
                                    refine q_iinc (d := 1) (lv' := [(2, .int (nI (t + 1))), (1, .int (bI true)), (0, .ref h)]) C dX5_works_455 hl (k := 1) rfl (by decide) (by decide) rfl (fun ls hl => ?_)
                                    refine lv_goto (tgt := 429) C.1 C.2.1 dX5_works_458 (by decide) ?_
                                    exact ih429 (t + 1) true (by omega) (by omega) (by show true = _; rw [allb_s, ← Bool.and_assoc, ← hf2, c438, c446]; rfl) _ (lv_sub hl [0, 1, 2] rfl)
                          exact lp429 (I 15 + 1) 0 can2 (by omega) (by omega) (by rw [show allb (hoM N2 B4 J4) 0 = true from rfl, Bool.and_true]; exact he2) _ (lv_sub hl [0, 1, 2] rfl)
                        · refine lv_aload_n C.1 C.2.1 dX5_works_353 rfl (lv_at hl 2 rfl) ?_
                          refine o_get (v := .ref (a 22)) C S O rfl inX5_works_X5 22 (Nat.le_of_ble_eq_true rfl) lkX5_works_63 rfl dX5_works_354 ?_
                          refine lv_iload_n C.1 C.2.1 dX5_works_357 rfl (lv_at hl 0 rfl) ?_
                          refine o_yald (x := (B4 22) k) C S O 22 (Nat.le_of_ble_eq_true rfl) rfl k rfl (show k < 64 from by first | omega | exact hL _ | exact hP _ | exact hF _) (Nat.le_of_ble_eq_true rfl) rfl dX5_works_358 ?_
                          refine q_ifeqB (tgt := 421) C dX5_works_359 (by decide) (fun c359 => ?_) (fun c359 => ?_)
                          · refine q_iinc (d := 1) (lv' := [(2, .int (nI (k + 1))), (1, .int (bI can2)), (0, .ref h)]) C dX5_works_421 hl (k := 0) rfl (by decide) (by decide) rfl (fun ls hl => ?_)
                            refine lv_goto (tgt := 345) C.1 C.2.1 dX5_works_424 (by decide) ?_
                            exact ih345 (k + 1) can2 (by omega) (by omega) (by rw [allb_s, show spOk (B4 21) (B4 22) (J4 23) (J4 24) (J4 25) k = true from by unfold spOk; rw [c359]; rfl, Bool.and_true]; exact he2) _ (lv_sub hl [0, 1, 2] rfl)
                          · refine lv_aload_n C.1 C.2.1 dX5_works_362 rfl (lv_at hl 2 rfl) ?_
                            refine o_get (v := .ref (a 24)) C S O rfl inX5_works_X5 24 (Nat.le_of_ble_eq_true rfl) lkX5_works_69 rfl dX5_works_363 ?_
                            refine lv_iload_n C.1 C.2.1 dX5_works_366 rfl (lv_at hl 0 rfl) ?_
                            refine o_lald (x := (J4 24) k) C S O 24 (Nat.le_of_ble_eq_true rfl) rfl k rfl (show k < 64 from by first | omega | exact hL _ | exact hP _ | exact hF _) (Nat.le_of_ble_eq_true rfl) rfl dX5_works_367 ?_
                            refine lv_aload_n C.1 C.2.1 dX5_works_368 rfl (lv_at hl 2 rfl) ?_
                            refine o_get (v := .ref (a 25)) C S O rfl inX5_works_X5 25 (Nat.le_of_ble_eq_true rfl) lkX5_works_72 rfl dX5_works_369 ?_
                            refine lv_iload_n C.1 C.2.1 dX5_works_372 rfl (lv_at hl 0 rfl) ?_
                            refine o_lald (x := (J4 25) k) C S O 25 (Nat.le_of_ble_eq_true rfl) rfl k rfl (show k < 64 from by first | omega | exact hL _ | exact hP _ | exact hF _) (Nat.le_of_ble_eq_true rfl) rfl dX5_works_373 ?_
                            refine q_lcmp_gt (tgt := 419) C dX5_works_374 dX5_works_375 (by decide) (fun c374 => ?_) (fun c374 => ?_)
                            · refine lv_iconst (v := bI false) C.1 C.2.1 dX5_works_419 (by decide) ?_
                              refine lv_istore_n (lv' := [(1, .int (bI false)), (2, .int (nI k)), (0, .ref h)]) C.1 C.2.1 dX5_works_420 rfl hl (by decide) rfl (fun ls hl => ?_)
                              refine q_iinc (d := 1) (lv' := [(2, .int (nI (k + 1))), (1, .int (bI false)), (0, .ref h)]) C dX5_works_421 hl (k := 1) rfl (by decide) (by decide) rfl (fun ls hl => ?_)
                              refine lv_goto (tgt := 345) C.1 C.2.1 dX5_works_424 (by decide) ?_
                              exact ih345 (k + 1) false (by omega) (by omega) (by show false = _; rw [allb_s, show spOk (B4 21) (B4 22) (J4 23) (J4 24) (J4 25) k = false from by unfold spOk; rw [c359, decide_eq_false c374]; rfl, Bool.and_false, Bool.and_false]) _ (lv_sub hl [0, 1, 2] rfl)
                            · refine lv_aload_n C.1 C.2.1 dX5_works_378 rfl (lv_at hl 2 rfl) ?_
                              refine o_get (v := .ref (a 21)) C S O rfl inX5_works_X5 21 (Nat.le_of_ble_eq_true rfl) lkX5_works_59 rfl dX5_works_379 ?_
                              refine lv_iload_n C.1 C.2.1 dX5_works_382 rfl (lv_at hl 0 rfl) ?_
                              refine o_yald (x := (B4 21) k) C S O 21 (Nat.le_of_ble_eq_true rfl) rfl k rfl (show k < 64 from by first | omega | exact hL _ | exact hP _ | exact hF _) (Nat.le_of_ble_eq_true rfl) rfl dX5_works_383 ?_
                              refine q_ifeqB (tgt := 421) C dX5_works_384 (by decide) (fun c384 => ?_) (fun c384 => ?_)
                              · refine q_iinc (d := 1) (lv' := [(2, .int (nI (k + 1))), (1, .int (bI can2)), (0, .ref h)]) C dX5_works_421 hl (k := 0) rfl (by decide) (by decide) rfl (fun ls hl => ?_)
                                refine lv_goto (tgt := 345) C.1 C.2.1 dX5_works_424 (by decide) ?_
                                exact ih345 (k + 1) can2 (by omega) (by omega) (by rw [allb_s, show spOk (B4 21) (B4 22) (J4 23) (J4 24) (J4 25) k = true from by unfold spOk; rw [c359, decide_eq_true c374, c384]; rfl, Bool.and_true]; exact he2) _ (lv_sub hl [0, 1, 2] rfl)
                              · refine lv_aload_n C.1 C.2.1 dX5_works_387 rfl (lv_at hl 2 rfl) ?_
                                refine o_get (v := .ref (a 23)) C S O rfl inX5_works_X5 23 (Nat.le_of_ble_eq_true rfl) lkX5_works_66 rfl dX5_works_388 ?_
                                refine lv_iload_n C.1 C.2.1 dX5_works_391 rfl (lv_at hl 0 rfl) ?_
                                refine o_lald (x := (J4 23) k) C S O 23 (Nat.le_of_ble_eq_true rfl) rfl k rfl (show k < 64 from by first | omega | exact hL _ | exact hP _ | exact hF _) (Nat.le_of_ble_eq_true rfl) rfl dX5_works_392 ?_
                                refine lv_aload_n C.1 C.2.1 dX5_works_393 rfl (lv_at hl 2 rfl) ?_
                                refine o_get (v := .ref (a 24)) C S O rfl inX5_works_X5 24 (Nat.le_of_ble_eq_true rfl) lkX5_works_69 rfl dX5_works_394 ?_
                                refine lv_iload_n C.1 C.2.1 dX5_works_397 rfl (lv_at hl 0 rfl) ?_
                                refine o_lald (x := (J4 24) k) C S O 24 (Nat.le_of_ble_eq_true rfl) rfl k rfl (show k < 64 from by first | omega | exact hL _ | exact hP _ | exact hF _) (Nat.le_of_ble_eq_true rfl) rfl dX5_works_398 ?_
                                refine q_lcmp_lt (tgt := 419) C dX5_works_399 dX5_works_400 (by decide) (fun c399 => ?_) (fun c399 => ?_)
                                · refine lv_iconst (v := bI false) C.1 C.2.1 dX5_works_419 (by decide) ?_
                                  refine lv_istore_n (lv' := [(1, .int (bI false)), (2, .int (nI k)), (0, .ref h)]) C.1 C.2.1 dX5_works_420 rfl hl (by decide) rfl (fun ls hl => ?_)
                                  refine q_iinc (d := 1) (lv' := [(2, .int (nI (k + 1))), (1, .int (bI false)), (0, .ref h)]) C dX5_works_421 hl (k := 1) rfl (by decide) (by decide) rfl (fun ls hl => ?_)
                                  refine lv_goto (tgt := 345) C.1 C.2.1 dX5_works_424 (by decide) ?_
                                  exact ih345 (k + 1) false (by omega) (by omega) (by show false = _; rw [allb_s, show spOk (B4 21) (B4 22) (J4 23) (J4 24) (J4 25) k = false from by unfold spOk; rw [c359, decide_eq_true c374, c384, decide_eq_false c399]; rfl, Bool.and_false, Bool.and_false]) _ (lv_sub hl [0, 1, 2] rfl)
                                · refine lv_aload_n C.1 C.2.1 dX5_works_403 rfl (lv_at hl 2 rfl) ?_
                                  refine o_get (v := .ref (a 23)) C S O rfl inX5_works_X5 23 (Nat.le_of_ble_eq_true rfl) lkX5_works_66 rfl dX5_works_404 ?_
                                  refine lv_iload_n C.1 C.2.1 dX5_works_407 rfl (lv_at hl 0 rfl) ?_
                                  refine o_lald (x := (J4 23) k) C S O 23 (Nat.le_of_ble_eq_true rfl) rfl k rfl (show k < 64 from by first | omega | exact hL _ | exact hP _ | exact hF _) (Nat.le_of_ble_eq_true rfl) rfl dX5_works_408 ?_
                                  refine lv_aload_n C.1 C.2.1 dX5_works_409 rfl (lv_at hl 2 rfl) ?_
                                  refine o_get (v := .ref (a 25)) C S O rfl inX5_works_X5 25 (Nat.le_of_ble_eq_true rfl) lkX5_works_72 rfl dX5_works_410 ?_
                                  refine lv_iload_n C.1 C.2.1 dX5_works_413 rfl (lv_at hl 0 rfl) ?_
                                  refine o_lald (x := (J4 25) k) C S O 25 (Nat.le_of_ble_eq_true rfl) rfl k rfl (show k < 64 from by first | omega | exact hL _ | exact hP _ | exact hF _) (Nat.le_of_ble_eq_true rfl) rfl dX5_works_414 ?_
                                  refine q_lcmp_le (tgt := 421) C dX5_works_415 dX5_works_416 (by decide) (fun c415 => ?_) (fun c415 => ?_)
                                  · refine q_iinc (d := 1) (lv' := [(2, .int (nI (k + 1))), (1, .int (bI can2)), (0, .ref h)]) C dX5_works_421 hl (k := 0) rfl (by decide) (by decide) rfl (fun ls hl => ?_)
                                    refine lv_goto (tgt := 345) C.1 C.2.1 dX5_works_424 (by decide) ?_
                                    exact ih345 (k + 1) can2 (by omega) (by omega) (by rw [allb_s, show spOk (B4 21) (B4 22) (J4 23) (J4 24) (J4 25) k = true from by unfold spOk; rw [c359, decide_eq_true c374, c384, decide_eq_true c399, decide_eq_true c415]; rfl, Bool.and_true]; exact he2) _ (lv_sub hl [0, 1, 2] rfl)
                                  · refine lv_iconst (v := bI false) C.1 C.2.1 dX5_works_419 (by decide) ?_
                                    refine lv_istore_n (lv' := [(1, .int (bI false)), (2, .int (nI k)), (0, .ref h)]) C.1 C.2.1 dX5_works_420 rfl hl (by decide) rfl (fun ls hl => ?_)
                                    refine q_iinc (d := 1) (lv' := [(2, .int (nI (k + 1))), (1, .int (bI false)), (0, .ref h)]) C dX5_works_421 hl (k := 1) rfl (by decide) (by decide) rfl (fun ls hl => ?_)
                                    refine lv_goto (tgt := 345) C.1 C.2.1 dX5_works_424 (by decide) ?_
                                    exact ih345 (k + 1) false (by omega) (by omega) (by show false = _; rw [allb_s, show spOk (B4 21) (B4 22) (J4 23) (J4 24) (J4 25) k = false from by unfold spOk; rw [c359, decide_eq_true c374, c384, decide_eq_true c399, decide_eq_false c415]; rfl, Bool.and_false, Bool.and_false]) _ (lv_sub hl [0, 1, 2] rfl)
                    exact lp345 (I 0 + 1) 0 can (by omega) (by omega) (by rw [show allb (spOk (B4 21) (B4 22) (J4 23) (J4 24) (J4 25)) 0 = true from rfl, Bool.and_true]) _ (lv_sub hl [0, 1, 2] rfl)
                  · refine lv_aload_n C.1 C.2.1 dX5_works_167 rfl (lv_at hl 2 rfl) ?_
                    refine o_get (v := .ref (a 20)) C S O rfl inX5_works_X5 20 (Nat.le_of_ble_eq_true rfl) lkX5_works_56 rfl dX5_works_168 ?_
                    refine lv_aload_n C.1 C.2.1 dX5_works_171 rfl (lv_at hl 2 rfl) ?_
                    refine o_get (v := .ref (a 2)) C S O rfl inX5_works_X5 2 (Nat.le_of_ble_eq_true rfl) lkX5_works_13 rfl dX5_works_172 ?_
                    refine lv_iload_n C.1 C.2.1 dX5_works_175 rfl (lv_at hl 0 rfl) ?_
                    refine o_nald (x := N 2 v) C S O 2 (Nat.le_of_ble_eq_true rfl) rfl v rfl (show v < 6400 from by first | omega | exact hL _ | exact hP _ | exact hF _) (Nat.le_of_ble_eq_true rfl) (congrFun (hkN2 2 (by decide)) v) dX5_works_176 ?_
                    refine o_nald (x := (N2 20) (N 2 v)) C S O 20 (Nat.le_of_ble_eq_true rfl) rfl (N 2 v) rfl (show N 2 v < 64 from by first | omega | exact hs2 _ | exact hs3 _ | exact hL2 _) (Nat.le_of_ble_eq_true rfl) rfl dX5_works_177 ?_
                    refine lv_istore_n (lv' := [(3, .int (nI ((N2 20) (N 2 v)))), (2, .int (nI v)), (1, .int (bI can)), (0, .ref h)]) C.1 C.2.1 dX5_works_178 rfl hl (by decide) rfl (fun ls hl => ?_)
                    refine lv_aload_n C.1 C.2.1 dX5_works_179 rfl (lv_at hl 3 rfl) ?_
                    refine o_get (v := .ref (a 1)) C S O rfl inX5_works_X5 1 (Nat.le_of_ble_eq_true rfl) lkX5_works_9 rfl dX5_works_180 ?_
                    refine lv_iload_n C.1 C.2.1 dX5_works_183 rfl (lv_at hl 1 rfl) ?_
                    refine o_nald (x := N 1 v) C S O 1 (Nat.le_of_ble_eq_true rfl) rfl v rfl (show v < 6400 from by first | omega | exact hL _ | exact hP _ | exact hF _) (Nat.le_of_ble_eq_true rfl) (congrFun (hkN2 1 (by decide)) v) dX5_works_184 ?_
                    refine lv_iconst (v := nI 1) C.1 C.2.1 dX5_works_185 (by decide) ?_
                    refine q_nee (tgt := 243) C (by have := hs1 v; omega) (by decide) dX5_works_186 (by decide) (fun c186 => ?_) (fun c186 => ?_)
                    · refine lv_aload_n C.1 C.2.1 dX5_works_243 rfl (lv_at hl 3 rfl) ?_
                      refine o_get (v := .ref (a 1)) C S O rfl inX5_works_X5 1 (Nat.le_of_ble_eq_true rfl) lkX5_works_9 rfl dX5_works_244 ?_
                      refine lv_iload_n C.1 C.2.1 dX5_works_247 rfl (lv_at hl 1 rfl) ?_
                      refine o_nald (x := N 1 v) C S O 1 (Nat.le_of_ble_eq_true rfl) rfl v rfl (show v < 6400 from by first | omega | exact hL _ | exact hP _ | exact hF _) (Nat.le_of_ble_eq_true rfl) (congrFun (hkN2 1 (by decide)) v) dX5_works_248 ?_
                      refine q_ifneN (tgt := 337) C (by have := hs1 v; omega) dX5_works_249 (by decide) (fun c249 => ?_) (fun c249 => ?_)
                      · refine q_iinc (d := 1) (lv' := [(2, .int (nI (v + 1))), (3, .int (nI ((N2 20) (N 2 v)))), (1, .int (bI can)), (0, .ref h)]) C dX5_works_337 hl (k := 1) rfl (by decide) (by decide) rfl (fun ls hl => ?_)
                        refine lv_goto (tgt := 159) C.1 C.2.1 dX5_works_340 (by decide) ?_
                        exact ih159 (v + 1) can B4 J4 (by omega) (by omega) (by rw [hnF_n c186, ← hd1]) (by rw [nuF_n c186, ← hd2]) (by rw [hsF_n c249, ← hd3]) (by rw [loF_n c249, ← hd4]) (by rw [hiF_n c249, ← hd5]) (by rw [canF_n c186, ← hd6]) hkB4 hkJ4 _ _ _ _ S O F (lv_sub hl [0, 2, 3] rfl)
                      · refine lv_aload_n C.1 C.2.1 dX5_works_252 rfl (lv_at hl 3 rfl) ?_
                        refine o_get (v := .ref (a 24)) C S O rfl inX5_works_X5 24 (Nat.le_of_ble_eq_true rfl) lkX5_works_69 rfl dX5_works_253 ?_
                        refine lv_iload_n C.1 C.2.1 dX5_works_256 rfl (lv_at hl 0 rfl) ?_
                        refine lv_aload_n C.1 C.2.1 dX5_works_257 rfl (lv_at hl 3 rfl) ?_
                        refine o_get (v := .ref (a 22)) C S O rfl inX5_works_X5 22 (Nat.le_of_ble_eq_true rfl) lkX5_works_63 rfl dX5_works_258 ?_
                        refine lv_iload_n C.1 C.2.1 dX5_works_261 rfl (lv_at hl 0 rfl) ?_
                        refine o_yald (x := (B4 22) ((N2 20) (N 2 v))) C S O 22 (Nat.le_of_ble_eq_true rfl) rfl ((N2 20) (N 2 v)) rfl (show (N2 20) (N 2 v) < 64 from by first | omega | exact hs2 _ | exact hs3 _ | exact hL2 _) (Nat.le_of_ble_eq_true rfl) rfl dX5_works_262 ?_
                        refine q_ifeqB (tgt := 284) C dX5_works_263 (by decide) (fun c263 => ?_) (fun c263 => ?_)
                        · refine lv_aload_n C.1 C.2.1 dX5_works_284 rfl (lv_at hl 3 rfl) ?_
                          refine o_get (v := .ref (a 4)) C S O rfl inX5_works_X5 4 (Nat.le_of_ble_eq_true rfl) lkX5_works_19 rfl dX5_works_285 ?_
                          refine lv_iload_n C.1 C.2.1 dX5_works_288 rfl (lv_at hl 1 rfl) ?_
                          refine o_lald (x := J 4 v) C S O 4 (Nat.le_of_ble_eq_true rfl) rfl v rfl (show v < 6400 from by first | omega | exact hL _ | exact hP _ | exact hF _) (Nat.le_of_ble_eq_true rfl) (congrFun (hkJ4 4 (by decide) (by decide) (by decide)) v) dX5_works_289 ?_
                          refine o_last C S O F 24 (Nat.le_of_ble_eq_true rfl) rfl ((N2 20) (N 2 v)) rfl (show (N2 20) (N 2 v) < 64 from by first | omega | exact hs2 _ | exact hs3 _ | exact hL2 _) (Nat.le_of_ble_eq_true rfl) ⟨by decide, by decide⟩ dX5_works_290 (fun f H locs S O F => ?_)
                          refine lv_aload_n C.1 C.2.1 dX5_works_291 rfl (lv_at hl 3 rfl) ?_
                          refine o_get (v := .ref (a 25)) C S O rfl inX5_works_X5 25 (Nat.le_of_ble_eq_true rfl) lkX5_works_72 rfl dX5_works_292 ?_
                          refine lv_iload_n C.1 C.2.1 dX5_works_295 rfl (lv_at hl 0 rfl) ?_
                          refine lv_aload_n C.1 C.2.1 dX5_works_296 rfl (lv_at hl 3 rfl) ?_
                          refine o_get (v := .ref (a 22)) C S O rfl inX5_works_X5 22 (Nat.le_of_ble_eq_true rfl) lkX5_works_63 rfl dX5_works_297 ?_
                          refine lv_iload_n C.1 C.2.1 dX5_works_300 rfl (lv_at hl 0 rfl) ?_
                          refine o_yald (x := (B4 22) ((N2 20) (N 2 v))) C S O 22 (Nat.le_of_ble_eq_true rfl) rfl ((N2 20) (N 2 v)) rfl (show (N2 20) (N 2 v) < 64 from by first | omega | exact hs2 _ | exact hs3 _ | exact hL2 _) (Nat.le_of_ble_eq_true rfl) rfl dX5_works_301 ?_
                          refine q_ifeqB (tgt := 323) C dX5_works_302 (by decide) (fun c302 => ?_) (fun c302 => ?_)
                          · refine lv_aload_n C.1 C.2.1 dX5_works_323 rfl (lv_at hl 3 rfl) ?_
                            refine o_get (v := .ref (a 5)) C S O rfl inX5_works_X5 5 (Nat.le_of_ble_eq_true rfl) lkX5_works_23 rfl dX5_works_324 ?_
                            refine lv_iload_n C.1 C.2.1 dX5_works_327 rfl (lv_at hl 1 rfl) ?_
                            refine o_lald (x := J 5 v) C S O 5 (Nat.le_of_ble_eq_true rfl) rfl v rfl (show v < 6400 from by first | omega | exact hL _ | exact hP _ | exact hF _) (Nat.le_of_ble_eq_true rfl) (congrFun (hkJ4 5 (by decide) (by decide) (by decide)) v) dX5_works_328 ?_
                            refine o_last C S O F 25 (Nat.le_of_ble_eq_true rfl) rfl ((N2 20) (N 2 v)) rfl (show (N2 20) (N 2 v) < 64 from by first | omega | exact hs2 _ | exact hs3 _ | exact hL2 _) (Nat.le_of_ble_eq_true rfl) ⟨by decide, by decide⟩ dX5_works_329 (fun f H locs S O F => ?_)
                            refine lv_aload_n C.1 C.2.1 dX5_works_330 rfl (lv_at hl 3 rfl) ?_
                            refine o_get (v := .ref (a 22)) C S O rfl inX5_works_X5 22 (Nat.le_of_ble_eq_true rfl) lkX5_works_63 rfl dX5_works_331 ?_
                            refine lv_iload_n C.1 C.2.1 dX5_works_334 rfl (lv_at hl 0 rfl) ?_
                            refine lv_iconst (v := bI true) C.1 C.2.1 dX5_works_335 (by decide) ?_
                            refine o_yast C S O F 22 (Nat.le_of_ble_eq_true rfl) rfl ((N2 20) (N 2 v)) rfl (show (N2 20) (N 2 v) < 64 from by first | omega | exact hs2 _ | exact hs3 _ | exact hL2 _) (Nat.le_of_ble_eq_true rfl) ⟨by decide, by decide⟩ dX5_works_336 (fun f H locs S O F => ?_)
                            refine q_iinc (d := 1) (lv' := [(2, .int (nI (v + 1))), (3, .int (nI ((N2 20) (N 2 v)))), (1, .int (bI can)), (0, .ref h)]) C dX5_works_337 hl (k := 1) rfl (by decide) (by decide) rfl (fun ls hl => ?_)
                            refine lv_goto (tgt := 159) C.1 C.2.1 dX5_works_340 (by decide) ?_
                            exact ih159 (v + 1) can (va_up B4 22 (va_up (B4 22) ((N2 20) (N 2 v)) true)) (va_up (va_up J4 24 (va_up (J4 24) ((N2 20) (N 2 v)) (J 4 v))) 25 (va_up (J4 25) ((N2 20) (N 2 v)) (J 5 v))) (by omega) (by omega) (by show B4 21 = _; rw [hnF_n c186, ← hd1]) (by show J4 23 = _; rw [nuF_n c186, ← hd2]) (by show va_up (B4 22) _ true = _; rw [hsF_1 c249, ← hd3]) (by show va_up (J4 24) (N2 20 (N 2 v)) (J 4 v) = _; rw [loF_1 c249, ← hd4, if_neg (by rw [← hd3, c263]; decide)]) (by show va_up (J4 25) (N2 20 (N 2 v)) (J 5 v) = _; rw [hiF_1 c249, ← hd5, if_neg (by rw [← hd3, c263]; decide)]) (by rw [canF_n c186, ← hd6]) (fun k h1 h2 => by rw [up_n h2]; exact hkB4 k h1 h2) (fun k h1 h2 h3 => by rw [up_n h3, up_n h2]; exact hkJ4 k h1 h2 h3) _ _ _ _ S O F (lv_sub hl [0, 2, 3] rfl)
                          · exact absurd (c263.symm.trans c302) (by decide)
                        · refine lv_aload_n C.1 C.2.1 dX5_works_266 rfl (lv_at hl 3 rfl) ?_
                          refine o_get (v := .ref (a 24)) C S O rfl inX5_works_X5 24 (Nat.le_of_ble_eq_true rfl) lkX5_works_69 rfl dX5_works_267 ?_
                          refine lv_iload_n C.1 C.2.1 dX5_works_270 rfl (lv_at hl 0 rfl) ?_
                          refine o_lald (x := (J4 24) ((N2 20) (N 2 v))) C S O 24 (Nat.le_of_ble_eq_true rfl) rfl ((N2 20) (N 2 v)) rfl (show (N2 20) (N 2 v) < 64 from by first | omega | exact hs2 _ | exact hs3 _ | exact hL2 _) (Nat.le_of_ble_eq_true rfl) rfl dX5_works_271 ?_
                          refine lv_aload_n C.1 C.2.1 dX5_works_272 rfl (lv_at hl 3 rfl) ?_
                          refine o_get (v := .ref (a 4)) C S O rfl inX5_works_X5 4 (Nat.le_of_ble_eq_true rfl) lkX5_works_19 rfl dX5_works_273 ?_
                          refine lv_iload_n C.1 C.2.1 dX5_works_276 rfl (lv_at hl 1 rfl) ?_
                          refine o_lald (x := J 4 v) C S O 4 (Nat.le_of_ble_eq_true rfl) rfl v rfl (show v < 6400 from by first | omega | exact hL _ | exact hP _ | exact hF _) (Nat.le_of_ble_eq_true rfl) (congrFun (hkJ4 4 (by decide) (by decide) (by decide)) v) dX5_works_277 ?_
                          refine va_mmax_long C.1 C.2.1 (C.2.2.1.trans hl.1.symm) C.2.2.2.1 (C.2.2.2.2 _ (List.mem_of_getElem? (i := 19) rfl)) (C.2.2.2.2 _ (List.mem_of_getElem? (i := 20) rfl)) (C.2.2.2.2 _ (List.mem_of_getElem? (i := 11) rfl)) (C.2.2.2.2 _ (List.mem_of_getElem? (i := 21) rfl)) (Nat.le_of_ble_eq_true rfl) (Nat.le_of_ble_eq_true rfl) (Nat.le_of_ble_eq_true rfl) (Nat.le_of_ble_eq_true rfl) dX5_works_278 ?_
                          refine lv_goto (tgt := 290) C.1 C.2.1 dX5_works_281 (by decide) ?_
                          refine o_last C S O F 24 (Nat.le_of_ble_eq_true rfl) rfl ((N2 20) (N 2 v)) rfl (show (N2 20) (N 2 v) < 64 from by first | omega | exact hs2 _ | exact hs3 _ | exact hL2 _) (Nat.le_of_ble_eq_true rfl) ⟨by decide, by decide⟩ dX5_works_290 (fun f H locs S O F => ?_)
                          refine lv_aload_n C.1 C.2.1 dX5_works_291 rfl (lv_at hl 3 rfl) ?_
                          refine o_get (v := .ref (a 25)) C S O rfl inX5_works_X5 25 (Nat.le_of_ble_eq_true rfl) lkX5_works_72 rfl dX5_works_292 ?_
                          refine lv_iload_n C.1 C.2.1 dX5_works_295 rfl (lv_at hl 0 rfl) ?_
                          refine lv_aload_n C.1 C.2.1 dX5_works_296 rfl (lv_at hl 3 rfl) ?_
                          refine o_get (v := .ref (a 22)) C S O rfl inX5_works_X5 22 (Nat.le_of_ble_eq_true rfl) lkX5_works_63 rfl dX5_works_297 ?_
                          refine lv_iload_n C.1 C.2.1 dX5_works_300 rfl (lv_at hl 0 rfl) ?_
                          refine o_yald (x := (B4 22) ((N2 20) (N 2 v))) C S O 22 (Nat.le_of_ble_eq_true rfl) rfl ((N2 20) (N 2 v)) rfl (show (N2 20) (N 2 v) < 64 from by first | omega | exact hs2 _ | exact hs3 _ | exact hL2 _) (Nat.le_of_ble_eq_true rfl) rfl dX5_works_301 ?_
                          refine q_ifeqB (tgt := 323) C dX5_works_302 (by decide) (fun c302 => ?_) (fun c302 => ?_)
                          · exact absurd (c263.symm.trans c302) (by decide)
                          · refine lv_aload_n C.1 C.2.1 dX5_works_305 rfl (lv_at hl 3 rfl) ?_
                            refine o_get (v := .ref (a 25)) C S O rfl inX5_works_X5 25 (Nat.le_of_ble_eq_true rfl) lkX5_works_72 rfl dX5_works_306 ?_
                            refine lv_iload_n C.1 C.2.1 dX5_works_309 rfl (lv_at hl 0 rfl) ?_
                            refine o_lald (x := (J4 25) ((N2 20) (N 2 v))) C S O 25 (Nat.le_of_ble_eq_true rfl) rfl ((N2 20) (N 2 v)) rfl (show (N2 20) (N 2 v) < 64 from by first | omega | exact hs2 _ | exact hs3 _ | exact hL2 _) (Nat.le_of_ble_eq_true rfl) rfl dX5_works_310 ?_
                            refine lv_aload_n C.1 C.2.1 dX5_works_311 rfl (lv_at hl 3 rfl) ?_
                            refine o_get (v := .ref (a 5)) C S O rfl inX5_works_X5 5 (Nat.le_of_ble_eq_true rfl) lkX5_works_23 rfl dX5_works_312 ?_
                            refine lv_iload_n C.1 C.2.1 dX5_works_315 rfl (lv_at hl 1 rfl) ?_
                            refine o_lald (x := J 5 v) C S O 5 (Nat.le_of_ble_eq_true rfl) rfl v rfl (show v < 6400 from by first | omega | exact hL _ | exact hP _ | exact hF _) (Nat.le_of_ble_eq_true rfl) (congrFun (hkJ4 5 (by decide) (by decide) (by decide)) v) dX5_works_316 ?_
                            refine va_mmin_long C.1 C.2.1 (C.2.2.1.trans hl.1.symm) C.2.2.2.1 (C.2.2.2.2 _ (List.mem_of_getElem? (i := 24) rfl)) (C.2.2.2.2 _ (List.mem_of_getElem? (i := 25) rfl)) (C.2.2.2.2 _ (List.mem_of_getElem? (i := 11) rfl)) (C.2.2.2.2 _ (List.mem_of_getElem? (i := 26) rfl)) (Nat.le_of_ble_eq_true rfl) (Nat.le_of_ble_eq_true rfl) (Nat.le_of_ble_eq_true rfl) (Nat.le_of_ble_eq_true rfl) dX5_works_317 ?_
                            refine lv_goto (tgt := 329) C.1 C.2.1 dX5_works_320 (by decide) ?_
                            refine o_last C S O F 25 (Nat.le_of_ble_eq_true rfl) rfl ((N2 20) (N 2 v)) rfl (show (N2 20) (N 2 v) < 64 from by first | omega | exact hs2 _ | exact hs3 _ | exact hL2 _) (Nat.le_of_ble_eq_true rfl) ⟨by decide, by decide⟩ dX5_works_329 (fun f H locs S O F => ?_)
                            refine lv_aload_n C.1 C.2.1 dX5_works_330 rfl (lv_at hl 3 rfl) ?_
                            refine o_get (v := .ref (a 22)) C S O rfl inX5_works_X5 22 (Nat.le_of_ble_eq_true rfl) lkX5_works_63 rfl dX5_works_331 ?_
                            refine lv_iload_n C.1 C.2.1 dX5_works_334 rfl (lv_at hl 0 rfl) ?_
                            refine lv_iconst (v := bI true) C.1 C.2.1 dX5_works_335 (by decide) ?_
                            refine o_yast C S O F 22 (Nat.le_of_ble_eq_true rfl) rfl ((N2 20) (N 2 v)) rfl (show (N2 20) (N 2 v) < 64 from by first | omega | exact hs2 _ | exact hs3 _ | exact hL2 _) (Nat.le_of_ble_eq_true rfl) ⟨by decide, by decide⟩ dX5_works_336 (fun f H locs S O F => ?_)
                            refine q_iinc (d := 1) (lv' := [(2, .int (nI (v + 1))), (3, .int (nI ((N2 20) (N 2 v)))), (1, .int (bI can)), (0, .ref h)]) C dX5_works_337 hl (k := 1) rfl (by decide) (by decide) rfl (fun ls hl => ?_)
                            refine lv_goto (tgt := 159) C.1 C.2.1 dX5_works_340 (by decide) ?_
                            exact ih159 (v + 1) can (va_up B4 22 (va_up (B4 22) ((N2 20) (N 2 v)) true)) (va_up (va_up J4 24 (va_up (J4 24) ((N2 20) (N 2 v)) (if J 4 v < (J4 24) ((N2 20) (N 2 v)) then (J4 24) ((N2 20) (N 2 v)) else J 4 v))) 25 (va_up (J4 25) ((N2 20) (N 2 v)) (if J 5 v < (J4 25) ((N2 20) (N 2 v)) then J 5 v else (J4 25) ((N2 20) (N 2 v))))) (by omega) (by omega) (by show B4 21 = _; rw [hnF_n c186, ← hd1]) (by show J4 23 = _; rw [nuF_n c186, ← hd2]) (by show va_up (B4 22) _ true = _; rw [hsF_1 c249, ← hd3]) (by show va_up (J4 24) (N2 20 (N 2 v)) (lmax (J4 24 (N2 20 (N 2 v))) (J 4 v)) = _; rw [loF_1 c249, ← hd4, if_pos (by rw [← hd3]; exact c263)]) (by show va_up (J4 25) (N2 20 (N 2 v)) (lmin (J4 25 (N2 20 (N 2 v))) (J 5 v)) = _; rw [hiF_1 c249, ← hd5, if_pos (by rw [← hd3]; exact c263)]) (by rw [canF_n c186, ← hd6]) (fun k h1 h2 => by rw [up_n h2]; exact hkB4 k h1 h2) (fun k h1 h2 h3 => by rw [up_n h3, up_n h2]; exact hkJ4 k h1 h2 h3) _ _ _ _ S O F (lv_sub hl [0, 2, 3] rfl)
                    · refine lv_iload_n C.1 C.2.1 dX5_works_189 rfl (lv_at hl 2 rfl) ?_
                      refine q_ifeqB (tgt := 222) C dX5_works_190 (by decide) (fun c190 => ?_) (fun c190 => ?_)
                      · refine lv_iconst (v := bI false) C.1 C.2.1 dX5_works_222 (by decide) ?_
                        refine lv_istore_n (lv' := [(1, .int (bI false)), (3, .int (nI ((N2 20) (N 2 v)))), (2, .int (nI v)), (0, .ref h)]) C.1 C.2.1 dX5_works_223 rfl hl (by decide) rfl (fun ls hl => ?_)
                        refine lv_aload_n C.1 C.2.1 dX5_works_224 rfl (lv_at hl 3 rfl) ?_
                        refine o_get (v := .ref (a 21)) C S O rfl inX5_works_X5 21 (Nat.le_of_ble_eq_true rfl) lkX5_works_59 rfl dX5_works_225 ?_
                        refine lv_iload_n C.1 C.2.1 dX5_works_228 rfl (lv_at hl 1 rfl) ?_
                        refine lv_iconst (v := bI true) C.1 C.2.1 dX5_works_229 (by decide) ?_
                        refine o_yast C S O F 21 (Nat.le_of_ble_eq_true rfl) rfl ((N2 20) (N 2 v)) rfl (show (N2 20) (N 2 v) < 64 from by first | omega | exact hs2 _ | exact hs3 _ | exact hL2 _) (Nat.le_of_ble_eq_true rfl) ⟨by decide, by decide⟩ dX5_works_230 (fun f H locs S O F => ?_)
                        refine lv_aload_n C.1 C.2.1 dX5_works_231 rfl (lv_at hl 3 rfl) ?_
                        refine o_get (v := .ref (a 23)) C S O rfl inX5_works_X5 23 (Nat.le_of_ble_eq_true rfl) lkX5_works_66 rfl dX5_works_232 ?_
                        refine lv_iload_n C.1 C.2.1 dX5_works_235 rfl (lv_at hl 1 rfl) ?_
                        refine lv_aload_n C.1 C.2.1 dX5_works_236 rfl (lv_at hl 3 rfl) ?_
                        refine o_get (v := .ref (a 4)) C S O rfl inX5_works_X5 4 (Nat.le_of_ble_eq_true rfl) lkX5_works_19 rfl dX5_works_237 ?_
                        refine lv_iload_n C.1 C.2.1 dX5_works_240 rfl (lv_at hl 2 rfl) ?_
                        refine o_lald (x := J 4 v) C S O 4 (Nat.le_of_ble_eq_true rfl) rfl v rfl (show v < 6400 from by first | omega | exact hL _ | exact hP _ | exact hF _) (Nat.le_of_ble_eq_true rfl) (congrFun (hkJ4 4 (by decide) (by decide) (by decide)) v) dX5_works_241 ?_
                        refine o_last C S O F 23 (Nat.le_of_ble_eq_true rfl) rfl ((N2 20) (N 2 v)) rfl (show (N2 20) (N 2 v) < 64 from by first | omega | exact hs2 _ | exact hs3 _ | exact hL2 _) (Nat.le_of_ble_eq_true rfl) ⟨by decide, by decide⟩ dX5_works_242 (fun f H locs S O F => ?_)
                        refine lv_aload_n C.1 C.2.1 dX5_works_243 rfl (lv_at hl 3 rfl) ?_
                        refine o_get (v := .ref (a 1)) C S O rfl inX5_works_X5 1 (Nat.le_of_ble_eq_true rfl) lkX5_works_9 rfl dX5_works_244 ?_
                        refine lv_iload_n C.1 C.2.1 dX5_works_247 rfl (lv_at hl 2 rfl) ?_
                        refine o_nald (x := N 1 v) C S O 1 (Nat.le_of_ble_eq_true rfl) rfl v rfl (show v < 6400 from by first | omega | exact hL _ | exact hP _ | exact hF _) (Nat.le_of_ble_eq_true rfl) (congrFun (hkN2 1 (by decide)) v) dX5_works_248 ?_
                        refine q_ifneN (tgt := 337) C (by have := hs1 v; omega) dX5_works_249 (by decide) (fun c249 => ?_) (fun c249 => ?_)
                        · refine q_iinc (d := 1) (lv' := [(2, .int (nI (v + 1))), (1, .int (bI false)), (3, .int (nI ((N2 20) (N 2 v)))), (0, .ref h)]) C dX5_works_337 hl (k := 2) rfl (by decide) (by decide) rfl (fun ls hl => ?_)
                          refine lv_goto (tgt := 159) C.1 C.2.1 dX5_works_340 (by decide) ?_
                          exact ih159 (v + 1) false (va_up B4 21 (va_up (B4 21) ((N2 20) (N 2 v)) true)) (va_up J4 23 (va_up (J4 23) ((N2 20) (N 2 v)) (J 4 v))) (by omega) (by omega) (by show va_up (B4 21) _ true = _; rw [hnF_1 c186, ← hd1]) (by show va_up (J4 23) _ _ = _; rw [nuF_1 c186, ← hd2]) (by show B4 22 = _; rw [hsF_n (by omega), ← hd3]) (by show J4 24 = _; rw [loF_n (by omega), ← hd4]) (by show J4 25 = _; rw [hiF_n (by omega), ← hd5]) (by rw [canF_1 c186, ← hd6, c190]; rfl) (fun k h1 h2 => by rw [up_n h1]; exact hkB4 k h1 h2) (fun k h1 h2 h3 => by rw [up_n h1]; exact hkJ4 k h1 h2 h3) _ _ _ _ S O F (lv_sub hl [0, 1, 3] rfl)
                        · exact absurd (c249.symm.trans c186) (by decide)
                      · refine lv_aload_n C.1 C.2.1 dX5_works_193 rfl (lv_at hl 3 rfl) ?_
                        refine o_get (v := .ref (a 21)) C S O rfl inX5_works_X5 21 (Nat.le_of_ble_eq_true rfl) lkX5_works_59 rfl dX5_works_194 ?_
                        refine lv_iload_n C.1 C.2.1 dX5_works_197 rfl (lv_at hl 0 rfl) ?_
                        refine o_yald (x := (B4 21) ((N2 20) (N 2 v))) C S O 21 (Nat.le_of_ble_eq_true rfl) rfl ((N2 20) (N 2 v)) rfl (show (N2 20) (N 2 v) < 64 from by first | omega | exact hs2 _ | exact hs3 _ | exact hL2 _) (Nat.le_of_ble_eq_true rfl) rfl dX5_works_198 ?_
                        refine q_ifeqB (tgt := 218) C dX5_works_199 (by decide) (fun c199 => ?_) (fun c199 => ?_)
                        · refine lv_iconst (v := bI true) C.1 C.2.1 dX5_works_218 (by decide) ?_
                          refine lv_goto (tgt := 223) C.1 C.2.1 dX5_works_219 (by decide) ?_
                          refine lv_istore_n (lv' := [(1, .int (bI true)), (3, .int (nI ((N2 20) (N 2 v)))), (2, .int (nI v)), (0, .ref h)]) C.1 C.2.1 dX5_works_223 rfl hl (by decide) rfl (fun ls hl => ?_)
                          refine lv_aload_n C.1 C.2.1 dX5_works_224 rfl (lv_at hl 3 rfl) ?_
                          refine o_get (v := .ref (a 21)) C S O rfl inX5_works_X5 21 (Nat.le_of_ble_eq_true rfl) lkX5_works_59 rfl dX5_works_225 ?_
                          refine lv_iload_n C.1 C.2.1 dX5_works_228 rfl (lv_at hl 1 rfl) ?_
                          refine lv_iconst (v := bI true) C.1 C.2.1 dX5_works_229 (by decide) ?_
                          refine o_yast C S O F 21 (Nat.le_of_ble_eq_true rfl) rfl ((N2 20) (N 2 v)) rfl (show (N2 20) (N 2 v) < 64 from by first | omega | exact hs2 _ | exact hs3 _ | exact hL2 _) (Nat.le_of_ble_eq_true rfl) ⟨by decide, by decide⟩ dX5_works_230 (fun f H locs S O F => ?_)
                          refine lv_aload_n C.1 C.2.1 dX5_works_231 rfl (lv_at hl 3 rfl) ?_
                          refine o_get (v := .ref (a 23)) C S O rfl inX5_works_X5 23 (Nat.le_of_ble_eq_true rfl) lkX5_works_66 rfl dX5_works_232 ?_
                          refine lv_iload_n C.1 C.2.1 dX5_works_235 rfl (lv_at hl 1 rfl) ?_
                          refine lv_aload_n C.1 C.2.1 dX5_works_236 rfl (lv_at hl 3 rfl) ?_
                          refine o_get (v := .ref (a 4)) C S O rfl inX5_works_X5 4 (Nat.le_of_ble_eq_true rfl) lkX5_works_19 rfl dX5_works_237 ?_
                          refine lv_iload_n C.1 C.2.1 dX5_works_240 rfl (lv_at hl 2 rfl) ?_
                          refine o_lald (x := J 4 v) C S O 4 (Nat.le_of_ble_eq_true rfl) rfl v rfl (show v < 6400 from by first | omega | exact hL _ | exact hP _ | exact hF _) (Nat.le_of_ble_eq_true rfl) (congrFun (hkJ4 4 (by decide) (by decide) (by decide)) v) dX5_works_241 ?_
                          refine o_last C S O F 23 (Nat.le_of_ble_eq_true rfl) rfl ((N2 20) (N 2 v)) rfl (show (N2 20) (N 2 v) < 64 from by first | omega | exact hs2 _ | exact hs3 _ | exact hL2 _) (Nat.le_of_ble_eq_true rfl) ⟨by decide, by decide⟩ dX5_works_242 (fun f H locs S O F => ?_)
                          refine lv_aload_n C.1 C.2.1 dX5_works_243 rfl (lv_at hl 3 rfl) ?_
                          refine o_get (v := .ref (a 1)) C S O rfl inX5_works_X5 1 (Nat.le_of_ble_eq_true rfl) lkX5_works_9 rfl dX5_works_244 ?_
                          refine lv_iload_n C.1 C.2.1 dX5_works_247 rfl (lv_at hl 2 rfl) ?_
                          refine o_nald (x := N 1 v) C S O 1 (Nat.le_of_ble_eq_true rfl) rfl v rfl (show v < 6400 from by first | omega | exact hL _ | exact hP _ | exact hF _) (Nat.le_of_ble_eq_true rfl) (congrFun (hkN2 1 (by decide)) v) dX5_works_248 ?_
                          refine q_ifneN (tgt := 337) C (by have := hs1 v; omega) dX5_works_249 (by decide) (fun c249 => ?_) (fun c249 => ?_)
                          · refine q_iinc (d := 1) (lv' := [(2, .int (nI (v + 1))), (1, .int (bI true)), (3, .int (nI ((N2 20) (N 2 v)))), (0, .ref h)]) C dX5_works_337 hl (k := 2) rfl (by decide) (by decide) rfl (fun ls hl => ?_)
                            refine lv_goto (tgt := 159) C.1 C.2.1 dX5_works_340 (by decide) ?_
                            exact ih159 (v + 1) true (va_up B4 21 (va_up (B4 21) ((N2 20) (N 2 v)) true)) (va_up J4 23 (va_up (J4 23) ((N2 20) (N 2 v)) (J 4 v))) (by omega) (by omega) (by show va_up (B4 21) _ true = _; rw [hnF_1 c186, ← hd1]) (by show va_up (J4 23) _ _ = _; rw [nuF_1 c186, ← hd2]) (by show B4 22 = _; rw [hsF_n (by omega), ← hd3]) (by show J4 24 = _; rw [loF_n (by omega), ← hd4]) (by show J4 25 = _; rw [hiF_n (by omega), ← hd5]) (by rw [canF_1 c186, ← hd6, c190, ← hd1, c199]; rfl) (fun k h1 h2 => by rw [up_n h1]; exact hkB4 k h1 h2) (fun k h1 h2 h3 => by rw [up_n h1]; exact hkJ4 k h1 h2 h3) _ _ _ _ S O F (lv_sub hl [0, 1, 3] rfl)
                          · exact absurd (c249.symm.trans c186) (by decide)
                        · refine lv_aload_n C.1 C.2.1 dX5_works_202 rfl (lv_at hl 3 rfl) ?_
                          refine o_get (v := .ref (a 23)) C S O rfl inX5_works_X5 23 (Nat.le_of_ble_eq_true rfl) lkX5_works_66 rfl dX5_works_203 ?_
                          refine lv_iload_n C.1 C.2.1 dX5_works_206 rfl (lv_at hl 0 rfl) ?_
                          refine o_lald (x := (J4 23) ((N2 20) (N 2 v))) C S O 23 (Nat.le_of_ble_eq_true rfl) rfl ((N2 20) (N 2 v)) rfl (show (N2 20) (N 2 v) < 64 from by first | omega | exact hs2 _ | exact hs3 _ | exact hL2 _) (Nat.le_of_ble_eq_true rfl) rfl dX5_works_207 ?_
                          refine lv_aload_n C.1 C.2.1 dX5_works_208 rfl (lv_at hl 3 rfl) ?_
                          refine o_get (v := .ref (a 4)) C S O rfl inX5_works_X5 4 (Nat.le_of_ble_eq_true rfl) lkX5_works_19 rfl dX5_works_209 ?_
                          refine lv_iload_n C.1 C.2.1 dX5_works_212 rfl (lv_at hl 1 rfl) ?_
                          refine o_lald (x := J 4 v) C S O 4 (Nat.le_of_ble_eq_true rfl) rfl v rfl (show v < 6400 from by first | omega | exact hL _ | exact hP _ | exact hF _) (Nat.le_of_ble_eq_true rfl) (congrFun (hkJ4 4 (by decide) (by decide) (by decide)) v) dX5_works_213 ?_
                          refine q_lcmp_ne (tgt := 222) C dX5_works_214 dX5_works_215 (by decide) (fun c214 => ?_) (fun c214 => ?_)
                          · refine lv_iconst (v := bI false) C.1 C.2.1 dX5_works_222 (by decide) ?_
                            refine lv_istore_n (lv' := [(1, .int (bI false)), (3, .int (nI ((N2 20) (N 2 v)))), (2, .int (nI v)), (0, .ref h)]) C.1 C.2.1 dX5_works_223 rfl hl (by decide) rfl (fun ls hl => ?_)
                            refine lv_aload_n C.1 C.2.1 dX5_works_224 rfl (lv_at hl 3 rfl) ?_
                            refine o_get (v := .ref (a 21)) C S O rfl inX5_works_X5 21 (Nat.le_of_ble_eq_true rfl) lkX5_works_59 rfl dX5_works_225 ?_
                            refine lv_iload_n C.1 C.2.1 dX5_works_228 rfl (lv_at hl 1 rfl) ?_
                            refine lv_iconst (v := bI true) C.1 C.2.1 dX5_works_229 (by decide) ?_
                            refine o_yast C S O F 21 (Nat.le_of_ble_eq_true rfl) rfl ((N2 20) (N 2 v)) rfl (show (N2 20) (N 2 v) < 64 from by first | omega | exact hs2 _ | exact hs3 _ | exact hL2 _) (Nat.le_of_ble_eq_true rfl) ⟨by decide, by decide⟩ dX5_works_230 (fun f H locs S O F => ?_)
                            refine lv_aload_n C.1 C.2.1 dX5_works_231 rfl (lv_at hl 3 rfl) ?_
                            refine o_get (v := .ref (a 23)) C S O rfl inX5_works_X5 23 (Nat.le_of_ble_eq_true rfl) lkX5_works_66 rfl dX5_works_232 ?_
                            refine lv_iload_n C.1 C.2.1 dX5_works_235 rfl (lv_at hl 1 rfl) ?_
                            refine lv_aload_n C.1 C.2.1 dX5_works_236 rfl (lv_at hl 3 rfl) ?_
                            refine o_get (v := .ref (a 4)) C S O rfl inX5_works_X5 4 (Nat.le_of_ble_eq_true rfl) lkX5_works_19 rfl dX5_works_237 ?_
                            refine lv_iload_n C.1 C.2.1 dX5_works_240 rfl (lv_at hl 2 rfl) ?_
                            refine o_lald (x := J 4 v) C S O 4 (Nat.le_of_ble_eq_true rfl) rfl v rfl (show v < 6400 from by first | omega | exact hL _ | exact hP _ | exact hF _) (Nat.le_of_ble_eq_true rfl) (congrFun (hkJ4 4 (by decide) (by decide) (by decide)) v) dX5_works_241 ?_
                            refine o_last C S O F 23 (Nat.le_of_ble_eq_true rfl) rfl ((N2 20) (N 2 v)) rfl (show (N2 20) (N 2 v) < 64 from by first | omega | exact hs2 _ | exact hs3 _ | exact hL2 _) (Nat.le_of_ble_eq_true rfl) ⟨by decide, by decide⟩ dX5_works_242 (fun f H locs S O F => ?_)
                            refine lv_aload_n C.1 C.2.1 dX5_works_243 rfl (lv_at hl 3 rfl) ?_
                            refine o_get (v := .ref (a 1)) C S O rfl inX5_works_X5 1 (Nat.le_of_ble_eq_true rfl) lkX5_works_9 rfl dX5_works_244 ?_
                            refine lv_iload_n C.1 C.2.1 dX5_works_247 rfl (lv_at hl 2 rfl) ?_
                            refine o_nald (x := N 1 v) C S O 1 (Nat.le_of_ble_eq_true rfl) rfl v rfl (show v < 6400 from by first | omega | exact hL _ | exact hP _ | exact hF _) (Nat.le_of_ble_eq_true rfl) (congrFun (hkN2 1 (by decide)) v) dX5_works_248 ?_
                            refine q_ifneN (tgt := 337) C (by have := hs1 v; omega) dX5_works_249 (by decide) (fun c249 => ?_) (fun c249 => ?_)
                            · refine q_iinc (d := 1) (lv' := [(2, .int (nI (v + 1))), (1, .int (bI false)), (3, .int (nI ((N2 20) (N 2 v)))), (0, .ref h)]) C dX5_works_337 hl (k := 2) rfl (by decide) (by decide) rfl (fun ls hl => ?_)
                              refine lv_goto (tgt := 159) C.1 C.2.1 dX5_works_340 (by decide) ?_
                              exact ih159 (v + 1) false (va_up B4 21 (va_up (B4 21) ((N2 20) (N 2 v)) true)) (va_up J4 23 (va_up (J4 23) ((N2 20) (N 2 v)) (J 4 v))) (by omega) (by omega) (by show va_up (B4 21) _ true = _; rw [hnF_1 c186, ← hd1]) (by show va_up (J4 23) _ _ = _; rw [nuF_1 c186, ← hd2]) (by show B4 22 = _; rw [hsF_n (by omega), ← hd3]) (by show J4 24 = _; rw [loF_n (by omega), ← hd4]) (by show J4 25 = _; rw [hiF_n (by omega), ← hd5]) (by rw [canF_1 c186, ← hd6, c190, ← hd1, c199, ← hd2, decide_eq_false c214]; rfl) (fun k h1 h2 => by rw [up_n h1]; exact hkB4 k h1 h2) (fun k h1 h2 h3 => by rw [up_n h1]; exact hkJ4 k h1 h2 h3) _ _ _ _ S O F (lv_sub hl [0, 1, 3] rfl)
                            · exact absurd (c249.symm.trans c186) (by decide)
                          · refine lv_iconst (v := bI true) C.1 C.2.1 dX5_works_218 (by decide) ?_
                            refine lv_goto (tgt := 223) C.1 C.2.1 dX5_works_219 (by decide) ?_
                            refine lv_istore_n (lv' := [(1, .int (bI true)), (3, .int (nI ((N2 20) (N 2 v)))), (2, .int (nI v)), (0, .ref h)]) C.1 C.2.1 dX5_works_223 rfl hl (by decide) rfl (fun ls hl => ?_)
                            refine lv_aload_n C.1 C.2.1 dX5_works_224 rfl (lv_at hl 3 rfl) ?_
                            refine o_get (v := .ref (a 21)) C S O rfl inX5_works_X5 21 (Nat.le_of_ble_eq_true rfl) lkX5_works_59 rfl dX5_works_225 ?_
                            refine lv_iload_n C.1 C.2.1 dX5_works_228 rfl (lv_at hl 1 rfl) ?_
                            refine lv_iconst (v := bI true) C.1 C.2.1 dX5_works_229 (by decide) ?_
                            refine o_yast C S O F 21 (Nat.le_of_ble_eq_true rfl) rfl ((N2 20) (N 2 v)) rfl (show (N2 20) (N 2 v) < 64 from by first | omega | exact hs2 _ | exact hs3 _ | exact hL2 _) (Nat.le_of_ble_eq_true rfl) ⟨by decide, by decide⟩ dX5_works_230 (fun f H locs S O F => ?_)
                            refine lv_aload_n C.1 C.2.1 dX5_works_231 rfl (lv_at hl 3 rfl) ?_
                            refine o_get (v := .ref (a 23)) C S O rfl inX5_works_X5 23 (Nat.le_of_ble_eq_true rfl) lkX5_works_66 rfl dX5_works_232 ?_
                            refine lv_iload_n C.1 C.2.1 dX5_works_235 rfl (lv_at hl 1 rfl) ?_
                            refine lv_aload_n C.1 C.2.1 dX5_works_236 rfl (lv_at hl 3 rfl) ?_
                            refine o_get (v := .ref (a 4)) C S O rfl inX5_works_X5 4 (Nat.le_of_ble_eq_true rfl) lkX5_works_19 rfl dX5_works_237 ?_
                            refine lv_iload_n C.1 C.2.1 dX5_works_240 rfl (lv_at hl 2 rfl) ?_
                            refine o_lald (x := J 4 v) C S O 4 (Nat.le_of_ble_eq_true rfl) rfl v rfl (show v < 6400 from by first | omega | exact hL _ | exact hP _ | exact hF _) (Nat.le_of_ble_eq_true rfl) (congrFun (hkJ4 4 (by decide) (by decide) (by decide)) v) dX5_works_241 ?_
                            refine o_last C S O F 23 (Nat.le_of_ble_eq_true rfl) rfl ((N2 20) (N 2 v)) rfl (show (N2 20) (N 2 v) < 64 from by first | omega | exact hs2 _ | exact hs3 _ | exact hL2 _) (Nat.le_of_ble_eq_true rfl) ⟨by decide, by decide⟩ dX5_works_242 (fun f H locs S O F => ?_)
                            refine lv_aload_n C.1 C.2.1 dX5_works_243 rfl (lv_at hl 3 rfl) ?_
                            refine o_get (v := .ref (a 1)) C S O rfl inX5_works_X5 1 (Nat.le_of_ble_eq_true rfl) lkX5_works_9 rfl dX5_works_244 ?_
                            refine lv_iload_n C.1 C.2.1 dX5_works_247 rfl (lv_at hl 2 rfl) ?_
                            refine o_nald (x := N 1 v) C S O 1 (Nat.le_of_ble_eq_true rfl) rfl v rfl (show v < 6400 from by first | omega | exact hL _ | exact hP _ | exact hF _) (Nat.le_of_ble_eq_true rfl) (congrFun (hkN2 1 (by decide)) v) dX5_works_248 ?_
                            refine q_ifneN (tgt := 337) C (by have := hs1 v; omega) dX5_works_249 (by decide) (fun c249 => ?_) (fun c249 => ?_)
                            · refine q_iinc (d := 1) (lv' := [(2, .int (nI (v + 1))), (1, .int (bI true)), (3, .int (nI ((N2 20) (N 2 v)))), (0, .ref h)]) C dX5_works_337 hl (k := 2) rfl (by decide) (by decide) rfl (fun ls hl => ?_)
                              refine lv_goto (tgt := 159) C.1 C.2.1 dX5_works_340 (by decide) ?_
                              exact ih159 (v + 1) true (va_up B4 21 (va_up (B4 21) ((N2 20) (N 2 v)) true)) (va_up J4 23 (va_up (J4 23) ((N2 20) (N 2 v)) (J 4 v))) (by omega) (by omega) (by show va_up (B4 21) _ true = _; rw [hnF_1 c186, ← hd1]) (by show va_up (J4 23) _ _ = _; rw [nuF_1 c186, ← hd2]) (by show B4 22 = _; rw [hsF_n (by omega), ← hd3]) (by show J4 24 = _; rw [loF_n (by omega), ← hd4]) (by show J4 25 = _; rw [hiF_n (by omega), ← hd5]) (by rw [canF_1 c186, ← hd6, c190, ← hd1, c199, ← hd2, decide_eq_true c214]; rfl) (fun k h1 h2 => by rw [up_n h1]; exact hkB4 k h1 h2) (fun k h1 h2 h3 => by rw [up_n h1]; exact hkJ4 k h1 h2 h3) _ _ _ _ S O F (lv_sub hl [0, 1, 3] rfl)
                            · exact absurd (c249.symm.trans c186) (by decide)
              exact lp159 (I 6 + 1) 0 true B1 J (by omega) (by omega) (by rw [ha2, show z = I 0 by omega]; rfl) rfl (by rw [ha3, show z = I 0 by omega]; rfl) rfl rfl rfl hkB1 (fun _ _ _ _ => rfl) _ _ _ _ S O F (lv_sub hl [0, 1, 2] rfl)
            · refine lv_aload_n C.1 C.2.1 dX5_works_47 rfl (lv_at hl 1 rfl) ?_
              refine o_get (v := .ref (a 1)) C S O rfl inX5_works_X5 1 (Nat.le_of_ble_eq_true rfl) lkX5_works_9 rfl dX5_works_48 ?_
              refine lv_iload_n C.1 C.2.1 dX5_works_51 rfl (lv_at hl 0 rfl) ?_
              refine o_nald (x := N 1 y) C S O 1 (Nat.le_of_ble_eq_true rfl) rfl y rfl (show y < 6400 from by first | omega | exact hL _ | exact hP _ | exact hF _) (Nat.le_of_ble_eq_true rfl) (congrFun (hkN2 1 (by decide)) y) dX5_works_52 ?_
              refine lv_iconst (v := nI 2) C.1 C.2.1 dX5_works_53 (by decide) ?_
              refine q_eq (tgt := 60) C (by have := hs1 y; omega) (by decide) dX5_works_54 (by decide) (fun c54 => ?_) (fun c54 => ?_)
              · refine lv_aload_n C.1 C.2.1 dX5_works_60 rfl (lv_at hl 1 rfl) ?_
                refine o_get (v := .ref (a 20)) C S O rfl inX5_works_X5 20 (Nat.le_of_ble_eq_true rfl) lkX5_works_56 rfl dX5_works_61 ?_
                refine lv_aload_n C.1 C.2.1 dX5_works_64 rfl (lv_at hl 1 rfl) ?_
                refine o_get (v := .ref (a 2)) C S O rfl inX5_works_X5 2 (Nat.le_of_ble_eq_true rfl) lkX5_works_13 rfl dX5_works_65 ?_
                refine lv_iload_n C.1 C.2.1 dX5_works_68 rfl (lv_at hl 0 rfl) ?_
                refine o_nald (x := N 2 y) C S O 2 (Nat.le_of_ble_eq_true rfl) rfl y rfl (show y < 6400 from by first | omega | exact hL _ | exact hP _ | exact hF _) (Nat.le_of_ble_eq_true rfl) (congrFun (hkN2 2 (by decide)) y) dX5_works_69 ?_
                refine o_nald (x := (N2 20) (N 2 y)) C S O 20 (Nat.le_of_ble_eq_true rfl) rfl (N 2 y) rfl (show N 2 y < 64 from by first | omega | exact hs2 _ | exact hs3 _ | exact hL2 _) (Nat.le_of_ble_eq_true rfl) rfl dX5_works_70 ?_
                refine lv_aload_n C.1 C.2.1 dX5_works_71 rfl (lv_at hl 1 rfl) ?_
                refine o_get (v := .ref (a 20)) C S O rfl inX5_works_X5 20 (Nat.le_of_ble_eq_true rfl) lkX5_works_56 rfl dX5_works_72 ?_
                refine lv_aload_n C.1 C.2.1 dX5_works_75 rfl (lv_at hl 1 rfl) ?_
                refine o_get (v := .ref (a 3)) C S O rfl inX5_works_X5 3 (Nat.le_of_ble_eq_true rfl) lkX5_works_16 rfl dX5_works_76 ?_
                refine lv_iload_n C.1 C.2.1 dX5_works_79 rfl (lv_at hl 0 rfl) ?_
                refine o_nald (x := N 3 y) C S O 3 (Nat.le_of_ble_eq_true rfl) rfl y rfl (show y < 6400 from by first | omega | exact hL _ | exact hP _ | exact hF _) (Nat.le_of_ble_eq_true rfl) (congrFun (hkN2 3 (by decide)) y) dX5_works_80 ?_
                refine o_nald (x := (N2 20) (N 3 y)) C S O 20 (Nat.le_of_ble_eq_true rfl) rfl (N 3 y) rfl (show N 3 y < 64 from by first | omega | exact hs2 _ | exact hs3 _ | exact hL2 _) (Nat.le_of_ble_eq_true rfl) rfl dX5_works_81 ?_
                refine va_mmin C.1 C.2.1 (C.2.2.1.trans hl.1.symm) C.2.2.2.1 (C.2.2.2.2 _ (List.mem_of_getElem? (i := 9) rfl)) (C.2.2.2.2 _ (List.mem_of_getElem? (i := 10) rfl)) (C.2.2.2.2 _ (List.mem_of_getElem? (i := 11) rfl)) (C.2.2.2.2 _ (List.mem_of_getElem? (i := 12) rfl)) (Nat.le_of_ble_eq_true rfl) (Nat.le_of_ble_eq_true rfl) (Nat.le_of_ble_eq_true rfl) (Nat.le_of_ble_eq_true rfl) dX5_works_82 ?_
                rw [q_mn (Nat.lt_trans (hL2 _) (by decide)) (Nat.lt_trans (hL2 _) (by decide))]
                refine lv_istore_n (lv' := [(2, .int (nI (min ((N2 20) (N 2 y)) ((N2 20) (N 3 y))))), (1, .int (nI y)), (0, .ref h)]) C.1 C.2.1 dX5_works_85 rfl hl (by decide) rfl (fun ls hl => ?_)
                refine lv_aload_n C.1 C.2.1 dX5_works_86 rfl (lv_at hl 2 rfl) ?_
                refine o_get (v := .ref (a 20)) C S O rfl inX5_works_X5 20 (Nat.le_of_ble_eq_true rfl) lkX5_works_56 rfl dX5_works_87 ?_
                refine lv_aload_n C.1 C.2.1 dX5_works_90 rfl (lv_at hl 2 rfl) ?_
                refine o_get (v := .ref (a 2)) C S O rfl inX5_works_X5 2 (Nat.le_of_ble_eq_true rfl) lkX5_works_13 rfl dX5_works_91 ?_
                refine lv_iload_n C.1 C.2.1 dX5_works_94 rfl (lv_at hl 1 rfl) ?_
                refine o_nald (x := N 2 y) C S O 2 (Nat.le_of_ble_eq_true rfl) rfl y rfl (show y < 6400 from by first | omega | exact hL _ | exact hP _ | exact hF _) (Nat.le_of_ble_eq_true rfl) (congrFun (hkN2 2 (by decide)) y) dX5_works_95 ?_
                refine o_nald (x := (N2 20) (N 2 y)) C S O 20 (Nat.le_of_ble_eq_true rfl) rfl (N 2 y) rfl (show N 2 y < 64 from by first | omega | exact hs2 _ | exact hs3 _ | exact hL2 _) (Nat.le_of_ble_eq_true rfl) rfl dX5_works_96 ?_
                refine lv_aload_n C.1 C.2.1 dX5_works_97 rfl (lv_at hl 2 rfl) ?_
                refine o_get (v := .ref (a 20)) C S O rfl inX5_works_X5 20 (Nat.le_of_ble_eq_true rfl) lkX5_works_56 rfl dX5_works_98 ?_
                refine lv_aload_n C.1 C.2.1 dX5_works_101 rfl (lv_at hl 2 rfl) ?_
                refine o_get (v := .ref (a 3)) C S O rfl inX5_works_X5 3 (Nat.le_of_ble_eq_true rfl) lkX5_works_16 rfl dX5_works_102 ?_
                refine lv_iload_n C.1 C.2.1 dX5_works_105 rfl (lv_at hl 1 rfl) ?_
                refine o_nald (x := N 3 y) C S O 3 (Nat.le_of_ble_eq_true rfl) rfl y rfl (show y < 6400 from by first | omega | exact hL _ | exact hP _ | exact hF _) (Nat.le_of_ble_eq_true rfl) (congrFun (hkN2 3 (by decide)) y) dX5_works_106 ?_
                refine o_nald (x := (N2 20) (N 3 y)) C S O 20 (Nat.le_of_ble_eq_true rfl) rfl (N 3 y) rfl (show N 3 y < 64 from by first | omega | exact hs2 _ | exact hs3 _ | exact hL2 _) (Nat.le_of_ble_eq_true rfl) rfl dX5_works_107 ?_
                refine va_mmax C.1 C.2.1 (C.2.2.1.trans hl.1.symm) C.2.2.2.1 (C.2.2.2.2 _ (List.mem_of_getElem? (i := 13) rfl)) (C.2.2.2.2 _ (List.mem_of_getElem? (i := 14) rfl)) (C.2.2.2.2 _ (List.mem_of_getElem? (i := 11) rfl)) (C.2.2.2.2 _ (List.mem_of_getElem? (i := 15) rfl)) (Nat.le_of_ble_eq_true rfl) (Nat.le_of_ble_eq_true rfl) (Nat.le_of_ble_eq_true rfl) (Nat.le_of_ble_eq_true rfl) dX5_works_108 ?_
                rw [q_mx (Nat.lt_trans (hL2 _) (by decide)) (Nat.lt_trans (hL2 _) (by decide))]
                refine lv_istore_n (lv' := [(3, .int (nI (max ((N2 20) (N 2 y)) ((N2 20) (N 3 y))))), (2, .int (nI (min ((N2 20) (N 2 y)) ((N2 20) (N 3 y))))), (1, .int (nI y)), (0, .ref h)]) C.1 C.2.1 dX5_works_111 rfl hl (by decide) rfl (fun ls hl => ?_)
                refine lv_iconst (v := nI 0) C.1 C.2.1 dX5_works_112 (by decide) ?_
                refine lv_istore (lv' := [(4, .int (nI 0)), (3, .int (nI (max ((N2 20) (N 2 y)) ((N2 20) (N 3 y))))), (2, .int (nI (min ((N2 20) (N 2 y)) ((N2 20) (N 3 y))))), (1, .int (nI y)), (0, .ref h)]) C.1 C.2.1 dX5_works_113 hl (by decide) rfl (fun ls hl => ?_)
                have lp115 : ∀ (n115 : Nat) (q : Nat) (N3 : Nat → Nat → Nat), I 0 - q < n115 → (q ≤ I 0) → (N3 20 = jn (N2 20) q (min (N2 20 (N 2 y)) (N2 20 (N 3 y))) (max (N2 20 (N 2 y)) (N2 20 (N 3 y)))) → (∀ k, k ≠ 20 → N3 k = N k) → (∀ i, N3 20 i < 64) → ∀ (f : fw_F) (H : Heap) (locs : List Loc) (ls : Array Slot), fw_S G A s f H locs → isO G dM f 2000 h a I N3 B1 J → fw_fr f0 f 2000 2035 → lv_has ls 5 [(4, .int (nI q)), (3, .int (nI (max ((N2 20) (N 2 y)) ((N2 20) (N 3 y))))), (2, .int (nI (min ((N2 20) (N 2 y)) ((N2 20) (N 3 y))))), (1, .int (nI y)), (0, .ref h)] → W p l e ({ frames := 2, cells := 0, slots := 0, locals := 46 }) s m [.ref h].toArray below meth c H locs 0 0 (MQ below (va_Qi (fun (r : Int32) (f1 : fw_F) => ∃ N' B' J', isO G dM f1 2000 h a I N' B' J' ∧ fw_fr f0 f1 2000 2035 ∧ r = bI (wkC N' B' J' I N B J) ∧ wkT N' B' J' I N B J) (fw_B G A) A) [.ref h].toArray s 0 0 A) (F0 m 115 ls []) := by
                  intro n115
                  induction n115 with
                  | zero => intro q N3 hme115; exact absurd hme115 (Nat.not_lt_zero _)
                  | succ n115 ih115 =>
                    intro q N3 hme115 hq hc1 hkN3 hL3 f H locs ls S O F hl
                    refine lv_iload C.1 C.2.1 dX5_works_115 (lv_at hl 0 rfl) ?_
                    refine lv_aload_n C.1 C.2.1 dX5_works_117 rfl (lv_at hl 4 rfl) ?_
                    refine o_get (v := .int (nI (I 0))) C S O rfl inX5_works_X5 0 (Nat.le_of_ble_eq_true rfl) lkX5_works_87 rfl dX5_works_118 ?_
                    refine q_ge (tgt := 149) C (by omega) (by omega) dX5_works_121 (by decide) (fun c121 => ?_) (fun c121 => ?_)
                    · refine q_iinc (d := 1) (lv' := [(1, .int (nI (y + 1))), (4, .int (nI q)), (3, .int (nI (max ((N2 20) (N 2 y)) ((N2 20) (N 3 y))))), (2, .int (nI (min ((N2 20) (N 2 y)) ((N2 20) (N 3 y))))), (0, .ref h)]) C dX5_works_149 hl (k := 3) rfl (by decide) (by decide) rfl (fun ls hl => ?_)
                      refine lv_goto (tgt := 39) C.1 C.2.1 dX5_works_152 (by decide) ?_
                      exact ih39 (y + 1) N3 (by omega) (by omega) (by rw [wF_2 c54, ← hb1, hc1, show q = I 0 by omega]) hkN3 hL3 _ _ _ _ S O F (lv_sub hl [0, 4] rfl)
                    · refine lv_aload_n C.1 C.2.1 dX5_works_124 rfl (lv_at hl 4 rfl) ?_
                      refine o_get (v := .ref (a 20)) C S O rfl inX5_works_X5 20 (Nat.le_of_ble_eq_true rfl) lkX5_works_56 rfl dX5_works_125 ?_
                      refine lv_iload C.1 C.2.1 dX5_works_128 (lv_at hl 0 rfl) ?_
                      refine o_nald (x := (N3 20) q) C S O 20 (Nat.le_of_ble_eq_true rfl) rfl q rfl (show q < 64 from by first | omega | exact hL _ | exact hP _ | exact hF _) (Nat.le_of_ble_eq_true rfl) rfl dX5_works_130 ?_
                      refine lv_iload_n C.1 C.2.1 dX5_works_131 rfl (lv_at hl 1 rfl) ?_
                      refine q_nee (tgt := 143) C (Nat.lt_trans (hL3 _) (by decide)) (by have := hL2 (N 2 y); have := hL2 (N 3 y); omega) dX5_works_132 (by decide) (fun c132 => ?_) (fun c132 => ?_)
                      · refine q_iinc (d := 1) (lv' := [(4, .int (nI (q + 1))), (3, .int (nI (max ((N2 20) (N 2 y)) ((N2 20) (N 3 y))))), (2, .int (nI (min ((N2 20) (N 2 y)) ((N2 20) (N 3 y))))), (1, .int (nI y)), (0, .ref h)]) C dX5_works_143 hl (k := 0) rfl (by decide) (by decide) rfl (fun ls hl => ?_)
                        refine lv_goto (tgt := 115) C.1 C.2.1 dX5_works_146 (by decide) ?_
                        exact ih115 (q + 1) N3 (by omega) (by omega) (by rw [jn_ne (by intro q2; exact c132 (by rw [hc1, jn_at]; exact q2)), ← hc1]) hkN3 hL3 _ _ _ _ S O F (lv_sub hl [0, 1, 2, 3, 4] rfl)
                      · refine lv_aload_n C.1 C.2.1 dX5_works_135 rfl (lv_at hl 4 rfl) ?_
                        refine o_get (v := .ref (a 20)) C S O rfl inX5_works_X5 20 (Nat.le_of_ble_eq_true rfl) lkX5_works_56 rfl dX5_works_136 ?_
                        refine lv_iload C.1 C.2.1 dX5_works_139 (lv_at hl 0 rfl) ?_
                        refine lv_iload_n C.1 C.2.1 dX5_works_141 rfl (lv_at hl 2 rfl) ?_
                        refine o_nast C S O F 20 (Nat.le_of_ble_eq_true rfl) rfl q rfl (show q < 64 from by first | omega | exact hL _ | exact hP _ | exact hF _) (Nat.le_of_ble_eq_true rfl) ⟨by decide, by decide⟩ dX5_works_142 (fun f H locs S O F => ?_)
                        refine q_iinc (d := 1) (lv' := [(4, .int (nI (q + 1))), (3, .int (nI (max ((N2 20) (N 2 y)) ((N2 20) (N 3 y))))), (2, .int (nI (min ((N2 20) (N 2 y)) ((N2 20) (N 3 y))))), (1, .int (nI y)), (0, .ref h)]) C dX5_works_143 hl (k := 0) rfl (by decide) (by decide) rfl (fun ls hl => ?_)
                        refine lv_goto (tgt := 115) C.1 C.2.1 dX5_works_146 (by decide) ?_
                        exact ih115 (q + 1) (va_up N3 20 (va_up (N3 20) q (min ((N2 20) (N 2 y)) ((N2 20) (N 3 y))))) (by omega) (by omega) (by show va_up (N3 20) q _ = _; rw [jn_eq (by rw [← c132, hc1, jn_at]), ← hc1]) (fun k hk => by rw [up_n hk]; exact hkN3 k hk) (fun i => by show va_up (N3 20) q _ i < 64; by_cases q2 : i = q; rw [q2, up_s]; have := hL2 (N 2 y); have := hL2 (N 3 y); omega; rw [up_n q2]; exact hL3 i) _ _ _ _ S O F (lv_sub hl [0, 1, 2, 3, 4] rfl)
                exact lp115 (I 0 + 1) 0 N2 (by omega) (by omega) (jn_0 _ _ _).symm hkN2 hL2 _ _ _ _ S O F (lv_sub hl [0, 1, 2, 3, 4] rfl)
              · refine lv_goto (tgt := 149) C.1 C.2.1 dX5_works_57 (by decide) ?_
                refine q_iinc (d := 1) (lv' := [(1, .int (nI (y + 1))), (0, .ref h)]) C dX5_works_149 hl (k := 0) rfl (by decide) (by decide) rfl (fun ls hl => ?_)
                refine lv_goto (tgt := 39) C.1 C.2.1 dX5_works_152 (by decide) ?_
                exact ih39 (y + 1) N2 (by omega) (by omega) (by rw [wF_n c54]; exact hb1) hkN2 hL2 _ _ _ _ S O F (lv_sub hl [0, 1] rfl)
        exact lp39 (I 6 + 1) 0 N1 (by omega) (by omega) (by rw [ha1, show z = I 0 by omega]; rfl) hkN1 hL1 _ _ _ _ S O F (lv_sub hl [0, 1] rfl)
      · refine lv_aload_n C.1 C.2.1 dX5_works_10 rfl (lv_at hl 1 rfl) ?_
        refine o_get (v := .ref (a 20)) C S O rfl inX5_works_X5 20 (Nat.le_of_ble_eq_true rfl) lkX5_works_56 rfl dX5_works_11 ?_
        refine lv_iload_n C.1 C.2.1 dX5_works_14 rfl (lv_at hl 0 rfl) ?_
        refine lv_iload_n C.1 C.2.1 dX5_works_15 rfl (lv_at hl 0 rfl) ?_
        refine o_nast C S O F 20 (Nat.le_of_ble_eq_true rfl) rfl z rfl (show z < 64 from by first | omega | exact hL _ | exact hP _ | exact hF _) (Nat.le_of_ble_eq_true rfl) ⟨by decide, by decide⟩ dX5_works_16 (fun f H locs S O F => ?_)
        refine lv_aload_n C.1 C.2.1 dX5_works_17 rfl (lv_at hl 1 rfl) ?_
        refine o_get (v := .ref (a 21)) C S O rfl inX5_works_X5 21 (Nat.le_of_ble_eq_true rfl) lkX5_works_59 rfl dX5_works_18 ?_
        refine lv_iload_n C.1 C.2.1 dX5_works_21 rfl (lv_at hl 0 rfl) ?_
        refine lv_iconst (v := bI false) C.1 C.2.1 dX5_works_22 (by decide) ?_
        refine o_yast C S O F 21 (Nat.le_of_ble_eq_true rfl) rfl z rfl (show z < 64 from by first | omega | exact hL _ | exact hP _ | exact hF _) (Nat.le_of_ble_eq_true rfl) ⟨by decide, by decide⟩ dX5_works_23 (fun f H locs S O F => ?_)
        refine lv_aload_n C.1 C.2.1 dX5_works_24 rfl (lv_at hl 1 rfl) ?_
        refine o_get (v := .ref (a 22)) C S O rfl inX5_works_X5 22 (Nat.le_of_ble_eq_true rfl) lkX5_works_63 rfl dX5_works_25 ?_
        refine lv_iload_n C.1 C.2.1 dX5_works_28 rfl (lv_at hl 0 rfl) ?_
        refine lv_iconst (v := bI false) C.1 C.2.1 dX5_works_29 (by decide) ?_
        refine o_yast C S O F 22 (Nat.le_of_ble_eq_true rfl) rfl z rfl (show z < 64 from by first | omega | exact hL _ | exact hP _ | exact hF _) (Nat.le_of_ble_eq_true rfl) ⟨by decide, by decide⟩ dX5_works_30 (fun f H locs S O F => ?_)
        refine q_iinc (d := 1) (lv' := [(1, .int (nI (z + 1))), (0, .ref h)]) C dX5_works_31 hl (k := 0) rfl (by decide) (by decide) rfl (fun ls hl => ?_)
        refine lv_goto (tgt := 2) C.1 C.2.1 dX5_works_34 (by decide) ?_
        exact ih2 (z + 1) (va_up N1 20 (va_up (N1 20) z z)) (va_up (va_up B1 21 (va_up (B1 21) z false)) 22 (va_up (B1 22) z false)) (by omega) (by omega) (by show va_up (N1 20) z z = _; rw [initL_s, ← ha1]) (fun k hk => by rw [up_n hk]; exact hkN1 k hk) (by show va_up (B1 21) z false = _; rw [initB_s, ← ha2]) (by show va_up (B1 22) z false = _; rw [initB_s, ← ha3]) (fun k h1 h2 => by rw [up_n h2, up_n h1]; exact hkB1 k h1 h2) (fun i => by show va_up (N1 20) z z i < 64; by_cases q : i = z; rw [q, up_s]; omega; rw [up_n q]; exact hL1 i) _ _ _ _ S O F (lv_sub hl [0, 1] rfl)
  exact lp2 (I 0 + 1) 0 N B (by omega) (by omega) (initL_0 _).symm (fun _ _ => rfl) (initB_0 _).symm (initB_0 _).symm (fun _ _ _ => rfl) hL _ _ _ _ S O F (lv_sub hl [0, 1] rfl)
