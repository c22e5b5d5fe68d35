theorem inX1_countOnes_X1 : ∀ w ∈ u_ws RX1 TX1 7, w ∈ wsX1_countOnes := (fun _ h => (List.mem_cons_of_mem _ (List.mem_append_right _ h)))
theorem lkX1_countOnes_32 : Cond.fieldLink RX1 32 (TX1 0).1 (TX1 0).2.1 (TX1 0).2.2.1 ∈ wsX1_countOnes := List.mem_of_getElem? (i := 1) rfl
theorem lkX1_countOnes_9 : Cond.fieldLink RX1 9 (TX1 1).1 (TX1 1).2.1 (TX1 1).2.2.1 ∈ wsX1_countOnes := List.mem_of_getElem? (i := 2) rfl
set_option maxHeartbeats 4000000 in
set_option maxRecDepth 100000 in
theorem c_countOnes {l : Launch} {G : fw_G} {A : Nat → Prop} {f0 : fw_F} {b h : Nat} {a : Nat → Nat} {I : Nat → Nat} {N : Nat → Nat → Nat} {B : Nat → Nat → Bool} {J : Nat → Nat → Int64} (O : isO G dN f0 b h a I N B J) (x : Nat) (hx : x < 64) (hL : ∀ i, N 1 i < 64) (hn : I 0 ≤ 64)  : Met l yX1_countOnes wsX1_countOnes ({ frames := 0, cells := 0, slots := 0, locals := 0 }) (va_Pc [.ref h, .int (nI x)] (fw_P G A f0)) (vp_Si (fun (r : Int32) => r = nI (cnt (fun i => decide (N 1 i = N 1 x)) (I 0)))) 0 0 (fun _ => False) := by
  refine q_head rfl (by decide) (Nat.le_of_ble_eq_true rfl) ?_
  intro p e s m below meth c ls C hr hlk hnm P hl
  have S := P.start
  have hl : lv_has ls 4 [(0, .ref h), (1, .int (nI x))] := hl
  refine lv_iconst (v := nI 0) C.1 C.2.1 dX1_countOnes_0 (by decide) ?_
  refine lv_istore_n (lv' := [(2, .int (nI 0)), (0, .ref h), (1, .int (nI x))]) C.1 C.2.1 dX1_countOnes_1 rfl hl (by decide) rfl (fun ls hl => ?_)
  refine lv_iconst (v := nI 0) C.1 C.2.1 dX1_countOnes_2 (by decide) ?_
  refine lv_istore_n (lv' := [(3, .int (nI 0)), (2, .int (nI 0)), (0, .ref h), (1, .int (nI x))]) C.1 C.2.1 dX1_countOnes_3 rfl hl (by decide) rfl (fun ls hl => ?_)
  have lp4 : ∀ (n4 : Nat) (z : Nat) (q : Nat), I 0 - z < n4 → (z ≤ I 0) → (q = cnt (fun i => decide (N 1 i = N 1 x)) z) → ∀ (ls : Array Slot), lv_has ls 4 [(3, .int (nI z)), (2, .int (nI q)), (0, .ref h), (1, .int (nI x))] → W p l e ({ frames := 0, cells := 0, slots := 0, locals := 0 }) s m [.ref h, .int (nI x)].toArray below meth c s.heap [] 0 0 (MQ below (vp_Si (fun (r : Int32) => r = nI (cnt (fun i => decide (N 1 i = N 1 x)) (I 0)))) [.ref h, .int (nI x)].toArray s 0 0 (fun _ => False)) (F0 m 4 ls []) := by
    intro n4
    induction n4 with
    | zero => intro z q hme4; exact absurd hme4 (Nat.not_lt_zero _)
    | succ n4 ih4 =>
      intro z q hme4 hz hq ls hl
      refine lv_iload_n C.1 C.2.1 dX1_countOnes_4 rfl (lv_at hl 0 rfl) ?_
      refine lv_aload_n C.1 C.2.1 dX1_countOnes_5 rfl (lv_at hl 2 rfl) ?_
      refine o_get (v := .int (nI (I 0))) C S O rfl inX1_countOnes_X1 0 (Nat.le_of_ble_eq_true rfl) lkX1_countOnes_32 rfl dX1_countOnes_6 ?_
      refine q_ge (tgt := 36) C (by omega) (by omega) dX1_countOnes_9 (by decide) (fun c9 => ?_) (fun c9 => ?_)
      · refine lv_iload_n C.1 C.2.1 dX1_countOnes_36 rfl (lv_at hl 1 rfl) ?_
        exact q_retSi C hr hlk (by rw [hq, show z = I 0 by omega]) dX1_countOnes_37
      · refine lv_aload_n C.1 C.2.1 dX1_countOnes_12 rfl (lv_at hl 2 rfl) ?_
        refine o_get (v := .ref (a 1)) C S O rfl inX1_countOnes_X1 1 (Nat.le_of_ble_eq_true rfl) lkX1_countOnes_9 rfl dX1_countOnes_13 ?_
        refine lv_iload_n C.1 C.2.1 dX1_countOnes_16 rfl (lv_at hl 0 rfl) ?_
        refine o_nald (x := (N 1) z) C S O 1 (Nat.le_of_ble_eq_true rfl) rfl z rfl (show z < 64 from by first | omega | exact hL _ | exact hP _ | exact hF _) (Nat.le_of_ble_eq_true rfl) rfl dX1_countOnes_17 ?_
        refine lv_aload_n C.1 C.2.1 dX1_countOnes_18 rfl (lv_at hl 2 rfl) ?_
        refine o_get (v := .ref (a 1)) C S O rfl inX1_countOnes_X1 1 (Nat.le_of_ble_eq_true rfl) lkX1_countOnes_9 rfl dX1_countOnes_19 ?_
        refine lv_iload_n C.1 C.2.1 dX1_countOnes_22 rfl (lv_at hl 3 rfl) ?_
        refine o_nald (x := (N 1) x) C S O 1 (Nat.le_of_ble_eq_true rfl) rfl x rfl (show x < 64 from by first | omega | exact hL _ | exact hP _ | exact hF _) (Nat.le_of_ble_eq_true rfl) rfl dX1_countOnes_23 ?_
        refine q_nee (tgt := 30) C (Nat.lt_trans (hL _) (by decide)) (Nat.lt_trans (hL _) (by decide)) dX1_countOnes_24 (by decide) (fun c24 => ?_) (fun c24 => ?_)
        · refine q_iinc (d := 1) (lv' := [(3, .int (nI (z + 1))), (2, .int (nI q)), (0, .ref h), (1, .int (nI x))]) C dX1_countOnes_30 hl (k := 0) rfl (by decide) (by decide) rfl (fun ls hl => ?_)
          refine lv_goto (tgt := 4) C.1 C.2.1 dX1_countOnes_33 (by decide) ?_
          exact ih4 (z + 1) q (by omega) (by omega) (by rw [hq, cnt_f (by exact decide_eq_false c24)]) _ (lv_sub hl [0, 1, 2, 3] rfl)
        · refine q_iinc (d := 1) (lv' := [(2, .int (nI (q + 1))), (3, .int (nI z)), (0, .ref h), (1, .int (nI x))]) C dX1_countOnes_27 hl (k := 1) rfl (by decide) (by decide) rfl (fun ls hl => ?_)
          refine q_iinc (d := 1) (lv' := [(3, .int (nI (z + 1))), (2, .int (nI (q + 1))), (0, .ref h), (1, .int (nI x))]) C dX1_countOnes_30 hl (k := 1) rfl (by decide) (by decide) rfl (fun ls hl => ?_)
          refine lv_goto (tgt := 4) C.1 C.2.1 dX1_countOnes_33 (by decide) ?_
          exact ih4 (z + 1) (q + 1) (by omega) (by omega) (by rw [hq, cnt_t (by exact decide_eq_true c24)]) _ (lv_sub hl [0, 1, 2, 3] rfl)
  exact lp4 (I 0 + 1) 0 0 (by omega) (by omega) rfl _ (lv_sub hl [0, 1, 2, 3] rfl)
theorem inX1_join_X1 : ∀ w ∈ u_ws RX1 TX1 7, w ∈ wsX1_join := (fun _ h => (List.mem_cons_of_mem _ (List.mem_append_right _ h)))
theorem lkX1_join_9 : Cond.fieldLink RX1 9 (TX1 1).1 (TX1 1).2.1 (TX1 1).2.2.1 ∈ wsX1_join := List.mem_of_getElem? (i := 1) rfl
theorem lkX1_join_32 : Cond.fieldLink RX1 32 (TX1 0).1 (TX1 0).2.1 (TX1 0).2.2.1 ∈ wsX1_join := List.mem_of_getElem? (i := 9) rfl
set_option maxHeartbeats 4000000 in
set_option maxRecDepth 100000 in
theorem c_join {l : Launch} {G : fw_G} {A : Nat → Prop} {f0 : fw_F} {b h : Nat} {a : Nat → Nat} {I : Nat → Nat} {N : Nat → Nat → Nat} {B : Nat → Nat → Bool} {J : Nat → Nat → Int64} (O : isO G dN f0 b h a I N B J) (x y : Nat) (hx : x < 64) (hy : y < 64) (hL : ∀ i, N 1 i < 64) (hn : I 0 ≤ 64)  : Met l yX1_join wsX1_join ({ frames := 1, cells := 0, slots := 0, locals := 21 }) (va_Pc [.ref h, .int (nI x), .int (nI y)] (fw_P G A f0)) (va_Qv (fun (f1 : fw_F) => ∃ N', isO G dN f1 b h a I N' B J ∧ N' 1 = jn (N 1) (I 0) (min (N 1 x) (N 1 y)) (max (N 1 x) (N 1 y)) ∧ fw_fr f0 f1 b (b + 8)) (fw_B G A) A) 0 0 A := by
  refine q_head rfl (by decide) (Nat.le_of_ble_eq_true rfl) ?_
  intro p e s m below meth c ls C hr hlk hnm P hl
  have S := P.start
  have hl : lv_has ls 6 [(0, .ref h), (1, .int (nI x)), (2, .int (nI y))] := hl
  have F := fw_fr_rf f0 b (b + 8)
  have hLx := hL x
  have hLy := hL y
  refine lv_aload_n C.1 C.2.1 dX1_join_0 rfl (lv_at hl 0 rfl) ?_
  refine o_get (v := .ref (a 1)) C S O rfl inX1_join_X1 1 (Nat.le_of_ble_eq_true rfl) lkX1_join_9 rfl dX1_join_1 ?_
  refine lv_iload_n C.1 C.2.1 dX1_join_4 rfl (lv_at hl 1 rfl) ?_
  refine o_nald (x := (N 1) x) C S O 1 (Nat.le_of_ble_eq_true rfl) rfl x rfl (show x < 64 from by first | omega | exact hL _ | exact hP _ | exact hF _) (Nat.le_of_ble_eq_true rfl) rfl dX1_join_5 ?_
  refine lv_aload_n C.1 C.2.1 dX1_join_6 rfl (lv_at hl 0 rfl) ?_
  refine o_get (v := .ref (a 1)) C S O rfl inX1_join_X1 1 (Nat.le_of_ble_eq_true rfl) lkX1_join_9 rfl dX1_join_7 ?_
  refine lv_iload_n C.1 C.2.1 dX1_join_10 rfl (lv_at hl 2 rfl) ?_
  refine o_nald (x := (N 1) y) C S O 1 (Nat.le_of_ble_eq_true rfl) rfl y rfl (show y < 64 from by first | omega | exact hL _ | exact hP _ | exact hF _) (Nat.le_of_ble_eq_true rfl) rfl dX1_join_11 ?_
  refine va_mmin C.1 C.2.1 (C.2.2.1.trans hl.1.symm) C.2.2.2.1 (C.2.2.2.2 _ (List.mem_of_getElem? (i := 2) rfl)) (C.2.2.2.2 _ (List.mem_of_getElem? (i := 3) rfl)) (C.2.2.2.2 _ (List.mem_of_getElem? (i := 4) rfl)) (C.2.2.2.2 _ (List.mem_of_getElem? (i := 5) rfl)) (Nat.le_of_ble_eq_true rfl) (Nat.le_of_ble_eq_true rfl) (Nat.le_of_ble_eq_true rfl) (Nat.le_of_ble_eq_true rfl) dX1_join_12 ?_
  rw [q_mn (Nat.lt_trans (hL _) (by decide)) (Nat.lt_trans (hL _) (by decide))]
  refine lv_istore_n (lv' := [(3, .int (nI (min ((N 1) x) ((N 1) y)))), (0, .ref h), (1, .int (nI x)), (2, .int (nI y))]) C.1 C.2.1 dX1_join_15 rfl hl (by decide) rfl (fun ls hl => ?_)
  refine lv_aload_n C.1 C.2.1 dX1_join_16 rfl (lv_at hl 1 rfl) ?_
  refine o_get (v := .ref (a 1)) C S O rfl inX1_join_X1 1 (Nat.le_of_ble_eq_true rfl) lkX1_join_9 rfl dX1_join_17 ?_
  refine lv_iload_n C.1 C.2.1 dX1_join_20 rfl (lv_at hl 2 rfl) ?_
  refine o_nald (x := (N 1) x) C S O 1 (Nat.le_of_ble_eq_true rfl) rfl x rfl (show x < 64 from by first | omega | exact hL _ | exact hP _ | exact hF _) (Nat.le_of_ble_eq_true rfl) rfl dX1_join_21 ?_
  refine lv_aload_n C.1 C.2.1 dX1_join_22 rfl (lv_at hl 1 rfl) ?_
  refine o_get (v := .ref (a 1)) C S O rfl inX1_join_X1 1 (Nat.le_of_ble_eq_true rfl) lkX1_join_9 rfl dX1_join_23 ?_
  refine lv_iload_n C.1 C.2.1 dX1_join_26 rfl (lv_at hl 3 rfl) ?_
  refine o_nald (x := (N 1) y) C S O 1 (Nat.le_of_ble_eq_true rfl) rfl y rfl (show y < 64 from by first | omega | exact hL _ | exact hP _ | exact hF _) (Nat.le_of_ble_eq_true rfl) rfl dX1_join_27 ?_
  refine va_mmax C.1 C.2.1 (C.2.2.1.trans hl.1.symm) C.2.2.2.1 (C.2.2.2.2 _ (List.mem_of_getElem? (i := 6) rfl)) (C.2.2.2.2 _ (List.mem_of_getElem? (i := 7) rfl)) (C.2.2.2.2 _ (List.mem_of_getElem? (i := 4) rfl)) (C.2.2.2.2 _ (List.mem_of_getElem? (i := 8) rfl)) (Nat.le_of_ble_eq_true rfl) (Nat.le_of_ble_eq_true rfl) (Nat.le_of_ble_eq_true rfl) (Nat.le_of_ble_eq_true rfl) dX1_join_28 ?_
  rw [q_mx (Nat.lt_trans (hL _) (by decide)) (Nat.lt_trans (hL _) (by decide))]
  refine lv_istore (lv' := [(4, .int (nI (max ((N 1) x) ((N 1) y)))), (3, .int (nI (min ((N 1) x) ((N 1) y)))), (0, .ref h), (1, .int (nI x)), (2, .int (nI y))]) C.1 C.2.1 dX1_join_31 hl (by decide) rfl (fun ls hl => ?_)
  refine lv_iconst (v := nI 0) C.1 C.2.1 dX1_join_33 (by decide) ?_
  refine lv_istore (lv' := [(5, .int (nI 0)), (4, .int (nI (max ((N 1) x) ((N 1) y)))), (3, .int (nI (min ((N 1) x) ((N 1) y)))), (0, .ref h), (1, .int (nI x)), (2, .int (nI y))]) C.1 C.2.1 dX1_join_34 hl (by decide) rfl (fun ls hl => ?_)
  have lp36 : ∀ (n36 : Nat) (z : Nat) (N2 : Nat → Nat → Nat), I 0 - z < n36 → (z ≤ I 0) → (N2 1 = jn (N 1) z (min (N 1 x) (N 1 y)) (max (N 1 x) (N 1 y))) → ∀ (f : fw_F) (H : Heap) (locs : List Loc) (ls : Array Slot), fw_S G A s f H locs → isO G dN f b h a I N2 B J → fw_fr f0 f b (b + 8) → lv_has ls 6 [(5, .int (nI z)), (4, .int (nI (max ((N 1) x) ((N 1) y)))), (3, .int (nI (min ((N 1) x) ((N 1) y)))), (0, .ref h), (1, .int (nI x)), (2, .int (nI y))] → W p l e ({ frames := 1, cells := 0, slots := 0, locals := 21 }) s m [.ref h, .int (nI x), .int (nI y)].toArray below meth c H locs 0 0 (MQ below (va_Qv (fun (f1 : fw_F) => ∃ N', isO G dN f1 b h a I N' B J ∧ N' 1 = jn (N 1) (I 0) (min (N 1 x) (N 1 y)) (max (N 1 x) (N 1 y)) ∧ fw_fr f0 f1 b (b + 8)) (fw_B G A) A) [.ref h, .int (nI x), .int (nI y)].toArray s 0 0 A) (F0 m 36 ls []) := by
    intro n36
    induction n36 with
    | zero => intro z N2 hme36; exact absurd hme36 (Nat.not_lt_zero _)
    | succ n36 ih36 =>
      intro z N2 hme36 hz hN2 f H locs ls S O F hl
      refine lv_iload C.1 C.2.1 dX1_join_36 (lv_at hl 0 rfl) ?_
      refine lv_aload_n C.1 C.2.1 dX1_join_38 rfl (lv_at hl 3 rfl) ?_
      refine o_get (v := .int (nI (I 0))) C S O rfl inX1_join_X1 0 (Nat.le_of_ble_eq_true rfl) lkX1_join_32 rfl dX1_join_39 ?_
      refine q_ge (tgt := 71) C (by omega) (by omega) dX1_join_42 (by decide) (fun c42 => ?_) (fun c42 => ?_)
      · exact q_retQv C S hr hlk ⟨N2, O, by rw [hN2, show z = I 0 by omega], F⟩ dX1_join_71
      · refine lv_aload_n C.1 C.2.1 dX1_join_45 rfl (lv_at hl 3 rfl) ?_
        refine o_get (v := .ref (a 1)) C S O rfl inX1_join_X1 1 (Nat.le_of_ble_eq_true rfl) lkX1_join_9 rfl dX1_join_46 ?_
        refine lv_iload C.1 C.2.1 dX1_join_49 (lv_at hl 0 rfl) ?_
        refine o_nald (x := (N2 1) z) C S O 1 (Nat.le_of_ble_eq_true rfl) rfl z rfl (show z < 64 from by omega) (Nat.le_of_ble_eq_true rfl) rfl dX1_join_51 ?_
        refine lv_iload C.1 C.2.1 dX1_join_52 (lv_at hl 1 rfl) ?_
        refine q_nee (tgt := 65) C (by rw [hN2, jn_at]; exact Nat.lt_trans (hL _) (by decide)) (by omega) dX1_join_54 (by decide) (fun c54 => ?_) (fun c54 => ?_)
        · refine q_iinc (d := 1) (lv' := [(5, .int (nI (z + 1))), (4, .int (nI (max ((N 1) x) ((N 1) y)))), (3, .int (nI (min ((N 1) x) ((N 1) y)))), (0, .ref h), (1, .int (nI x)), (2, .int (nI y))]) C dX1_join_65 hl (k := 0) rfl (by decide) (by decide) rfl (fun ls hl => ?_)
          refine lv_goto (tgt := 36) C.1 C.2.1 dX1_join_68 (by decide) ?_
          exact ih36 (z + 1) N2 (by omega) (by omega) (by rw [jn_ne (by intro q; exact c54 (by rw [hN2, jn_at]; exact q)), ← hN2]) _ _ _ _ S O F (lv_sub hl [0, 1, 2, 3, 4, 5] rfl)
        · refine lv_aload_n C.1 C.2.1 dX1_join_57 rfl (lv_at hl 3 rfl) ?_
          refine o_get (v := .ref (a 1)) C S O rfl inX1_join_X1 1 (Nat.le_of_ble_eq_true rfl) lkX1_join_9 rfl dX1_join_58 ?_
          refine lv_iload C.1 C.2.1 dX1_join_61 (lv_at hl 0 rfl) ?_
          refine lv_iload_n C.1 C.2.1 dX1_join_63 rfl (lv_at hl 2 rfl) ?_
          refine o_nast C S O F 1 (Nat.le_of_ble_eq_true rfl) rfl z rfl (show z < 64 from by omega) (Nat.le_of_ble_eq_true rfl) ⟨by omega, by omega⟩ dX1_join_64 (fun f H locs S O F => ?_)
          refine q_iinc (d := 1) (lv' := [(5, .int (nI (z + 1))), (4, .int (nI (max ((N 1) x) ((N 1) y)))), (3, .int (nI (min ((N 1) x) ((N 1) y)))), (0, .ref h), (1, .int (nI x)), (2, .int (nI y))]) C dX1_join_65 hl (k := 0) rfl (by decide) (by decide) rfl (fun ls hl => ?_)
          refine lv_goto (tgt := 36) C.1 C.2.1 dX1_join_68 (by decide) ?_
          exact ih36 (z + 1) (va_up N2 1 (va_up (N2 1) z (min ((N 1) x) ((N 1) y)))) (by omega) (by omega) (by rw [up_s, jn_eq (by rw [← c54, hN2, jn_at]), ← hN2]) _ _ _ _ S O F (lv_sub hl [0, 1, 2, 3, 4, 5] rfl)
  exact lp36 (I 0 + 1) 0 N (by omega) (by omega) (jn_0 _ _ _).symm _ _ _ _ S O F (lv_sub hl [0, 1, 2, 3, 4, 5] rfl)
theorem inX1_addFree_X1 : ∀ w ∈ u_ws RX1 TX1 7, w ∈ wsX1_addFree := (fun _ h => (List.mem_cons_of_mem _ (List.mem_append_right _ h)))
theorem lkX1_addFree_32 : Cond.fieldLink RX1 32 (TX1 0).1 (TX1 0).2.1 (TX1 0).2.2.1 ∈ wsX1_addFree := List.mem_of_getElem? (i := 1) rfl
theorem lkX1_addFree_9 : Cond.fieldLink RX1 9 (TX1 1).1 (TX1 1).2.1 (TX1 1).2.2.1 ∈ wsX1_addFree := List.mem_of_getElem? (i := 2) rfl
theorem lkX1_addFree_15 : Cond.fieldLink RX1 15 (TX1 2).1 (TX1 2).2.1 (TX1 2).2.2.1 ∈ wsX1_addFree := List.mem_of_getElem? (i := 3) rfl
theorem lkX1_addFree_19 : Cond.fieldLink RX1 19 (TX1 3).1 (TX1 3).2.1 (TX1 3).2.2.1 ∈ wsX1_addFree := List.mem_of_getElem? (i := 4) rfl
theorem lkX1_addFree_23 : Cond.fieldLink RX1 23 (TX1 4).1 (TX1 4).2.1 (TX1 4).2.2.1 ∈ wsX1_addFree := List.mem_of_getElem? (i := 5) rfl
theorem lkX1_addFree_26 : Cond.fieldLink RX1 26 (TX1 5).1 (TX1 5).2.1 (TX1 5).2.2.1 ∈ wsX1_addFree := List.mem_of_getElem? (i := 6) rfl
theorem lkX1_addFree_29 : Cond.fieldLink RX1 29 (TX1 6).1 (TX1 6).2.1 (TX1 6).2.2.1 ∈ wsX1_addFree := List.mem_of_getElem? (i := 8) rfl
set_option maxHeartbeats 4000000 in
set_option maxRecDepth 100000 in
theorem c_addFree {l : Launch} {G : fw_G} {A : Nat → Prop} {f0 : fw_F} {b h : Nat} {a : Nat → Nat} {I : Nat → Nat} {N : Nat → Nat → Nat} {B : Nat → Nat → Bool} {J : Nat → Nat → Int64} (O : isO G dN f0 b h a I N B J) (hn : I 0 < 64)  : Met l yX1_addFree wsX1_addFree ({ frames := 0, cells := 0, slots := 0, locals := 0 }) (va_Pc [.ref h] (fw_P G A f0)) (va_Qi (fun (r : Int32) (f1 : fw_F) => r = nI (I 0) ∧ isO G dN f1 b h a (va_up I 0 (I 0 + 1)) (va_up N 1 (va_up (N 1) (I 0) (I 0))) (va_up (va_up B 2 (va_up (B 2) (I 0) false)) 4 (va_up (B 4) (I 0) false)) (va_up (va_up (va_up J 3 (va_up (J 3) (I 0) 0)) 5 (va_up (J 5) (I 0) (-9223372036854775808))) 6 (va_up (J 6) (I 0) 9223372036854775807)) ∧ fw_fr f0 f1 b (b + 8)) (fw_B G A) A) 0 0 A := by
  refine q_head rfl (by decide) (Nat.le_of_ble_eq_true rfl) ?_
  intro p e s m below meth c ls C hr hlk hnm P hl
  have S := P.start
  have hl : lv_has ls 2 [(0, .ref h)] := hl
  have F := fw_fr_rf f0 b (b + 8)
  refine lv_aload_n C.1 C.2.1 dX1_addFree_0 rfl (lv_at hl 0 rfl) ?_
  refine o_get (v := .int (nI (I 0))) C S O rfl inX1_addFree_X1 0 (Nat.le_of_ble_eq_true rfl) lkX1_addFree_32 rfl dX1_addFree_1 ?_
  refine lv_bipush (v := nI 64) C.1 C.2.1 dX1_addFree_4 (by decide) ?_
  refine q_lt (tgt := 11) C (by omega) (by decide) dX1_addFree_6 (by decide) (fun c6 => ?_) (fun c6 => ?_)
  · refine lv_aload_n C.1 C.2.1 dX1_addFree_11 rfl (lv_at hl 0 rfl) ?_
    refine o_get (v := .int (nI (I 0))) C S O rfl inX1_addFree_X1 0 (Nat.le_of_ble_eq_true rfl) lkX1_addFree_32 rfl dX1_addFree_12 ?_
    refine lv_istore_n (lv' := [(1, .int (nI (I 0))), (0, .ref h)]) C.1 C.2.1 dX1_addFree_15 rfl hl (by decide) rfl (fun ls hl => ?_)
    refine lv_aload_n C.1 C.2.1 dX1_addFree_16 rfl (lv_at hl 1 rfl) ?_
    refine o_get (v := .ref (a 1)) C S O rfl inX1_addFree_X1 1 (Nat.le_of_ble_eq_true rfl) lkX1_addFree_9 rfl dX1_addFree_17 ?_
    refine lv_iload_n C.1 C.2.1 dX1_addFree_20 rfl (lv_at hl 0 rfl) ?_
    refine lv_iload_n C.1 C.2.1 dX1_addFree_21 rfl (lv_at hl 0 rfl) ?_
    refine o_nast C S O F 1 (Nat.le_of_ble_eq_true rfl) rfl (I 0) rfl (show (I 0) < 64 from by first | omega | exact hL _ | exact hP _ | exact hF _) (Nat.le_of_ble_eq_true rfl) ⟨by omega, by omega⟩ dX1_addFree_22 (fun f H locs S O F => ?_)
    refine lv_aload_n C.1 C.2.1 dX1_addFree_23 rfl (lv_at hl 1 rfl) ?_
    refine o_get (v := .ref (a 2)) C S O rfl inX1_addFree_X1 2 (Nat.le_of_ble_eq_true rfl) lkX1_addFree_15 rfl dX1_addFree_24 ?_
    refine lv_iload_n C.1 C.2.1 dX1_addFree_27 rfl (lv_at hl 0 rfl) ?_
    refine lv_iconst (v := bI false) C.1 C.2.1 dX1_addFree_28 (by decide) ?_
    refine o_yast C S O F 2 (Nat.le_of_ble_eq_true rfl) rfl (I 0) rfl (show (I 0) < 64 from by first | omega | exact hL _ | exact hP _ | exact hF _) (Nat.le_of_ble_eq_true rfl) ⟨by omega, by omega⟩ dX1_addFree_29 (fun f H locs S O F => ?_)
    refine lv_aload_n C.1 C.2.1 dX1_addFree_30 rfl (lv_at hl 1 rfl) ?_
    refine o_get (v := .ref (a 3)) C S O rfl inX1_addFree_X1 3 (Nat.le_of_ble_eq_true rfl) lkX1_addFree_19 rfl dX1_addFree_31 ?_
    refine lv_iload_n C.1 C.2.1 dX1_addFree_34 rfl (lv_at hl 0 rfl) ?_
    refine lv_lconst (v := 0) C.1 C.2.1 dX1_addFree_35 (by decide) ?_
    refine o_last C S O F 3 (Nat.le_of_ble_eq_true rfl) rfl (I 0) rfl (show (I 0) < 64 from by first | omega | exact hL _ | exact hP _ | exact hF _) (Nat.le_of_ble_eq_true rfl) ⟨by omega, by omega⟩ dX1_addFree_36 (fun f H locs S O F => ?_)
    refine lv_aload_n C.1 C.2.1 dX1_addFree_37 rfl (lv_at hl 1 rfl) ?_
    refine o_get (v := .ref (a 4)) C S O rfl inX1_addFree_X1 4 (Nat.le_of_ble_eq_true rfl) lkX1_addFree_23 rfl dX1_addFree_38 ?_
    refine lv_iload_n C.1 C.2.1 dX1_addFree_41 rfl (lv_at hl 0 rfl) ?_
    refine lv_iconst (v := bI false) C.1 C.2.1 dX1_addFree_42 (by decide) ?_
    refine o_yast C S O F 4 (Nat.le_of_ble_eq_true rfl) rfl (I 0) rfl (show (I 0) < 64 from by first | omega | exact hL _ | exact hP _ | exact hF _) (Nat.le_of_ble_eq_true rfl) ⟨by omega, by omega⟩ dX1_addFree_43 (fun f H locs S O F => ?_)
    refine lv_aload_n C.1 C.2.1 dX1_addFree_44 rfl (lv_at hl 1 rfl) ?_
    refine o_get (v := .ref (a 5)) C S O rfl inX1_addFree_X1 5 (Nat.le_of_ble_eq_true rfl) lkX1_addFree_26 rfl dX1_addFree_45 ?_
    refine lv_iload_n C.1 C.2.1 dX1_addFree_48 rfl (lv_at hl 0 rfl) ?_
    refine lv_ldc2 (v := (-9223372036854775808)) C.1 C.2.1 C.2.2.2.1 (C.2.2.2.2 _ (List.mem_of_getElem? (i := 7) rfl)) dX1_addFree_49 ?_
    refine o_last C S O F 5 (Nat.le_of_ble_eq_true rfl) rfl (I 0) rfl (show (I 0) < 64 from by first | omega | exact hL _ | exact hP _ | exact hF _) (Nat.le_of_ble_eq_true rfl) ⟨by omega, by omega⟩ dX1_addFree_52 (fun f H locs S O F => ?_)
    refine lv_aload_n C.1 C.2.1 dX1_addFree_53 rfl (lv_at hl 1 rfl) ?_
    refine o_get (v := .ref (a 6)) C S O rfl inX1_addFree_X1 6 (Nat.le_of_ble_eq_true rfl) lkX1_addFree_29 rfl dX1_addFree_54 ?_
    refine lv_iload_n C.1 C.2.1 dX1_addFree_57 rfl (lv_at hl 0 rfl) ?_
    refine lv_ldc2 (v := 9223372036854775807) C.1 C.2.1 C.2.2.2.1 (C.2.2.2.2 _ (List.mem_of_getElem? (i := 9) rfl)) dX1_addFree_58 ?_
    refine o_last C S O F 6 (Nat.le_of_ble_eq_true rfl) rfl (I 0) rfl (show (I 0) < 64 from by first | omega | exact hL _ | exact hP _ | exact hF _) (Nat.le_of_ble_eq_true rfl) ⟨by omega, by omega⟩ dX1_addFree_61 (fun f H locs S O F => ?_)
    refine lv_aload_n C.1 C.2.1 dX1_addFree_62 rfl (lv_at hl 1 rfl) ?_
    refine lv_dup C.1 C.2.1 dX1_addFree_63 rfl ?_
    refine o_get (v := .int (nI (I 0))) C S O rfl inX1_addFree_X1 0 (Nat.le_of_ble_eq_true rfl) lkX1_addFree_32 rfl dX1_addFree_64 ?_
    refine lv_iconst (v := nI 1) C.1 C.2.1 dX1_addFree_67 (by decide) ?_
    refine q_iadd C dX1_addFree_68 ?_
    refine o_puti C S O F rfl inX1_addFree_X1 tyX1 tyX1_ok nmX1 0 (Nat.le_of_ble_eq_true rfl) rfl lkX1_addFree_32 rfl rfl ⟨by omega, by omega⟩ dX1_addFree_69 (fun f H locs S O F => ?_)
    refine lv_iload_n C.1 C.2.1 dX1_addFree_72 rfl (lv_at hl 0 rfl) ?_
    exact q_retQi C S hr hlk ⟨rfl, O, F⟩ dX1_addFree_73
  · exact absurd c6 (by omega)
theorem inX1_narrow_X1 : ∀ w ∈ u_ws RX1 TX1 7, w ∈ wsX1_narrow := (fun _ h => (List.mem_cons_of_mem _ (List.mem_append_right _ h)))
theorem lkX1_narrow_9 : Cond.fieldLink RX1 9 (TX1 1).1 (TX1 1).2.1 (TX1 1).2.2.1 ∈ wsX1_narrow := List.mem_of_getElem? (i := 8) rfl
theorem lkX1_narrow_23 : Cond.fieldLink RX1 23 (TX1 4).1 (TX1 4).2.1 (TX1 4).2.2.1 ∈ wsX1_narrow := List.mem_of_getElem? (i := 9) rfl
theorem lkX1_narrow_26 : Cond.fieldLink RX1 26 (TX1 5).1 (TX1 5).2.1 (TX1 5).2.2.1 ∈ wsX1_narrow := List.mem_of_getElem? (i := 10) rfl
theorem lkX1_narrow_29 : Cond.fieldLink RX1 29 (TX1 6).1 (TX1 6).2.1 (TX1 6).2.2.1 ∈ wsX1_narrow := List.mem_of_getElem? (i := 11) rfl
set_option maxHeartbeats 4000000 in
set_option maxRecDepth 100000 in
theorem c_narrow {l : Launch} {G : fw_G} {A : Nat → Prop} {f0 : fw_F} {b h : Nat} {a : Nat → Nat} {I : Nat → Nat} {N : Nat → Nat → Nat} {B : Nat → Nat → Bool} {J : Nat → Nat → Int64} (O : isO G dN f0 b h a I N B J) (x : Nat) (hx : x < 64) (hL : ∀ i, N 1 i < 64) (lo hi : Int64)  : Met l yX1_narrow wsX1_narrow ({ frames := 1, cells := 0, slots := 0, locals := 23 }) (va_Pc [.ref h, .int (nI x), .long lo, .long hi] (fw_P G A f0)) (va_Qi (fun (r : Int32) (f1 : fw_F) => r = bI (nrOk B J (N 1 x) lo hi) ∧ isO G dN f1 b h a I N (nrB B J (N 1 x) lo hi) (nrJ B J (N 1 x) lo hi) ∧ fw_fr f0 f1 b (b + 8)) (fw_B G A) A) 0 0 A := by
  refine q_head rfl (by decide) (Nat.le_of_ble_eq_true rfl) ?_
  intro p e s m below meth c ls C hr hlk hnm P hl
  have S := P.start
  have hl : lv_has ls 11 [(0, .ref h), (1, .int (nI x)), (2, .long lo), (4, .long hi)] := hl
  have F := fw_fr_rf f0 b (b + 8)
  refine lv_lload C.1 C.2.1 dX1_narrow_0 (lv_at hl 3 rfl) ?_
  refine lv_lload_n C.1 C.2.1 dX1_narrow_2 rfl (lv_at hl 2 rfl) ?_
  refine q_lcmp_ge (tgt := 9) C dX1_narrow_3 dX1_narrow_4 (by decide) (fun c3 => ?_) (fun c3 => ?_)
  · refine lv_aload_n C.1 C.2.1 dX1_narrow_9 rfl (lv_at hl 0 rfl) ?_
    refine lv_iload_n C.1 C.2.1 dX1_narrow_10 rfl (lv_at hl 1 rfl) ?_
    refine q_callSi (As := [.int (nI x)]) (rest := []) C S hl O.1 rfl (c_isKnown O x (by first | omega | exact hL _ | exact hP _ | exact hF _) hL) (cwV 1 C.2.2.2.2 gX1_narrow_X1_isKnown rfl rfl rfl (by decide +kernel) ⟨Nat.le_of_ble_eq_true rfl, Nat.le_of_ble_eq_true rfl⟩) rfl rfl (Nat.le_of_ble_eq_true rfl) ⟨Nat.le_of_ble_eq_true rfl, Nat.le_of_ble_eq_true rfl⟩ dX1_narrow_11 (fun v hv => ?_)
    subst hv
    refine q_ifeqB (tgt := 44) C dX1_narrow_14 (by decide) (fun c14 => ?_) (fun c14 => ?_)
    · refine lv_lload_n C.1 C.2.1 dX1_narrow_44 rfl (lv_at hl 2 rfl) ?_
      refine lv_aload_n C.1 C.2.1 dX1_narrow_45 rfl (lv_at hl 0 rfl) ?_
      refine lv_iload_n C.1 C.2.1 dX1_narrow_46 rfl (lv_at hl 1 rfl) ?_
      refine q_callSl (As := [.int (nI x)]) (rest := [.long lo]) C S hl O.1 rfl (c_lowOf O x (by first | omega | exact hL _ | exact hP _ | exact hF _) hL) (cwV 1 C.2.2.2.2 gX1_narrow_X1_lowOf rfl rfl rfl (by decide +kernel) ⟨Nat.le_of_ble_eq_true rfl, Nat.le_of_ble_eq_true rfl⟩) rfl rfl (Nat.le_of_ble_eq_true rfl) ⟨Nat.le_of_ble_eq_true rfl, Nat.le_of_ble_eq_true rfl⟩ dX1_narrow_47 (fun v hv => ?_)
      subst hv
      refine va_mmax_long C.1 C.2.1 (C.2.2.1.trans hl.1.symm) C.2.2.2.1 (C.2.2.2.2 _ (List.mem_of_getElem? (i := 1) rfl)) (C.2.2.2.2 _ (List.mem_of_getElem? (i := 2) rfl)) (C.2.2.2.2 _ (List.mem_of_getElem? (i := 3) rfl)) (C.2.2.2.2 _ (List.mem_of_getElem? (i := 4) rfl)) (Nat.le_of_ble_eq_true rfl) (Nat.le_of_ble_eq_true rfl) (Nat.le_of_ble_eq_true rfl) (Nat.le_of_ble_eq_true rfl) dX1_narrow_50 ?_
      refine lv_lstore (lv' := [(6, .long (lmax lo (J 5 (N 1 x)))), (0, .ref h), (1, .int (nI x)), (2, .long lo), (4, .long hi)]) C.1 C.2.1 dX1_narrow_53 hl (by decide) rfl (fun ls hl => ?_)
      refine lv_lload C.1 C.2.1 dX1_narrow_55 (lv_at hl 4 rfl) ?_
      refine lv_aload_n C.1 C.2.1 dX1_narrow_57 rfl (lv_at hl 1 rfl) ?_
      refine lv_iload_n C.1 C.2.1 dX1_narrow_58 rfl (lv_at hl 2 rfl) ?_
      refine q_callSl (As := [.int (nI x)]) (rest := [.long hi]) C S hl O.1 rfl (c_highOf O x (by first | omega | exact hL _ | exact hP _ | exact hF _) hL) (cwV 1 C.2.2.2.2 gX1_narrow_X1_highOf rfl rfl rfl (by decide +kernel) ⟨Nat.le_of_ble_eq_true rfl, Nat.le_of_ble_eq_true rfl⟩) rfl rfl (Nat.le_of_ble_eq_true rfl) ⟨Nat.le_of_ble_eq_true rfl, Nat.le_of_ble_eq_true rfl⟩ dX1_narrow_59 (fun v hv => ?_)
      subst hv
      refine va_mmin_long C.1 C.2.1 (C.2.2.1.trans hl.1.symm) C.2.2.2.1 (C.2.2.2.2 _ (List.mem_of_getElem? (i := 5) rfl)) (C.2.2.2.2 _ (List.mem_of_getElem? (i := 6) rfl)) (C.2.2.2.2 _ (List.mem_of_getElem? (i := 3) rfl)) (C.2.2.2.2 _ (List.mem_of_getElem? (i := 7) rfl)) (Nat.le_of_ble_eq_true rfl) (Nat.le_of_ble_eq_true rfl) (Nat.le_of_ble_eq_true rfl) (Nat.le_of_ble_eq_true rfl) dX1_narrow_62 ?_
      refine lv_lstore (lv' := [(8, .long (lmin hi (J 6 (N 1 x)))), (6, .long (lmax lo (J 5 (N 1 x)))), (0, .ref h), (1, .int (nI x)), (2, .long lo), (4, .long hi)]) C.1 C.2.1 dX1_narrow_65 hl (by decide) rfl (fun ls hl => ?_)
      refine lv_lload C.1 C.2.1 dX1_narrow_67 (lv_at hl 0 rfl) ?_
      refine lv_lload C.1 C.2.1 dX1_narrow_69 (lv_at hl 1 rfl) ?_
      refine q_lcmp_ge (tgt := 77) C dX1_narrow_71 dX1_narrow_72 (by decide) (fun c71 => ?_) (fun c71 => ?_)
      · refine lv_aload_n C.1 C.2.1 dX1_narrow_77 rfl (lv_at hl 2 rfl) ?_
        refine o_get (v := .ref (a 1)) C S O rfl inX1_narrow_X1 1 (Nat.le_of_ble_eq_true rfl) lkX1_narrow_9 rfl dX1_narrow_78 ?_
        refine lv_iload_n C.1 C.2.1 dX1_narrow_81 rfl (lv_at hl 3 rfl) ?_
        refine o_nald (x := (N 1) x) C S O 1 (Nat.le_of_ble_eq_true rfl) rfl x rfl (show x < 64 from by first | omega | exact hL _ | exact hP _ | exact hF _) (Nat.le_of_ble_eq_true rfl) rfl dX1_narrow_82 ?_
        refine lv_istore (lv' := [(10, .int (nI ((N 1) x))), (8, .long (lmin hi (J 6 (N 1 x)))), (6, .long (lmax lo (J 5 (N 1 x)))), (0, .ref h), (1, .int (nI x)), (2, .long lo), (4, .long hi)]) C.1 C.2.1 dX1_narrow_83 hl (by decide) rfl (fun ls hl => ?_)
        refine lv_aload_n C.1 C.2.1 dX1_narrow_85 rfl (lv_at hl 3 rfl) ?_
        refine o_get (v := .ref (a 4)) C S O rfl inX1_narrow_X1 4 (Nat.le_of_ble_eq_true rfl) lkX1_narrow_23 rfl dX1_narrow_86 ?_
        refine lv_iload C.1 C.2.1 dX1_narrow_89 (lv_at hl 0 rfl) ?_
        refine lv_iconst (v := bI true) C.1 C.2.1 dX1_narrow_91 (by decide) ?_
        refine o_yast C S O F 4 (Nat.le_of_ble_eq_true rfl) rfl ((N 1) x) rfl (show (N 1) x < 64 from by first | omega | exact hL _ | exact hP _ | exact hF _) (Nat.le_of_ble_eq_true rfl) ⟨by omega, by omega⟩ dX1_narrow_92 (fun f H locs S O F => ?_)
        refine lv_aload_n C.1 C.2.1 dX1_narrow_93 rfl (lv_at hl 3 rfl) ?_
        refine o_get (v := .ref (a 5)) C S O rfl inX1_narrow_X1 5 (Nat.le_of_ble_eq_true rfl) lkX1_narrow_26 rfl dX1_narrow_94 ?_
        refine lv_iload C.1 C.2.1 dX1_narrow_97 (lv_at hl 0 rfl) ?_
        refine lv_lload C.1 C.2.1 dX1_narrow_99 (lv_at hl 2 rfl) ?_
        refine o_last C S O F 5 (Nat.le_of_ble_eq_true rfl) rfl ((N 1) x) rfl (show (N 1) x < 64 from by first | omega | exact hL _ | exact hP _ | exact hF _) (Nat.le_of_ble_eq_true rfl) ⟨by omega, by omega⟩ dX1_narrow_101 (fun f H locs S O F => ?_)
        refine lv_aload_n C.1 C.2.1 dX1_narrow_102 rfl (lv_at hl 3 rfl) ?_
        refine o_get (v := .ref (a 6)) C S O rfl inX1_narrow_X1 6 (Nat.le_of_ble_eq_true rfl) lkX1_narrow_29 rfl dX1_narrow_103 ?_
        refine lv_iload C.1 C.2.1 dX1_narrow_106 (lv_at hl 0 rfl) ?_
        refine lv_lload C.1 C.2.1 dX1_narrow_108 (lv_at hl 1 rfl) ?_
        refine o_last C S O F 6 (Nat.le_of_ble_eq_true rfl) rfl ((N 1) x) rfl (show (N 1) x < 64 from by first | omega | exact hL _ | exact hP _ | exact hF _) (Nat.le_of_ble_eq_true rfl) ⟨by omega, by omega⟩ dX1_narrow_110 (fun f H locs S O F => ?_)
        refine lv_iconst (v := nI 1) C.1 C.2.1 dX1_narrow_111 (by decide) ?_
        exact q_retQz (b := true) C S hr hlk rfl ⟨by rw [nrOk_y c3 c14 c71], by rw [nrB_y c14 (nrOk_y c3 c14 c71), nrJ_y c14 (nrOk_y c3 c14 c71)]; exact O, F⟩ dX1_narrow_112
      · refine lv_iconst (v := nI 0) C.1 C.2.1 dX1_narrow_75 (by decide) ?_
        exact q_retQz (b := false) C S hr hlk rfl ⟨by rw [nrOk_n c14 c71], by rw [nrB_f (nrOk_n c14 c71), nrJ_f (nrOk_n c14 c71)]; exact O, F⟩ dX1_narrow_76
    · refine lv_lload_n C.1 C.2.1 dX1_narrow_17 rfl (lv_at hl 2 rfl) ?_
      refine lv_aload_n C.1 C.2.1 dX1_narrow_18 rfl (lv_at hl 0 rfl) ?_
      refine lv_iload_n C.1 C.2.1 dX1_narrow_19 rfl (lv_at hl 1 rfl) ?_
      refine q_callSl (As := [.int (nI x)]) (rest := [.long lo]) C S hl O.1 rfl (c_numberOf O x (by first | omega | exact hL _ | exact hP _ | exact hF _) hL) (cwV 1 C.2.2.2.2 gX1_narrow_X1_numberOf rfl rfl rfl (by decide +kernel) ⟨Nat.le_of_ble_eq_true rfl, Nat.le_of_ble_eq_true rfl⟩) rfl rfl (Nat.le_of_ble_eq_true rfl) ⟨Nat.le_of_ble_eq_true rfl, Nat.le_of_ble_eq_true rfl⟩ dX1_narrow_20 (fun v hv => ?_)
      subst hv
      refine q_lcmp_gt (tgt := 42) C dX1_narrow_23 dX1_narrow_24 (by decide) (fun c23 => ?_) (fun c23 => ?_)
      · refine lv_iconst (v := nI 0) C.1 C.2.1 dX1_narrow_42 (by decide) ?_
        exact q_retQz (b := false) C S hr hlk rfl ⟨by rw [nrOk_k1 c14 c23], by rw [nrB_f (nrOk_k1 c14 c23), nrJ_f (nrOk_k1 c14 c23)]; exact O, F⟩ dX1_narrow_43
      · refine lv_aload_n C.1 C.2.1 dX1_narrow_27 rfl (lv_at hl 0 rfl) ?_
        refine lv_iload_n C.1 C.2.1 dX1_narrow_28 rfl (lv_at hl 1 rfl) ?_
        refine q_callSl (As := [.int (nI x)]) (rest := []) C S hl O.1 rfl (c_numberOf O x (by first | omega | exact hL _ | exact hP _ | exact hF _) hL) (cwV 1 C.2.2.2.2 gX1_narrow_X1_numberOf rfl rfl rfl (by decide +kernel) ⟨Nat.le_of_ble_eq_true rfl, Nat.le_of_ble_eq_true rfl⟩) rfl rfl (Nat.le_of_ble_eq_true rfl) ⟨Nat.le_of_ble_eq_true rfl, Nat.le_of_ble_eq_true rfl⟩ dX1_narrow_29 (fun v hv => ?_)
        subst hv
        refine lv_lload C.1 C.2.1 dX1_narrow_32 (lv_at hl 3 rfl) ?_
        refine q_lcmp_gt (tgt := 42) C dX1_narrow_34 dX1_narrow_35 (by decide) (fun c34 => ?_) (fun c34 => ?_)
        · refine lv_iconst (v := nI 0) C.1 C.2.1 dX1_narrow_42 (by decide) ?_
          exact q_retQz (b := false) C S hr hlk rfl ⟨by rw [nrOk_k2 c14 c34], by rw [nrB_f (nrOk_k2 c14 c34), nrJ_f (nrOk_k2 c14 c34)]; exact O, F⟩ dX1_narrow_43
        · refine lv_iconst (v := nI 1) C.1 C.2.1 dX1_narrow_38 (by decide) ?_
          refine lv_goto (tgt := 43) C.1 C.2.1 dX1_narrow_39 (by decide) ?_
          exact q_retQz (b := true) C S hr hlk rfl ⟨by rw [nrOk_k c3 c14 c23 c34], by rw [nrB_k c14, nrJ_k c14]; exact O, F⟩ dX1_narrow_43
  · refine lv_iconst (v := nI 0) C.1 C.2.1 dX1_narrow_7 (by decide) ?_
    exact q_retQz (b := false) C S hr hlk rfl ⟨by rw [nrOk_b c3], by rw [nrB_f (nrOk_b c3), nrJ_f (nrOk_b c3)]; exact O, F⟩ dX1_narrow_8
