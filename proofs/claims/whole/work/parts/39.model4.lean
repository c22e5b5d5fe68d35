theorem anyb_s (P : Nat → Bool) (n : Nat) : anyb P (n + 1) = (anyb P n || P n) := rfl
theorem inX5_about_X5 : ∀ w ∈ u_ws RX5 TX5 34, w ∈ wsX5_about := (fun _ h => (List.mem_cons_of_mem _ (List.mem_append_right _ h)))
theorem lkX5_about_59 : Cond.fieldLink RX5 59 (TX5 21).1 (TX5 21).2.1 (TX5 21).2.2.1 ∈ wsX5_about := List.mem_of_getElem? (i := 1) rfl
theorem lkX5_about_56 : Cond.fieldLink RX5 56 (TX5 20).1 (TX5 20).2.1 (TX5 20).2.2.1 ∈ wsX5_about := List.mem_of_getElem? (i := 2) rfl
theorem lkX5_about_63 : Cond.fieldLink RX5 63 (TX5 22).1 (TX5 22).2.1 (TX5 22).2.2.1 ∈ wsX5_about := List.mem_of_getElem? (i := 3) rfl
theorem lkX5_about_87 : Cond.fieldLink RX5 87 (TX5 0).1 (TX5 0).2.1 (TX5 0).2.2.1 ∈ wsX5_about := List.mem_of_getElem? (i := 4) rfl
theorem lkX5_about_108 : Cond.fieldLink RX5 108 (TX5 15).1 (TX5 15).2.1 (TX5 15).2.2.1 ∈ wsX5_about := List.mem_of_getElem? (i := 5) rfl
theorem lkX5_about_35 : Cond.fieldLink RX5 35 (TX5 11).1 (TX5 11).2.1 (TX5 11).2.2.1 ∈ wsX5_about := List.mem_of_getElem? (i := 6) rfl
theorem lkX5_about_38 : Cond.fieldLink RX5 38 (TX5 12).1 (TX5 12).2.1 (TX5 12).2.2.1 ∈ wsX5_about := List.mem_of_getElem? (i := 7) rfl
theorem lkX5_about_146 : Cond.fieldLink RX5 146 (TX5 29).1 (TX5 29).2.1 (TX5 29).2.2.1 ∈ wsX5_about := List.mem_of_getElem? (i := 8) rfl
theorem lkX5_about_139 : Cond.fieldLink RX5 139 (TX5 32).1 (TX5 32).2.1 (TX5 32).2.2.1 ∈ wsX5_about := List.mem_of_getElem? (i := 9) rfl
theorem lkX5_about_81 : Cond.fieldLink RX5 81 (TX5 28).1 (TX5 28).2.1 (TX5 28).2.2.1 ∈ wsX5_about := List.mem_of_getElem? (i := 10) rfl
set_option maxHeartbeats 4000000 in
set_option maxRecDepth 100000 in
theorem m_about {l : Launch} {G : fw_G} {A : Nat → Prop} {f0 : fw_F} {h : Nat} {a : Nat → Nat} {I : Nat → Nat} {N : Nat → Nat → Nat} {B : Nat → Nat → Bool} {J : Nat → Nat → Int64} (O : isO G dM f0 2000 h a I N B J) (x y : Int32) (hM : mOK I N) (h29 : I 29 ≤ 8)  : Met l yX5_about wsX5_about ({ frames := 1, cells := 0, slots := 0, locals := 21 }) (va_Pc [.ref h, .int x, .int y] (fw_P G A f0)) (vp_Si (fun (r : Int32) => ix x (I 0) = false ∧ r = -1 ∨ ∃ k, k < I 0 ∧ x = nI k ∧ r = abV y (if B 21 (N 20 k) = true then 2 else if B 22 (N 20 k) = true then 1 else 0) (N 20 k) (cnt (fun j => decide (N 20 j = N 20 k)) (I 0)) (cnt (fun i => anyb (fun j => decide (N 20 (N 12 (32 * i + j)) = N 20 k)) (N 11 i)) (I 15)) (if (B 32 0 && anyb (fun j => decide (N 28 j = N 20 k)) (I 29)) = true then 1 else 0))) 0 0 (fun _ => False) := by
  refine q_head rfl (by decide) (Nat.le_of_ble_eq_true rfl) ?_
  intro p e s m below meth c ls C hr hlk hnm P hl
  have S := P.start
  have hl : lv_has ls 7 [(0, .ref h), (1, .int x), (2, .int y)] := hl
  have hM0 := hM
  obtain ⟨⟨hm0, hm6, hm9, hm15, hm19⟩, ⟨hs1, hs2, hs3⟩, ⟨hP7, hk10, hk11, hk12⟩, hL, hF⟩ := hM
  refine lv_aload_n C.1 C.2.1 dX5_about_0 rfl (lv_at hl 0 rfl) ?_
  refine lv_iload_n C.1 C.2.1 dX5_about_1 rfl (lv_at hl 1 rfl) ?_
  refine q_callSi (As := [.int x]) (rest := []) C S hl O.1 rfl (m_isName O x) (cwV 1 C.2.2.2.2 gX5_about_X5_isName rfl rfl rfl (by decide +kernel) ⟨Nat.le_of_ble_eq_true rfl, Nat.le_of_ble_eq_true rfl⟩) rfl rfl (Nat.le_of_ble_eq_true rfl) ⟨Nat.le_of_ble_eq_true rfl, Nat.le_of_ble_eq_true rfl⟩ dX5_about_2 (fun v hv => ?_)
  subst hv
  refine q_ifneB (tgt := 10) C dX5_about_5 (by decide) (fun c5 => ?_) (fun c5 => ?_)
  · obtain ⟨k0, hk0, rfl⟩ := ix_t (by omega) c5
    refine lv_iconst (v := nI 0) C.1 C.2.1 dX5_about_10 (by decide) ?_
    refine lv_istore_n (lv' := [(3, .int (nI 0)), (0, .ref h), (1, .int (nI k0)), (2, .int y)]) C.1 C.2.1 dX5_about_11 rfl hl (by decide) rfl (fun ls hl => ?_)
    refine lv_iload_n C.1 C.2.1 dX5_about_12 rfl (lv_at hl 3 rfl) ?_
    by_cases w0 : y = nI 0
    · refine lv_tableIn (off := 35) (tgt := 48) C.1 C.2.1 dX5_about_13 (by rw [w0]; decide) (by rw [w0]; decide) (by rw [w0]; decide) (by decide) ?_
      refine lv_aload_n C.1 C.2.1 dX5_about_48 rfl (lv_at hl 1 rfl) ?_
      refine o_get (v := .ref (a 21)) C S O rfl inX5_about_X5 21 (Nat.le_of_ble_eq_true rfl) lkX5_about_59 rfl dX5_about_49 ?_
      refine lv_aload_n C.1 C.2.1 dX5_about_52 rfl (lv_at hl 1 rfl) ?_
      refine o_get (v := .ref (a 20)) C S O rfl inX5_about_X5 20 (Nat.le_of_ble_eq_true rfl) lkX5_about_56 rfl dX5_about_53 ?_
      refine lv_iload_n C.1 C.2.1 dX5_about_56 rfl (lv_at hl 2 rfl) ?_
      refine o_nald (x := (N 20) k0) C S O 20 (Nat.le_of_ble_eq_true rfl) rfl k0 rfl (show k0 < 64 from by first | omega | exact hL _ | exact hP _ | exact hF _) (Nat.le_of_ble_eq_true rfl) rfl dX5_about_57 ?_
      refine o_yald (x := (B 21) ((N 20) k0)) C S O 21 (Nat.le_of_ble_eq_true rfl) rfl ((N 20) k0) rfl (show (N 20) k0 < 64 from by first | omega | exact hL _ | exact hP _ | exact hF _) (Nat.le_of_ble_eq_true rfl) rfl dX5_about_58 ?_
      refine q_ifeqB (tgt := 66) C dX5_about_59 (by decide) (fun c59 => ?_) (fun c59 => ?_)
      · refine lv_aload_n C.1 C.2.1 dX5_about_66 rfl (lv_at hl 1 rfl) ?_
        refine o_get (v := .ref (a 22)) C S O rfl inX5_about_X5 22 (Nat.le_of_ble_eq_true rfl) lkX5_about_63 rfl dX5_about_67 ?_
        refine lv_aload_n C.1 C.2.1 dX5_about_70 rfl (lv_at hl 1 rfl) ?_
        refine o_get (v := .ref (a 20)) C S O rfl inX5_about_X5 20 (Nat.le_of_ble_eq_true rfl) lkX5_about_56 rfl dX5_about_71 ?_
        refine lv_iload_n C.1 C.2.1 dX5_about_74 rfl (lv_at hl 2 rfl) ?_
        refine o_nald (x := (N 20) k0) C S O 20 (Nat.le_of_ble_eq_true rfl) rfl k0 rfl (show k0 < 64 from by first | omega | exact hL _ | exact hP _ | exact hF _) (Nat.le_of_ble_eq_true rfl) rfl dX5_about_75 ?_
        refine o_yald (x := (B 22) ((N 20) k0)) C S O 22 (Nat.le_of_ble_eq_true rfl) rfl ((N 20) k0) rfl (show (N 20) k0 < 64 from by first | omega | exact hL _ | exact hP _ | exact hF _) (Nat.le_of_ble_eq_true rfl) rfl dX5_about_76 ?_
        refine q_ifeqB (tgt := 84) C dX5_about_77 (by decide) (fun c77 => ?_) (fun c77 => ?_)
        · refine lv_iconst (v := nI 0) C.1 C.2.1 dX5_about_84 (by decide) ?_
          exact q_retSi C hr hlk (Or.inr ⟨k0, hk0, rfl, by rw [abV, if_pos w0, if_neg (by rw [c59]; decide), if_neg (by rw [c77]; decide)]⟩) dX5_about_85
        · refine lv_iconst (v := nI 1) C.1 C.2.1 dX5_about_80 (by decide) ?_
          refine lv_goto (tgt := 85) C.1 C.2.1 dX5_about_81 (by decide) ?_
          exact q_retSi C hr hlk (Or.inr ⟨k0, hk0, rfl, by rw [abV, if_pos w0, if_neg (by rw [c59]; decide), if_pos c77]⟩) dX5_about_85
      · refine lv_iconst (v := nI 2) C.1 C.2.1 dX5_about_62 (by decide) ?_
        refine lv_goto (tgt := 85) C.1 C.2.1 dX5_about_63 (by decide) ?_
        exact q_retSi C hr hlk (Or.inr ⟨k0, hk0, rfl, by rw [abV, if_pos w0, if_pos c59]⟩) dX5_about_85
    by_cases w1 : y = nI 1
    · refine lv_tableIn (off := 73) (tgt := 86) C.1 C.2.1 dX5_about_13 (by rw [w1]; decide) (by rw [w1]; decide) (by rw [w1]; decide) (by decide) ?_
      refine lv_aload_n C.1 C.2.1 dX5_about_86 rfl (lv_at hl 1 rfl) ?_
      refine o_get (v := .ref (a 20)) C S O rfl inX5_about_X5 20 (Nat.le_of_ble_eq_true rfl) lkX5_about_56 rfl dX5_about_87 ?_
      refine lv_iload_n C.1 C.2.1 dX5_about_90 rfl (lv_at hl 2 rfl) ?_
      refine o_nald (x := (N 20) k0) C S O 20 (Nat.le_of_ble_eq_true rfl) rfl k0 rfl (show k0 < 64 from by first | omega | exact hL _ | exact hP _ | exact hF _) (Nat.le_of_ble_eq_true rfl) rfl dX5_about_91 ?_
      exact q_retSi C hr hlk (Or.inr ⟨k0, hk0, rfl, by rw [abV, if_neg w0, if_pos w1]⟩) dX5_about_92
    by_cases w2 : y = nI 2
    · refine lv_tableIn (off := 80) (tgt := 93) C.1 C.2.1 dX5_about_13 (by rw [w2]; decide) (by rw [w2]; decide) (by rw [w2]; decide) (by decide) ?_
      refine lv_iconst (v := nI 0) C.1 C.2.1 dX5_about_93 (by decide) ?_
      refine lv_istore (lv' := [(4, .int (nI 0)), (3, .int (nI 0)), (0, .ref h), (1, .int (nI k0)), (2, .int y)]) C.1 C.2.1 dX5_about_94 hl (by decide) rfl (fun ls hl => ?_)
      have lp96 : ∀ (n96 : Nat) (z : Nat) (q : Nat), I 0 - z < n96 → (z ≤ I 0) → (q = cnt (fun j => decide (N 20 j = N 20 k0)) z) → ∀ (ls : Array Slot), lv_has ls 7 [(4, .int (nI z)), (3, .int (nI q)), (0, .ref h), (1, .int (nI k0)), (2, .int y)] → W p l e ({ frames := 1, cells := 0, slots := 0, locals := 21 }) s m [.ref h, .int (nI k0), .int y].toArray below meth c s.heap [] 0 0 (MQ below (vp_Si (fun (r : Int32) => ix (nI k0) (I 0) = false ∧ r = -1 ∨ ∃ k, k < I 0 ∧ (nI k0) = nI k ∧ r = abV y (if B 21 (N 20 k) = true then 2 else if B 22 (N 20 k) = true then 1 else 0) (N 20 k) (cnt (fun j => decide (N 20 j = N 20 k)) (I 0)) (cnt (fun i => anyb (fun j => decide (N 20 (N 12 (32 * i + j)) = N 20 k)) (N 11 i)) (I 15)) (if (B 32 0 && anyb (fun j => decide (N 28 j = N 20 k)) (I 29)) = true then 1 else 0))) [.ref h, .int (nI k0), .int y].toArray s 0 0 (fun _ => False)) (F0 m 96 ls []) := by
        intro n96
        induction n96 with
        | zero => intro z q hme96; exact absurd hme96 (Nat.not_lt_zero _)
        | succ n96 ih96 =>
          intro z q hme96 hz hq ls hl
          refine lv_iload C.1 C.2.1 dX5_about_96 (lv_at hl 0 rfl) ?_
          refine lv_aload_n C.1 C.2.1 dX5_about_98 rfl (lv_at hl 2 rfl) ?_
          refine o_get (v := .int (nI (I 0))) C S O rfl inX5_about_X5 0 (Nat.le_of_ble_eq_true rfl) lkX5_about_87 rfl dX5_about_99 ?_
          refine q_ge (tgt := 135) C (by omega) (by omega) dX5_about_102 (by decide) (fun c102 => ?_) (fun c102 => ?_)
          · refine lv_iload_n C.1 C.2.1 dX5_about_135 rfl (lv_at hl 1 rfl) ?_
            exact q_retSi C hr hlk (Or.inr ⟨k0, hk0, rfl, by rw [abV, if_neg w0, if_neg w1, if_pos w2, hq, show z = I 0 by omega]⟩) dX5_about_136
          · refine lv_iload_n C.1 C.2.1 dX5_about_105 rfl (lv_at hl 1 rfl) ?_
            refine lv_aload_n C.1 C.2.1 dX5_about_106 rfl (lv_at hl 2 rfl) ?_
            refine o_get (v := .ref (a 20)) C S O rfl inX5_about_X5 20 (Nat.le_of_ble_eq_true rfl) lkX5_about_56 rfl dX5_about_107 ?_
            refine lv_iload C.1 C.2.1 dX5_about_110 (lv_at hl 0 rfl) ?_
            refine o_nald (x := (N 20) z) C S O 20 (Nat.le_of_ble_eq_true rfl) rfl z rfl (show z < 64 from by first | omega | exact hL _ | exact hP _ | exact hF _) (Nat.le_of_ble_eq_true rfl) rfl dX5_about_112 ?_
            refine lv_aload_n C.1 C.2.1 dX5_about_113 rfl (lv_at hl 2 rfl) ?_
            refine o_get (v := .ref (a 20)) C S O rfl inX5_about_X5 20 (Nat.le_of_ble_eq_true rfl) lkX5_about_56 rfl dX5_about_114 ?_
            refine lv_iload_n C.1 C.2.1 dX5_about_117 rfl (lv_at hl 3 rfl) ?_
            refine o_nald (x := (N 20) k0) C S O 20 (Nat.le_of_ble_eq_true rfl) rfl k0 rfl (show k0 < 64 from by first | omega | exact hL _ | exact hP _ | exact hF _) (Nat.le_of_ble_eq_true rfl) rfl dX5_about_118 ?_
            refine q_nee (tgt := 126) C (Nat.lt_trans (hL _) (by decide)) (Nat.lt_trans (hL _) (by decide)) dX5_about_119 (by decide) (fun c119 => ?_) (fun c119 => ?_)
            · refine lv_iconst (v := nI 0) C.1 C.2.1 dX5_about_126 (by decide) ?_
              refine q_iadd C dX5_about_127 ?_
              refine lv_istore_n (lv' := [(3, .int (nI (q + 0))), (4, .int (nI z)), (0, .ref h), (1, .int (nI k0)), (2, .int y)]) C.1 C.2.1 dX5_about_128 rfl hl (by decide) rfl (fun ls hl => ?_)
              refine q_iinc (d := 1) (lv' := [(4, .int (nI (z + 1))), (3, .int (nI (q + 0))), (0, .ref h), (1, .int (nI k0)), (2, .int y)]) C dX5_about_129 hl (k := 1) rfl (by decide) (by decide) rfl (fun ls hl => ?_)
              refine lv_goto (tgt := 96) C.1 C.2.1 dX5_about_132 (by decide) ?_
              exact ih96 (z + 1) (q + 0) (by omega) (by omega) (by rw [Nat.add_zero, hq, cnt_f (by exact decide_eq_false c119)]) _ (lv_sub hl [0, 1, 2, 3, 4] rfl)
            · refine lv_iconst (v := nI 1) C.1 C.2.1 dX5_about_122 (by decide) ?_
              refine lv_goto (tgt := 127) C.1 C.2.1 dX5_about_123 (by decide) ?_
              refine q_iadd C dX5_about_127 ?_
              refine lv_istore_n (lv' := [(3, .int (nI (q + 1))), (4, .int (nI z)), (0, .ref h), (1, .int (nI k0)), (2, .int y)]) C.1 C.2.1 dX5_about_128 rfl hl (by decide) rfl (fun ls hl => ?_)
              refine q_iinc (d := 1) (lv' := [(4, .int (nI (z + 1))), (3, .int (nI (q + 1))), (0, .ref h), (1, .int (nI k0)), (2, .int y)]) C dX5_about_129 hl (k := 1) rfl (by decide) (by decide) rfl (fun ls hl => ?_)
              refine lv_goto (tgt := 96) C.1 C.2.1 dX5_about_132 (by decide) ?_
              exact ih96 (z + 1) (q + 1) (by omega) (by omega) (by rw [hq, cnt_t (by exact decide_eq_true c119)]) _ (lv_sub hl [0, 1, 2, 3, 4] rfl)
      exact lp96 (I 0 + 1) 0 0 (by omega) (by omega) rfl _ (lv_sub hl [0, 1, 2, 3, 4] rfl)
    by_cases w3 : y = nI 3
    · refine lv_tableIn (off := 124) (tgt := 137) C.1 C.2.1 dX5_about_13 (by rw [w3]; decide) (by rw [w3]; decide) (by rw [w3]; decide) (by decide) ?_
      refine lv_iconst (v := nI 0) C.1 C.2.1 dX5_about_137 (by decide) ?_
      refine lv_istore (lv' := [(4, .int (nI 0)), (3, .int (nI 0)), (0, .ref h), (1, .int (nI k0)), (2, .int y)]) C.1 C.2.1 dX5_about_138 hl (by decide) rfl (fun ls hl => ?_)
      have lp140 : ∀ (n140 : Nat) (z : Nat) (q : Nat), I 15 - z < n140 → (z ≤ I 15) → (q = cnt (fun i => anyb (fun j => decide (N 20 (N 12 (32 * i + j)) = N 20 k0)) (N 11 i)) z) → ∀ (ls : Array Slot), lv_has ls 7 [(4, .int (nI z)), (3, .int (nI q)), (0, .ref h), (1, .int (nI k0)), (2, .int y)] → W p l e ({ frames := 1, cells := 0, slots := 0, locals := 21 }) s m [.ref h, .int (nI k0), .int y].toArray below meth c s.heap [] 0 0 (MQ below (vp_Si (fun (r : Int32) => ix (nI k0) (I 0) = false ∧ r = -1 ∨ ∃ k, k < I 0 ∧ (nI k0) = nI k ∧ r = abV y (if B 21 (N 20 k) = true then 2 else if B 22 (N 20 k) = true then 1 else 0) (N 20 k) (cnt (fun j => decide (N 20 j = N 20 k)) (I 0)) (cnt (fun i => anyb (fun j => decide (N 20 (N 12 (32 * i + j)) = N 20 k)) (N 11 i)) (I 15)) (if (B 32 0 && anyb (fun j => decide (N 28 j = N 20 k)) (I 29)) = true then 1 else 0))) [.ref h, .int (nI k0), .int y].toArray s 0 0 (fun _ => False)) (F0 m 140 ls []) := by
        intro n140
        induction n140 with
        | zero => intro z q hme140; exact absurd hme140 (Nat.not_lt_zero _)
        | succ n140 ih140 =>
          intro z q hme140 hz hq ls hl
          refine lv_iload C.1 C.2.1 dX5_about_140 (lv_at hl 0 rfl) ?_
          refine lv_aload_n C.1 C.2.1 dX5_about_142 rfl (lv_at hl 2 rfl) ?_
          refine o_get (v := .int (nI (I 15))) C S O rfl inX5_about_X5 15 (Nat.le_of_ble_eq_true rfl) lkX5_about_108 rfl dX5_about_143 ?_
          refine q_ge (tgt := 231) C (by omega) (by omega) dX5_about_146 (by decide) (fun c146 => ?_) (fun c146 => ?_)
          · refine lv_iload_n C.1 C.2.1 dX5_about_231 rfl (lv_at hl 1 rfl) ?_
            exact q_retSi C hr hlk (Or.inr ⟨k0, hk0, rfl, by rw [abV, if_neg w0, if_neg w1, if_neg w2, if_pos w3, hq, show z = I 15 by omega]⟩) dX5_about_232
          · refine lv_iconst (v := bI false) C.1 C.2.1 dX5_about_149 (by decide) ?_
            refine lv_istore (lv' := [(5, .int (bI false)), (4, .int (nI z)), (3, .int (nI q)), (0, .ref h), (1, .int (nI k0)), (2, .int y)]) C.1 C.2.1 dX5_about_150 hl (by decide) rfl (fun ls hl => ?_)
            refine lv_iconst (v := nI 0) C.1 C.2.1 dX5_about_152 (by decide) ?_
            refine lv_istore (lv' := [(6, .int (nI 0)), (5, .int (bI false)), (4, .int (nI z)), (3, .int (nI q)), (0, .ref h), (1, .int (nI k0)), (2, .int y)]) C.1 C.2.1 dX5_about_153 hl (by decide) rfl (fun ls hl => ?_)
            have lp155 : ∀ (n155 : Nat) (u : Nat) (bb : Bool), N 11 z - u < n155 → (u ≤ N 11 z) → (bb = anyb (fun j => decide (N 20 (N 12 (32 * z + j)) = N 20 k0)) u) → ∀ (ls : Array Slot), lv_has ls 7 [(6, .int (nI u)), (5, .int (bI bb)), (4, .int (nI z)), (3, .int (nI q)), (0, .ref h), (1, .int (nI k0)), (2, .int y)] → W p l e ({ frames := 1, cells := 0, slots := 0, locals := 21 }) s m [.ref h, .int (nI k0), .int y].toArray below meth c s.heap [] 0 0 (MQ below (vp_Si (fun (r : Int32) => ix (nI k0) (I 0) = false ∧ r = -1 ∨ ∃ k, k < I 0 ∧ (nI k0) = nI k ∧ r = abV y (if B 21 (N 20 k) = true then 2 else if B 22 (N 20 k) = true then 1 else 0) (N 20 k) (cnt (fun j => decide (N 20 j = N 20 k)) (I 0)) (cnt (fun i => anyb (fun j => decide (N 20 (N 12 (32 * i + j)) = N 20 k)) (N 11 i)) (I 15)) (if (B 32 0 && anyb (fun j => decide (N 28 j = N 20 k)) (I 29)) = true then 1 else 0))) [.ref h, .int (nI k0), .int y].toArray s 0 0 (fun _ => False)) (F0 m 155 ls []) := by
              intro n155
              induction n155 with
              | zero => intro u bb hme155; exact absurd hme155 (Nat.not_lt_zero _)
              | succ n155 ih155 =>
                intro u bb hme155 hu hbb ls hl
                refine lv_iload C.1 C.2.1 dX5_about_155 (lv_at hl 0 rfl) ?_
                refine lv_aload_n C.1 C.2.1 dX5_about_157 rfl (lv_at hl 4 rfl) ?_
                refine o_get (v := .ref (a 11)) C S O rfl inX5_about_X5 11 (Nat.le_of_ble_eq_true rfl) lkX5_about_35 rfl dX5_about_158 ?_
                refine lv_iload C.1 C.2.1 dX5_about_161 (lv_at hl 2 rfl) ?_
                refine o_nald (x := (N 11) z) C S O 11 (Nat.le_of_ble_eq_true rfl) rfl z rfl (show z < 60 from by first | omega | exact hL _ | exact hP _ | exact hF _) (Nat.le_of_ble_eq_true rfl) rfl dX5_about_163 ?_
                refine q_ge (tgt := 212) C (by have := hk11 z; omega) (by have := hk11 z; omega) dX5_about_164 (by decide) (fun c164 => ?_) (fun c164 => ?_)
                · refine lv_iload_n C.1 C.2.1 dX5_about_212 rfl (lv_at hl 3 rfl) ?_
                  refine lv_iload C.1 C.2.1 dX5_about_213 (lv_at hl 1 rfl) ?_
                  refine q_ifeqB (tgt := 222) C dX5_about_215 (by decide) (fun c215 => ?_) (fun c215 => ?_)
                  · refine lv_iconst (v := nI 0) C.1 C.2.1 dX5_about_222 (by decide) ?_
                    refine q_iadd C dX5_about_223 ?_
                    refine lv_istore_n (lv' := [(3, .int (nI (q + 0))), (6, .int (nI u)), (5, .int (bI bb)), (4, .int (nI z)), (0, .ref h), (1, .int (nI k0)), (2, .int y)]) C.1 C.2.1 dX5_about_224 rfl hl (by decide) rfl (fun ls hl => ?_)
                    refine q_iinc (d := 1) (lv' := [(4, .int (nI (z + 1))), (3, .int (nI (q + 0))), (6, .int (nI u)), (5, .int (bI bb)), (0, .ref h), (1, .int (nI k0)), (2, .int y)]) C dX5_about_225 hl (k := 3) rfl (by decide) (by decide) rfl (fun ls hl => ?_)
                    refine lv_goto (tgt := 140) C.1 C.2.1 dX5_about_228 (by decide) ?_
                    exact ih140 (z + 1) (q + 0) (by omega) (by omega) (by rw [Nat.add_zero, hq, cnt_f (by rw [← c215, hbb, show u = N 11 z by omega])]) _ (lv_sub hl [0, 1, 4, 5, 6] rfl)
                  · refine lv_iconst (v := nI 1) C.1 C.2.1 dX5_about_218 (by decide) ?_
                    refine lv_goto (tgt := 223) C.1 C.2.1 dX5_about_219 (by decide) ?_
                    refine q_iadd C dX5_about_223 ?_
                    refine lv_istore_n (lv' := [(3, .int (nI (q + 1))), (6, .int (nI u)), (5, .int (bI bb)), (4, .int (nI z)), (0, .ref h), (1, .int (nI k0)), (2, .int y)]) C.1 C.2.1 dX5_about_224 rfl hl (by decide) rfl (fun ls hl => ?_)
                    refine q_iinc (d := 1) (lv' := [(4, .int (nI (z + 1))), (3, .int (nI (q + 1))), (6, .int (nI u)), (5, .int (bI bb)), (0, .ref h), (1, .int (nI k0)), (2, .int y)]) C dX5_about_225 hl (k := 3) rfl (by decide) (by decide) rfl (fun ls hl => ?_)
                    refine lv_goto (tgt := 140) C.1 C.2.1 dX5_about_228 (by decide) ?_
                    exact ih140 (z + 1) (q + 1) (by omega) (by omega) (by rw [hq, cnt_t (by rw [← c215, hbb, show u = N 11 z by omega])]) _ (lv_sub hl [0, 1, 4, 5, 6] rfl)
                · refine lv_iload C.1 C.2.1 dX5_about_167 (lv_at hl 1 rfl) ?_
                  refine q_ifneB (tgt := 199) C dX5_about_169 (by decide) (fun c169 => ?_) (fun c169 => ?_)
                  · refine lv_iconst (v := bI true) C.1 C.2.1 dX5_about_199 (by decide) ?_
                    refine lv_goto (tgt := 204) C.1 C.2.1 dX5_about_200 (by decide) ?_
                    refine lv_istore (lv' := [(5, .int (bI true)), (6, .int (nI u)), (4, .int (nI z)), (3, .int (nI q)), (0, .ref h), (1, .int (nI k0)), (2, .int y)]) C.1 C.2.1 dX5_about_204 hl (by decide) rfl (fun ls hl => ?_)
                    refine q_iinc (d := 1) (lv' := [(6, .int (nI (u + 1))), (5, .int (bI true)), (4, .int (nI z)), (3, .int (nI q)), (0, .ref h), (1, .int (nI k0)), (2, .int y)]) C dX5_about_206 hl (k := 1) rfl (by decide) (by decide) rfl (fun ls hl => ?_)
                    refine lv_goto (tgt := 155) C.1 C.2.1 dX5_about_209 (by decide) ?_
                    exact ih155 (u + 1) true (by omega) (by omega) (by rw [anyb_s, ← hbb, c169]; rfl) _ (lv_sub hl [0, 1, 2, 3, 4, 5, 6] rfl)
                  · refine lv_aload_n C.1 C.2.1 dX5_about_172 rfl (lv_at hl 4 rfl) ?_
                    refine o_get (v := .ref (a 20)) C S O rfl inX5_about_X5 20 (Nat.le_of_ble_eq_true rfl) lkX5_about_56 rfl dX5_about_173 ?_
                    refine lv_aload_n C.1 C.2.1 dX5_about_176 rfl (lv_at hl 4 rfl) ?_
                    refine o_get (v := .ref (a 12)) C S O rfl inX5_about_X5 12 (Nat.le_of_ble_eq_true rfl) lkX5_about_38 rfl dX5_about_177 ?_
                    refine lv_bipush (v := nI 32) C.1 C.2.1 dX5_about_180 (by decide) ?_
                    refine lv_iload C.1 C.2.1 dX5_about_182 (lv_at hl 2 rfl) ?_
                    refine q_imul C dX5_about_184 ?_
                    refine lv_iload C.1 C.2.1 dX5_about_185 (lv_at hl 0 rfl) ?_
                    refine q_iadd C dX5_about_187 ?_
                    refine o_nald (x := (N 12) ((32 * z) + u)) C S O 12 (Nat.le_of_ble_eq_true rfl) rfl ((32 * z) + u) rfl (show (32 * z) + u < 1920 from by have := hk11 z; omega) (Nat.le_of_ble_eq_true rfl) rfl dX5_about_188 ?_
                    refine o_nald (x := (N 20) ((N 12) ((32 * z) + u))) C S O 20 (Nat.le_of_ble_eq_true rfl) rfl ((N 12) ((32 * z) + u)) rfl (show (N 12) ((32 * z) + u) < 64 from by exact hk12 _) (Nat.le_of_ble_eq_true rfl) rfl dX5_about_189 ?_
                    refine lv_aload_n C.1 C.2.1 dX5_about_190 rfl (lv_at hl 4 rfl) ?_
                    refine o_get (v := .ref (a 20)) C S O rfl inX5_about_X5 20 (Nat.le_of_ble_eq_true rfl) lkX5_about_56 rfl dX5_about_191 ?_
                    refine lv_iload_n C.1 C.2.1 dX5_about_194 rfl (lv_at hl 5 rfl) ?_
                    refine o_nald (x := (N 20) k0) C S O 20 (Nat.le_of_ble_eq_true rfl) rfl k0 rfl (show k0 < 64 from by first | omega | exact hL _ | exact hP _ | exact hF _) (Nat.le_of_ble_eq_true rfl) rfl dX5_about_195 ?_
                    refine q_nee (tgt := 203) C (Nat.lt_trans (hL _) (by decide)) (Nat.lt_trans (hL _) (by decide)) dX5_about_196 (by decide) (fun c196 => ?_) (fun c196 => ?_)
                    · refine lv_iconst (v := bI false) C.1 C.2.1 dX5_about_203 (by decide) ?_
                      refine lv_istore (lv' := [(5, .int (bI false)), (6, .int (nI u)), (4, .int (nI z)), (3, .int (nI q)), (0, .ref h), (1, .int (nI k0)), (2, .int y)]) C.1 C.2.1 dX5_about_204 hl (by decide) rfl (fun ls hl => ?_)
                      refine q_iinc (d := 1) (lv' := [(6, .int (nI (u + 1))), (5, .int (bI false)), (4, .int (nI z)), (3, .int (nI q)), (0, .ref h), (1, .int (nI k0)), (2, .int y)]) C dX5_about_206 hl (k := 1) rfl (by decide) (by decide) rfl (fun ls hl => ?_)
                      refine lv_goto (tgt := 155) C.1 C.2.1 dX5_about_209 (by decide) ?_
                      exact ih155 (u + 1) false (by omega) (by omega) (by rw [anyb_s, ← hbb, c169, decide_eq_false c196]; rfl) _ (lv_sub hl [0, 1, 2, 3, 4, 5, 6] rfl)
                    · refine lv_iconst (v := bI true) C.1 C.2.1 dX5_about_199 (by decide) ?_
                      refine lv_goto (tgt := 204) C.1 C.2.1 dX5_about_200 (by decide) ?_
                      refine lv_istore (lv' := [(5, .int (bI true)), (6, .int (nI u)), (4, .int (nI z)), (3, .int (nI q)), (0, .ref h), (1, .int (nI k0)), (2, .int y)]) C.1 C.2.1 dX5_about_204 hl (by decide) rfl (fun ls hl => ?_)
                      refine q_iinc (d := 1) (lv' := [(6, .int (nI (u + 1))), (5, .int (bI true)), (4, .int (nI z)), (3, .int (nI q)), (0, .ref h), (1, .int (nI k0)), (2, .int y)]) C dX5_about_206 hl (k := 1) rfl (by decide) (by decide) rfl (fun ls hl => ?_)
                      refine lv_goto (tgt := 155) C.1 C.2.1 dX5_about_209 (by decide) ?_
                      exact ih155 (u + 1) true (by omega) (by omega) (by rw [anyb_s, decide_eq_true c196, Bool.or_true]) _ (lv_sub hl [0, 1, 2, 3, 4, 5, 6] rfl)
            exact lp155 (N 11 z + 1) 0 false (by omega) (by omega) rfl _ (lv_sub hl [0, 1, 2, 3, 4, 5, 6] rfl)
      exact lp140 (I 15 + 1) 0 0 (by omega) (by omega) rfl _ (lv_sub hl [0, 1, 2, 3, 4] rfl)
    by_cases w4 : y = nI 4
    · refine lv_tableIn (off := 220) (tgt := 233) C.1 C.2.1 dX5_about_13 (by rw [w4]; decide) (by rw [w4]; decide) (by rw [w4]; decide) (by decide) ?_
      refine lv_iconst (v := nI 0) C.1 C.2.1 dX5_about_233 (by decide) ?_
      refine lv_istore (lv' := [(4, .int (nI 0)), (3, .int (nI 0)), (0, .ref h), (1, .int (nI k0)), (2, .int y)]) C.1 C.2.1 dX5_about_234 hl (by decide) rfl (fun ls hl => ?_)
      have lp236 : ∀ (n236 : Nat) (z : Nat) (q : Nat), I 29 - z < n236 → (z ≤ I 29) → (q = (if (B 32 0 && anyb (fun j => decide (N 28 j = N 20 k0)) z) = true then 1 else 0)) → ∀ (ls : Array Slot), lv_has ls 7 [(4, .int (nI z)), (3, .int (nI q)), (0, .ref h), (1, .int (nI k0)), (2, .int y)] → W p l e ({ frames := 1, cells := 0, slots := 0, locals := 21 }) s m [.ref h, .int (nI k0), .int y].toArray below meth c s.heap [] 0 0 (MQ below (vp_Si (fun (r : Int32) => ix (nI k0) (I 0) = false ∧ r = -1 ∨ ∃ k, k < I 0 ∧ (nI k0) = nI k ∧ r = abV y (if B 21 (N 20 k) = true then 2 else if B 22 (N 20 k) = true then 1 else 0) (N 20 k) (cnt (fun j => decide (N 20 j = N 20 k)) (I 0)) (cnt (fun i => anyb (fun j => decide (N 20 (N 12 (32 * i + j)) = N 20 k)) (N 11 i)) (I 15)) (if (B 32 0 && anyb (fun j => decide (N 28 j = N 20 k)) (I 29)) = true then 1 else 0))) [.ref h, .int (nI k0), .int y].toArray s 0 0 (fun _ => False)) (F0 m 236 ls []) := by
        intro n236
        induction n236 with
        | zero => intro z q hme236; exact absurd hme236 (Nat.not_lt_zero _)
        | succ n236 ih236 =>
          intro z q hme236 hz hq ls hl
          refine lv_iload C.1 C.2.1 dX5_about_236 (lv_at hl 0 rfl) ?_
          refine lv_aload_n C.1 C.2.1 dX5_about_238 rfl (lv_at hl 2 rfl) ?_
          refine o_get (v := .int (nI (I 29))) C S O rfl inX5_about_X5 29 (Nat.le_of_ble_eq_true rfl) lkX5_about_146 rfl dX5_about_239 ?_
          refine q_ge (tgt := 280) C (by omega) (by omega) dX5_about_242 (by decide) (fun c242 => ?_) (fun c242 => ?_)
          · refine lv_iload_n C.1 C.2.1 dX5_about_280 rfl (lv_at hl 1 rfl) ?_
            exact q_retSi C hr hlk (Or.inr ⟨k0, hk0, rfl, by rw [abV, if_neg w0, if_neg w1, if_neg w2, if_neg w3, if_pos w4, hq, show z = I 29 by omega]⟩) dX5_about_281
          · refine lv_aload_n C.1 C.2.1 dX5_about_245 rfl (lv_at hl 2 rfl) ?_
            refine o_get (v := .int (bI ((B 32) 0))) C S O rfl inX5_about_X5 32 (Nat.le_of_ble_eq_true rfl) lkX5_about_139 rfl dX5_about_246 ?_
            refine q_ifeqB (tgt := 280) C dX5_about_249 (by decide) (fun c249 => ?_) (fun c249 => ?_)
            · refine lv_iload_n C.1 C.2.1 dX5_about_280 rfl (lv_at hl 1 rfl) ?_
              exact q_retSi C hr hlk (Or.inr ⟨k0, hk0, rfl, by rw [abV, if_neg w0, if_neg w1, if_neg w2, if_neg w3, if_pos w4, hq, c249]; rfl⟩) dX5_about_281
            · refine lv_aload_n C.1 C.2.1 dX5_about_252 rfl (lv_at hl 2 rfl) ?_
              refine o_get (v := .ref (a 28)) C S O rfl inX5_about_X5 28 (Nat.le_of_ble_eq_true rfl) lkX5_about_81 rfl dX5_about_253 ?_
              refine lv_iload C.1 C.2.1 dX5_about_256 (lv_at hl 0 rfl) ?_
              refine o_nald (x := (N 28) z) C S O 28 (Nat.le_of_ble_eq_true rfl) rfl z rfl (show z < 32 from by first | omega | exact hL _ | exact hP _ | exact hF _) (Nat.le_of_ble_eq_true rfl) rfl dX5_about_258 ?_
              refine lv_aload_n C.1 C.2.1 dX5_about_259 rfl (lv_at hl 2 rfl) ?_
              refine o_get (v := .ref (a 20)) C S O rfl inX5_about_X5 20 (Nat.le_of_ble_eq_true rfl) lkX5_about_56 rfl dX5_about_260 ?_
              refine lv_iload_n C.1 C.2.1 dX5_about_263 rfl (lv_at hl 3 rfl) ?_
              refine o_nald (x := (N 20) k0) C S O 20 (Nat.le_of_ble_eq_true rfl) rfl k0 rfl (show k0 < 64 from by first | omega | exact hL _ | exact hP _ | exact hF _) (Nat.le_of_ble_eq_true rfl) rfl dX5_about_264 ?_
              refine q_nee (tgt := 272) C (Nat.lt_trans (hF _) (by decide)) (Nat.lt_trans (hL _) (by decide)) dX5_about_265 (by decide) (fun c265 => ?_) (fun c265 => ?_)
              · refine lv_iload_n C.1 C.2.1 dX5_about_272 rfl (lv_at hl 1 rfl) ?_
                refine lv_istore_n (lv' := [(3, .int (nI q)), (4, .int (nI z)), (0, .ref h), (1, .int (nI k0)), (2, .int y)]) C.1 C.2.1 dX5_about_273 rfl hl (by decide) rfl (fun ls hl => ?_)
                refine q_iinc (d := 1) (lv' := [(4, .int (nI (z + 1))), (3, .int (nI q)), (0, .ref h), (1, .int (nI k0)), (2, .int y)]) C dX5_about_274 hl (k := 1) rfl (by decide) (by decide) rfl (fun ls hl => ?_)
                refine lv_goto (tgt := 236) C.1 C.2.1 dX5_about_277 (by decide) ?_
                exact ih236 (z + 1) q (by omega) (by omega) (by rw [hq, c249, Bool.true_and, Bool.true_and, show anyb (fun j => decide (N 28 j = N 20 k0)) (z + 1) = (anyb (fun j => decide (N 28 j = N 20 k0)) z || decide (N 28 z = N 20 k0)) from rfl, decide_eq_false c265, Bool.or_false]) _ (lv_sub hl [0, 1, 2, 3, 4] rfl)
              · refine lv_iconst (v := nI 1) C.1 C.2.1 dX5_about_268 (by decide) ?_
                refine lv_goto (tgt := 273) C.1 C.2.1 dX5_about_269 (by decide) ?_
                refine lv_istore_n (lv' := [(3, .int (nI 1)), (4, .int (nI z)), (0, .ref h), (1, .int (nI k0)), (2, .int y)]) C.1 C.2.1 dX5_about_273 rfl hl (by decide) rfl (fun ls hl => ?_)
                refine q_iinc (d := 1) (lv' := [(4, .int (nI (z + 1))), (3, .int (nI 1)), (0, .ref h), (1, .int (nI k0)), (2, .int y)]) C dX5_about_274 hl (k := 1) rfl (by decide) (by decide) rfl (fun ls hl => ?_)
                refine lv_goto (tgt := 236) C.1 C.2.1 dX5_about_277 (by decide) ?_
                exact ih236 (z + 1) 1 (by omega) (by omega) (by rw [if_pos (by rw [c249, Bool.true_and]; exact anyb_t (i := z) (by omega) (decide_eq_true c265))]) _ (lv_sub hl [0, 1, 2, 3, 4] rfl)
      exact lp236 (I 29 + 1) 0 0 (by omega) (by omega) (by rw [show anyb (fun j => decide (N 28 j = N 20 k0)) 0 = false from rfl, Bool.and_false]; rfl) _ (lv_sub hl [0, 1, 2, 3, 4] rfl)
    refine lv_tableOut (tgt := 282) C.1 C.2.1 dX5_about_13 (tb_out (n := 4) (by decide) (fun j hj => by rcases (show j = 0 ∨ j = 1 ∨ j = 2 ∨ j = 3 ∨ j = 4 by omega) with rfl | rfl | rfl | rfl | rfl <;> assumption)) (by decide) ?_
    refine lv_iconst (v := (-1)) C.1 C.2.1 dX5_about_282 (by decide) ?_
    exact q_retSi C hr hlk (Or.inr ⟨k0, hk0, rfl, by rw [abV, if_neg w0, if_neg w1, if_neg w2, if_neg w3, if_neg w4]⟩) dX5_about_283
  · refine lv_iconst (v := (-1)) C.1 C.2.1 dX5_about_8 (by decide) ?_
    exact q_retSi C hr hlk (Or.inl ⟨c5, rfl⟩) dX5_about_9
theorem inX5_collect_X5 : ∀ w ∈ u_ws RX5 TX5 34, w ∈ wsX5_collect := (fun _ h => (List.mem_cons_of_mem _ (List.mem_append_right _ h)))
theorem lkX5_collect_136 : Cond.fieldLink RX5 136 (TX5 9).1 (TX5 9).2.1 (TX5 9).2.2.1 ∈ wsX5_collect := List.mem_of_getElem? (i := 1) rfl
theorem lkX5_collect_56 : Cond.fieldLink RX5 56 (TX5 20).1 (TX5 20).2.1 (TX5 20).2.2.1 ∈ wsX5_collect := List.mem_of_getElem? (i := 2) rfl
theorem lkX5_collect_26 : Cond.fieldLink RX5 26 (TX5 7).1 (TX5 7).2.1 (TX5 7).2.2.1 ∈ wsX5_collect := List.mem_of_getElem? (i := 3) rfl
theorem lkX5_collect_59 : Cond.fieldLink RX5 59 (TX5 21).1 (TX5 21).2.1 (TX5 21).2.2.1 ∈ wsX5_collect := List.mem_of_getElem? (i := 4) rfl
theorem lkX5_collect_81 : Cond.fieldLink RX5 81 (TX5 28).1 (TX5 28).2.1 (TX5 28).2.2.1 ∈ wsX5_collect := List.mem_of_getElem? (i := 5) rfl
theorem lkX5_collect_63 : Cond.fieldLink RX5 63 (TX5 22).1 (TX5 22).2.1 (TX5 22).2.2.1 ∈ wsX5_collect := List.mem_of_getElem? (i := 6) rfl
set_option maxHeartbeats 4000000 in
set_option maxRecDepth 100000 in
theorem m_collect {l : Launch} {G : fw_G} {A : Nat → Prop} {f0 : fw_F} {h : Nat} {a : Nat → Nat} {I : Nat → Nat} {N : Nat → Nat → Nat} {B : Nat → Nat → Bool} {J : Nat → Nat → Int64} (O : isO G dM f0 2000 h a I N B J) (hM : mOK I N)  : Met l yX5_collect wsX5_collect ({ frames := 0, cells := 0, slots := 0, locals := 0 }) (va_Pc [.ref h] (fw_P G A f0)) (va_Qi (fun (r : Int32) (f1 : fw_F) => r = (if gtA (N 7) (N 20) (B 21) (B 22) (N 28) (I 9) = true then nI (gtM (N 7) (N 20) (B 21) (N 28) (I 9)).1 else -1) ∧ isO G dM f1 2000 h a I (va_up N 28 (gtM (N 7) (N 20) (B 21) (N 28) (I 9)).2) B J ∧ fw_fr f0 f1 2000 2035) (fw_B G A) A) 0 0 A := by
  refine q_head rfl (by decide) (Nat.le_of_ble_eq_true rfl) ?_
  intro p e s m below meth c ls C hr hlk hnm P hl
  have S := P.start
  have hl : lv_has ls 7 [(0, .ref h)] := hl
  have F := fw_fr_rf f0 2000 2035
  have hM0 := hM
  obtain ⟨⟨hm0, hm6, hm9, hm15, hm19⟩, ⟨hs1, hs2, hs3⟩, ⟨hP7, hk10, hk11, hk12⟩, hL, hF⟩ := hM
  refine lv_iconst (v := nI 0) C.1 C.2.1 dX5_collect_0 (by decide) ?_
  refine lv_istore_n (lv' := [(1, .int (nI 0)), (0, .ref h)]) C.1 C.2.1 dX5_collect_1 rfl hl (by decide) rfl (fun ls hl => ?_)
  refine lv_iconst (v := bI true) C.1 C.2.1 dX5_collect_2 (by decide) ?_
  refine lv_istore_n (lv' := [(2, .int (bI true)), (1, .int (nI 0)), (0, .ref h)]) C.1 C.2.1 dX5_collect_3 rfl hl (by decide) rfl (fun ls hl => ?_)
  refine lv_iconst (v := nI 0) C.1 C.2.1 dX5_collect_4 (by decide) ?_
  refine lv_istore_n (lv' := [(3, .int (nI 0)), (2, .int (bI true)), (1, .int (nI 0)), (0, .ref h)]) C.1 C.2.1 dX5_collect_5 rfl hl (by decide) rfl (fun ls hl => ?_)
  have lp6 : ∀ (n6 : Nat) (z : Nat) (q : Nat) (al : Bool) (N3 : Nat → Nat → Nat), I 9 - z < n6 → (z ≤ I 9) → (q = (gtM (N 7) (N 20) (B 21) (N 28) z).1) → (N3 = va_up N 28 (gtM (N 7) (N 20) (B 21) (N 28) z).2) → (al = gtA (N 7) (N 20) (B 21) (B 22) (N 28) z) → (q ≤ z) → (∀ i, N3 28 i < 64) → ∀ (f : fw_F) (H : Heap) (locs : List Loc) (ls : Array Slot), fw_S G A s f H locs → isO G dM f 2000 h a I N3 B J → fw_fr f0 f 2000 2035 → lv_has ls 7 [(3, .int (nI z)), (2, .int (bI al)), (1, .int (nI q)), (0, .ref h)] → W p l e ({ frames := 0, cells := 0, slots := 0, locals := 0 }) s m [.ref h].toArray below meth c H locs 0 0 (MQ below (va_Qi (fun (r : Int32) (f1 : fw_F) => r = (if gtA (N 7) (N 20) (B 21) (B 22) (N 28) (I 9) = true then nI (gtM (N 7) (N 20) (B 21) (N 28) (I 9)).1 else -1) ∧ isO G dM f1 2000 h a I (va_up N 28 (gtM (N 7) (N 20) (B 21) (N 28) (I 9)).2) B J ∧ fw_fr f0 f1 2000 2035) (fw_B G A) A) [.ref h].toArray s 0 0 A) (F0 m 6 ls []) := by
    intro n6
    induction n6 with
    | zero => intro z q al N3 hme6; exact absurd hme6 (Nat.not_lt_zero _)
    | succ n6 ih6 =>
      intro z q al N3 hme6 hz hn1 hN3 hal hqz hF3 f H locs ls S O F hl
      have hN28 : N3 28 = (gtM (N 7) (N 20) (B 21) (N 28) z).2 := by rw [hN3, up_s]
      refine lv_iload_n C.1 C.2.1 dX5_collect_6 rfl (lv_at hl 0 rfl) ?_
      refine lv_aload_n C.1 C.2.1 dX5_collect_7 rfl (lv_at hl 3 rfl) ?_
      refine o_get (v := .int (nI (I 9))) C S O rfl inX5_collect_X5 9 (Nat.le_of_ble_eq_true rfl) lkX5_collect_136 rfl dX5_collect_8 ?_
      refine q_ge (tgt := 120) C (by omega) (by omega) dX5_collect_11 (by decide) (fun c11 => ?_) (fun c11 => ?_)
      · refine lv_iload_n C.1 C.2.1 dX5_collect_120 rfl (lv_at hl 1 rfl) ?_
        refine q_ifeqB (tgt := 128) C dX5_collect_121 (by decide) (fun c121 => ?_) (fun c121 => ?_)
        · refine lv_iconst (v := (-1)) C.1 C.2.1 dX5_collect_128 (by decide) ?_
          exact q_retQi C S hr hlk ⟨by rw [show I 9 = z by omega, ← hal, if_neg (by rw [c121]; decide)], by rw [show I 9 = z by omega, ← hN3]; exact O, F⟩ dX5_collect_129
        · refine lv_iload_n C.1 C.2.1 dX5_collect_124 rfl (lv_at hl 2 rfl) ?_
          refine lv_goto (tgt := 129) C.1 C.2.1 dX5_collect_125 (by decide) ?_
          exact q_retQi C S hr hlk ⟨by rw [show I 9 = z by omega, ← hal, if_pos c121, ← hn1], by rw [show I 9 = z by omega, ← hN3]; exact O, F⟩ dX5_collect_129
      · refine lv_aload_n C.1 C.2.1 dX5_collect_14 rfl (lv_at hl 3 rfl) ?_
        refine o_get (v := .ref (a 20)) C S O rfl inX5_collect_X5 20 (Nat.le_of_ble_eq_true rfl) lkX5_collect_56 rfl dX5_collect_15 ?_
        refine lv_aload_n C.1 C.2.1 dX5_collect_18 rfl (lv_at hl 3 rfl) ?_
        refine o_get (v := .ref (a 7)) C S O rfl inX5_collect_X5 7 (Nat.le_of_ble_eq_true rfl) lkX5_collect_26 rfl dX5_collect_19 ?_
        refine lv_iload_n C.1 C.2.1 dX5_collect_22 rfl (lv_at hl 0 rfl) ?_
        refine o_nald (x := N 7 z) C S O 7 (Nat.le_of_ble_eq_true rfl) rfl z rfl (show z < 32 from by first | omega | exact hL _ | exact hP _ | exact hF _) (Nat.le_of_ble_eq_true rfl) (by rw [hN3]; rfl) dX5_collect_23 ?_
        refine o_nald (x := N 20 (N 7 z)) C S O 20 (Nat.le_of_ble_eq_true rfl) rfl (N 7 z) rfl (show N 7 z < 64 from by exact hP7 _) (Nat.le_of_ble_eq_true rfl) (by rw [hN3]; rfl) dX5_collect_24 ?_
        refine lv_istore (lv' := [(4, .int (nI (N 20 (N 7 z)))), (3, .int (nI z)), (2, .int (bI al)), (1, .int (nI q)), (0, .ref h)]) C.1 C.2.1 dX5_collect_25 hl (by decide) rfl (fun ls hl => ?_)
        refine lv_aload_n C.1 C.2.1 dX5_collect_27 rfl (lv_at hl 4 rfl) ?_
        refine o_get (v := .ref (a 21)) C S O rfl inX5_collect_X5 21 (Nat.le_of_ble_eq_true rfl) lkX5_collect_59 rfl dX5_collect_28 ?_
        refine lv_iload C.1 C.2.1 dX5_collect_31 (lv_at hl 0 rfl) ?_
        refine o_yald (x := (B 21) (N 20 (N 7 z))) C S O 21 (Nat.le_of_ble_eq_true rfl) rfl (N 20 (N 7 z)) rfl (show N 20 (N 7 z) < 64 from by exact hL _) (Nat.le_of_ble_eq_true rfl) rfl dX5_collect_33 ?_
        refine lv_istore (lv' := [(5, .int (bI ((B 21) (N 20 (N 7 z))))), (4, .int (nI (N 20 (N 7 z)))), (3, .int (nI z)), (2, .int (bI al)), (1, .int (nI q)), (0, .ref h)]) C.1 C.2.1 dX5_collect_34 hl (by decide) rfl (fun ls hl => ?_)
        refine lv_iconst (v := nI 0) C.1 C.2.1 dX5_collect_36 (by decide) ?_
        refine lv_istore (lv' := [(6, .int (nI 0)), (5, .int (bI ((B 21) (N 20 (N 7 z))))), (4, .int (nI (N 20 (N 7 z)))), (3, .int (nI z)), (2, .int (bI al)), (1, .int (nI q)), (0, .ref h)]) C.1 C.2.1 dX5_collect_37 hl (by decide) rfl (fun ls hl => ?_)
        have lp39 : ∀ (n39 : Nat) (v : Nat) (bb : Bool), q - v < n39 → (v ≤ q) → (bb = (B 21 (N 20 (N 7 z)) || anyb (fun j => decide (N3 28 j = (N 20 (N 7 z)))) v)) → ∀ (ls : Array Slot), lv_has ls 7 [(6, .int (nI v)), (5, .int (bI bb)), (4, .int (nI (N 20 (N 7 z)))), (3, .int (nI z)), (2, .int (bI al)), (1, .int (nI q)), (0, .ref h)] → W p l e ({ frames := 0, cells := 0, slots := 0, locals := 0 }) s m [.ref h].toArray below meth c H locs 0 0 (MQ below (va_Qi (fun (r : Int32) (f1 : fw_F) => r = (if gtA (N 7) (N 20) (B 21) (B 22) (N 28) (I 9) = true then nI (gtM (N 7) (N 20) (B 21) (N 28) (I 9)).1 else -1) ∧ isO G dM f1 2000 h a I (va_up N 28 (gtM (N 7) (N 20) (B 21) (N 28) (I 9)).2) B J ∧ fw_fr f0 f1 2000 2035) (fw_B G A) A) [.ref h].toArray s 0 0 A) (F0 m 39 ls []) := by
          intro n39
          induction n39 with
          | zero => intro v bb hme39; exact absurd hme39 (Nat.not_lt_zero _)
          | succ n39 ih39 =>
            intro v bb hme39 hv hbb ls hl
            refine lv_iload C.1 C.2.1 dX5_collect_39 (lv_at hl 0 rfl) ?_
            refine lv_iload_n C.1 C.2.1 dX5_collect_41 rfl (lv_at hl 5 rfl) ?_
            refine q_ge (tgt := 75) C (by omega) (by omega) dX5_collect_42 (by decide) (fun c42 => ?_) (fun c42 => ?_)
            · refine lv_iload C.1 C.2.1 dX5_collect_75 (lv_at hl 1 rfl) ?_
              refine q_ifeqB (tgt := 83) C dX5_collect_77 (by decide) (fun c77 => ?_) (fun c77 => ?_)
              · have hbv : (B 21 (N 20 (N 7 z)) || anyb (fun j => decide (N3 28 j = (N 20 (N 7 z)))) q) = false := by rw [← c77, hbb, show v = q by omega]
                have hc1 : B 21 (N 20 (N 7 z)) = false := (Bool.or_eq_false_iff.mp hbv).1
                have hc2 : ∀ j, j < q → N3 28 j ≠ (N 20 (N 7 z)) := fun j hj => of_decide_eq_false (by cases hx : decide (N3 28 j = (N 20 (N 7 z))) with | false => rfl | true => exact absurd ((Bool.or_eq_false_iff.mp hbv).2.symm.trans (anyb_t (P := (fun j => decide (N3 28 j = (N 20 (N 7 z))))) hj hx)) (by decide))
                refine lv_iload_n C.1 C.2.1 dX5_collect_83 rfl (lv_at hl 4 rfl) ?_
                refine q_ifeqB (tgt := 101) C dX5_collect_84 (by decide) (fun c84 => ?_) (fun c84 => ?_)
                · refine lv_iconst (v := bI false) C.1 C.2.1 dX5_collect_101 (by decide) ?_
                  refine lv_istore_n (lv' := [(2, .int (bI false)), (6, .int (nI v)), (5, .int (bI bb)), (4, .int (nI (N 20 (N 7 z)))), (3, .int (nI z)), (1, .int (nI q)), (0, .ref h)]) C.1 C.2.1 dX5_collect_102 rfl hl (by decide) rfl (fun ls hl => ?_)
                  refine lv_aload_n C.1 C.2.1 dX5_collect_103 rfl (lv_at hl 6 rfl) ?_
                  refine o_get (v := .ref (a 28)) C S O rfl inX5_collect_X5 28 (Nat.le_of_ble_eq_true rfl) lkX5_collect_81 rfl dX5_collect_104 ?_
                  refine lv_iload_n C.1 C.2.1 dX5_collect_107 rfl (lv_at hl 5 rfl) ?_
                  refine lv_iload C.1 C.2.1 dX5_collect_108 (lv_at hl 3 rfl) ?_
                  refine o_nast C S O F 28 (Nat.le_of_ble_eq_true rfl) rfl q rfl (show q < 32 from by omega) (Nat.le_of_ble_eq_true rfl) ⟨by decide, by decide⟩ dX5_collect_110 (fun f H locs S O F => ?_)
                  refine q_iinc (d := 1) (lv' := [(1, .int (nI (q + 1))), (2, .int (bI false)), (6, .int (nI v)), (5, .int (bI bb)), (4, .int (nI (N 20 (N 7 z)))), (3, .int (nI z)), (0, .ref h)]) C dX5_collect_111 hl (k := 5) rfl (by decide) (by decide) rfl (fun ls hl => ?_)
                  refine q_iinc (d := 1) (lv' := [(3, .int (nI (z + 1))), (1, .int (nI (q + 1))), (2, .int (bI false)), (6, .int (nI v)), (5, .int (bI bb)), (4, .int (nI (N 20 (N 7 z)))), (0, .ref h)]) C dX5_collect_114 hl (k := 5) rfl (by decide) (by decide) rfl (fun ls hl => ?_)
                  refine lv_goto (tgt := 6) C.1 C.2.1 dX5_collect_117 (by decide) ?_
                  exact ih6 (z + 1) (q + 1) false (va_up N3 28 (va_up (N3 28) q (N 20 (N 7 z)))) (by omega) (by omega) (by rw [gtM_y hc1 (levF_iff.mpr (by rw [← hN28, ← hn1]; intro j hj; exact hc2 j (by omega)))]; show q + 1 = _ + 1; rw [hn1]) (by rw [gtM_y hc1 (levF_iff.mpr (by rw [← hN28, ← hn1]; intro j hj; exact hc2 j (by omega))), hN3, bx_uu, up_s, hn1]) (by rw [gtA_y hc1 (levF_iff.mpr (by rw [← hN28, ← hn1]; intro j hj; exact hc2 j (by omega))), ← hal, c84]; rfl) (by omega) (fun i => by show va_up (N3 28) q _ i < 64; by_cases q2 : i = q; rw [q2, up_s]; exact hL _; rw [up_n q2]; exact hF3 i) _ _ _ _ S O F (lv_sub hl [0, 2, 1, 6] rfl)
                · refine lv_aload_n C.1 C.2.1 dX5_collect_87 rfl (lv_at hl 6 rfl) ?_
                  refine o_get (v := .ref (a 22)) C S O rfl inX5_collect_X5 22 (Nat.le_of_ble_eq_true rfl) lkX5_collect_63 rfl dX5_collect_88 ?_
                  refine lv_iload C.1 C.2.1 dX5_collect_91 (lv_at hl 2 rfl) ?_
                  refine o_yald (x := (B 22) (N 20 (N 7 z))) C S O 22 (Nat.le_of_ble_eq_true rfl) rfl (N 20 (N 7 z)) rfl (show N 20 (N 7 z) < 64 from by exact hL _) (Nat.le_of_ble_eq_true rfl) rfl dX5_collect_93 ?_
                  refine q_ifeqB (tgt := 101) C dX5_collect_94 (by decide) (fun c94 => ?_) (fun c94 => ?_)
                  · refine lv_iconst (v := bI false) C.1 C.2.1 dX5_collect_101 (by decide) ?_
                    refine lv_istore_n (lv' := [(2, .int (bI false)), (6, .int (nI v)), (5, .int (bI bb)), (4, .int (nI (N 20 (N 7 z)))), (3, .int (nI z)), (1, .int (nI q)), (0, .ref h)]) C.1 C.2.1 dX5_collect_102 rfl hl (by decide) rfl (fun ls hl => ?_)
                    refine lv_aload_n C.1 C.2.1 dX5_collect_103 rfl (lv_at hl 6 rfl) ?_
                    refine o_get (v := .ref (a 28)) C S O rfl inX5_collect_X5 28 (Nat.le_of_ble_eq_true rfl) lkX5_collect_81 rfl dX5_collect_104 ?_
                    refine lv_iload_n C.1 C.2.1 dX5_collect_107 rfl (lv_at hl 5 rfl) ?_
                    refine lv_iload C.1 C.2.1 dX5_collect_108 (lv_at hl 3 rfl) ?_
                    refine o_nast C S O F 28 (Nat.le_of_ble_eq_true rfl) rfl q rfl (show q < 32 from by omega) (Nat.le_of_ble_eq_true rfl) ⟨by decide, by decide⟩ dX5_collect_110 (fun f H locs S O F => ?_)
                    refine q_iinc (d := 1) (lv' := [(1, .int (nI (q + 1))), (2, .int (bI false)), (6, .int (nI v)), (5, .int (bI bb)), (4, .int (nI (N 20 (N 7 z)))), (3, .int (nI z)), (0, .ref h)]) C dX5_collect_111 hl (k := 5) rfl (by decide) (by decide) rfl (fun ls hl => ?_)
                    refine q_iinc (d := 1) (lv' := [(3, .int (nI (z + 1))), (1, .int (nI (q + 1))), (2, .int (bI false)), (6, .int (nI v)), (5, .int (bI bb)), (4, .int (nI (N 20 (N 7 z)))), (0, .ref h)]) C dX5_collect_114 hl (k := 5) rfl (by decide) (by decide) rfl (fun ls hl => ?_)
                    refine lv_goto (tgt := 6) C.1 C.2.1 dX5_collect_117 (by decide) ?_
                    exact ih6 (z + 1) (q + 1) false (va_up N3 28 (va_up (N3 28) q (N 20 (N 7 z)))) (by omega) (by omega) (by rw [gtM_y hc1 (levF_iff.mpr (by rw [← hN28, ← hn1]; intro j hj; exact hc2 j (by omega)))]; show q + 1 = _ + 1; rw [hn1]) (by rw [gtM_y hc1 (levF_iff.mpr (by rw [← hN28, ← hn1]; intro j hj; exact hc2 j (by omega))), hN3, bx_uu, up_s, hn1]) (by rw [gtA_y hc1 (levF_iff.mpr (by rw [← hN28, ← hn1]; intro j hj; exact hc2 j (by omega))), ← hal, c84, c94]; rfl) (by omega) (fun i => by show va_up (N3 28) q _ i < 64; by_cases q2 : i = q; rw [q2, up_s]; exact hL _; rw [up_n q2]; exact hF3 i) _ _ _ _ S O F (lv_sub hl [0, 2, 1, 6] rfl)
                  · refine lv_iconst (v := bI true) C.1 C.2.1 dX5_collect_97 (by decide) ?_
                    refine lv_goto (tgt := 102) C.1 C.2.1 dX5_collect_98 (by decide) ?_
                    refine lv_istore_n (lv' := [(2, .int (bI true)), (6, .int (nI v)), (5, .int (bI bb)), (4, .int (nI (N 20 (N 7 z)))), (3, .int (nI z)), (1, .int (nI q)), (0, .ref h)]) C.1 C.2.1 dX5_collect_102 rfl hl (by decide) rfl (fun ls hl => ?_)
                    refine lv_aload_n C.1 C.2.1 dX5_collect_103 rfl (lv_at hl 6 rfl) ?_
                    refine o_get (v := .ref (a 28)) C S O rfl inX5_collect_X5 28 (Nat.le_of_ble_eq_true rfl) lkX5_collect_81 rfl dX5_collect_104 ?_
                    refine lv_iload_n C.1 C.2.1 dX5_collect_107 rfl (lv_at hl 5 rfl) ?_
                    refine lv_iload C.1 C.2.1 dX5_collect_108 (lv_at hl 3 rfl) ?_
                    refine o_nast C S O F 28 (Nat.le_of_ble_eq_true rfl) rfl q rfl (show q < 32 from by omega) (Nat.le_of_ble_eq_true rfl) ⟨by decide, by decide⟩ dX5_collect_110 (fun f H locs S O F => ?_)
                    refine q_iinc (d := 1) (lv' := [(1, .int (nI (q + 1))), (2, .int (bI true)), (6, .int (nI v)), (5, .int (bI bb)), (4, .int (nI (N 20 (N 7 z)))), (3, .int (nI z)), (0, .ref h)]) C dX5_collect_111 hl (k := 5) rfl (by decide) (by decide) rfl (fun ls hl => ?_)
                    refine q_iinc (d := 1) (lv' := [(3, .int (nI (z + 1))), (1, .int (nI (q + 1))), (2, .int (bI true)), (6, .int (nI v)), (5, .int (bI bb)), (4, .int (nI (N 20 (N 7 z)))), (0, .ref h)]) C dX5_collect_114 hl (k := 5) rfl (by decide) (by decide) rfl (fun ls hl => ?_)
                    refine lv_goto (tgt := 6) C.1 C.2.1 dX5_collect_117 (by decide) ?_
                    exact ih6 (z + 1) (q + 1) true (va_up N3 28 (va_up (N3 28) q (N 20 (N 7 z)))) (by omega) (by omega) (by rw [gtM_y hc1 (levF_iff.mpr (by rw [← hN28, ← hn1]; intro j hj; exact hc2 j (by omega)))]; show q + 1 = _ + 1; rw [hn1]) (by rw [gtM_y hc1 (levF_iff.mpr (by rw [← hN28, ← hn1]; intro j hj; exact hc2 j (by omega))), hN3, bx_uu, up_s, hn1]) (by rw [gtA_y hc1 (levF_iff.mpr (by rw [← hN28, ← hn1]; intro j hj; exact hc2 j (by omega))), ← hal, c84, c94]; rfl) (by omega) (fun i => by show va_up (N3 28) q _ i < 64; by_cases q2 : i = q; rw [q2, up_s]; exact hL _; rw [up_n q2]; exact hF3 i) _ _ _ _ S O F (lv_sub hl [0, 2, 1, 6] rfl)
              · have hbv : (B 21 (N 20 (N 7 z)) || anyb (fun j => decide (N3 28 j = (N 20 (N 7 z)))) q) = true := by rw [← c77, hbb, show v = q by omega]
                have hc3 : B 21 (N 20 (N 7 z)) = true ∨ levF (gtM (N 7) (N 20) (B 21) (N 28) z).2 (gtM (N 7) (N 20) (B 21) (N 28) z).1 (N 20 (N 7 z)) ≠ 0 := by
                  rcases Bool.or_eq_true_iff.mp hbv with a1 | a1
                  · exact Or.inl a1
                  · refine Or.inr (fun q0 => ?_)
                    obtain ⟨j, j1, j2⟩ := anyb_iff.mp a1
                    exact levF_iff.mp q0 j (by rw [← hn1]; exact j1) (by rw [← hN28]; exact of_decide_eq_true j2)
                refine lv_goto (tgt := 114) C.1 C.2.1 dX5_collect_80 (by decide) ?_
                refine q_iinc (d := 1) (lv' := [(3, .int (nI (z + 1))), (6, .int (nI v)), (5, .int (bI bb)), (4, .int (nI (N 20 (N 7 z)))), (2, .int (bI al)), (1, .int (nI q)), (0, .ref h)]) C dX5_collect_114 hl (k := 3) rfl (by decide) (by decide) rfl (fun ls hl => ?_)
                refine lv_goto (tgt := 6) C.1 C.2.1 dX5_collect_117 (by decide) ?_
                exact ih6 (z + 1) q al N3 (by omega) (by omega) (by rw [gtM_n hc3]; exact hn1) (by rw [gtM_n hc3]; exact hN3) (by rw [gtA_n hc3]; exact hal) (by omega) hF3 _ _ _ _ S O F (lv_sub hl [0, 4, 5, 6] rfl)
            · refine lv_iload C.1 C.2.1 dX5_collect_45 (lv_at hl 1 rfl) ?_
              refine q_ifneB (tgt := 62) C dX5_collect_47 (by decide) (fun c47 => ?_) (fun c47 => ?_)
              · refine lv_iconst (v := bI true) C.1 C.2.1 dX5_collect_62 (by decide) ?_
                refine lv_goto (tgt := 67) C.1 C.2.1 dX5_collect_63 (by decide) ?_
                refine lv_istore (lv' := [(5, .int (bI true)), (6, .int (nI v)), (4, .int (nI (N 20 (N 7 z)))), (3, .int (nI z)), (2, .int (bI al)), (1, .int (nI q)), (0, .ref h)]) C.1 C.2.1 dX5_collect_67 hl (by decide) rfl (fun ls hl => ?_)
                refine q_iinc (d := 1) (lv' := [(6, .int (nI (v + 1))), (5, .int (bI true)), (4, .int (nI (N 20 (N 7 z)))), (3, .int (nI z)), (2, .int (bI al)), (1, .int (nI q)), (0, .ref h)]) C dX5_collect_69 hl (k := 1) rfl (by decide) (by decide) rfl (fun ls hl => ?_)
                refine lv_goto (tgt := 39) C.1 C.2.1 dX5_collect_72 (by decide) ?_
                exact ih39 (v + 1) true (by omega) (by omega) (by rw [anyb_s, ← Bool.or_assoc, ← hbb, c47]; rfl) _ (lv_sub hl [0, 1, 2, 3, 4, 5, 6] rfl)
              · refine lv_aload_n C.1 C.2.1 dX5_collect_50 rfl (lv_at hl 6 rfl) ?_
                refine o_get (v := .ref (a 28)) C S O rfl inX5_collect_X5 28 (Nat.le_of_ble_eq_true rfl) lkX5_collect_81 rfl dX5_collect_51 ?_
                refine lv_iload C.1 C.2.1 dX5_collect_54 (lv_at hl 0 rfl) ?_
                refine o_nald (x := (N3 28) v) C S O 28 (Nat.le_of_ble_eq_true rfl) rfl v rfl (show v < 32 from by omega) (Nat.le_of_ble_eq_true rfl) rfl dX5_collect_56 ?_
                refine lv_iload C.1 C.2.1 dX5_collect_57 (lv_at hl 2 rfl) ?_
                refine q_nee (tgt := 66) C (Nat.lt_trans (hF3 _) (by decide)) (Nat.lt_trans (hL _) (by decide)) dX5_collect_59 (by decide) (fun c59 => ?_) (fun c59 => ?_)
                · refine lv_iconst (v := bI false) C.1 C.2.1 dX5_collect_66 (by decide) ?_
                  refine lv_istore (lv' := [(5, .int (bI false)), (6, .int (nI v)), (4, .int (nI (N 20 (N 7 z)))), (3, .int (nI z)), (2, .int (bI al)), (1, .int (nI q)), (0, .ref h)]) C.1 C.2.1 dX5_collect_67 hl (by decide) rfl (fun ls hl => ?_)
                  refine q_iinc (d := 1) (lv' := [(6, .int (nI (v + 1))), (5, .int (bI false)), (4, .int (nI (N 20 (N 7 z)))), (3, .int (nI z)), (2, .int (bI al)), (1, .int (nI q)), (0, .ref h)]) C dX5_collect_69 hl (k := 1) rfl (by decide) (by decide) rfl (fun ls hl => ?_)
                  refine lv_goto (tgt := 39) C.1 C.2.1 dX5_collect_72 (by decide) ?_
                  exact ih39 (v + 1) false (by omega) (by omega) (by rw [anyb_s, ← Bool.or_assoc, ← hbb, c47, decide_eq_false c59]; rfl) _ (lv_sub hl [0, 1, 2, 3, 4, 5, 6] rfl)
                · refine lv_iconst (v := bI true) C.1 C.2.1 dX5_collect_62 (by decide) ?_
                  refine lv_goto (tgt := 67) C.1 C.2.1 dX5_collect_63 (by decide) ?_
                  refine lv_istore (lv' := [(5, .int (bI true)), (6, .int (nI v)), (4, .int (nI (N 20 (N 7 z)))), (3, .int (nI z)), (2, .int (bI al)), (1, .int (nI q)), (0, .ref h)]) C.1 C.2.1 dX5_collect_67 hl (by decide) rfl (fun ls hl => ?_)
                  refine q_iinc (d := 1) (lv' := [(6, .int (nI (v + 1))), (5, .int (bI true)), (4, .int (nI (N 20 (N 7 z)))), (3, .int (nI z)), (2, .int (bI al)), (1, .int (nI q)), (0, .ref h)]) C dX5_collect_69 hl (k := 1) rfl (by decide) (by decide) rfl (fun ls hl => ?_)
                  refine lv_goto (tgt := 39) C.1 C.2.1 dX5_collect_72 (by decide) ?_
                  exact ih39 (v + 1) true (by omega) (by omega) (by rw [anyb_s, ← Bool.or_assoc, decide_eq_true c59, Bool.or_true]) _ (lv_sub hl [0, 1, 2, 3, 4, 5, 6] rfl)
        exact lp39 (q + 1) 0 ((B 21) (N 20 (N 7 z))) (by omega) (by omega) (by rw [show anyb (fun j => decide (N3 28 j = (N 20 (N 7 z)))) 0 = false from rfl, Bool.or_false]) _ (lv_sub hl [0, 1, 2, 3, 4, 5, 6] rfl)
  exact lp6 (I 9 + 1) 0 0 true N (by omega) (by omega) rfl (up_id N 28).symm rfl (by omega) hF _ _ _ _ S O F (lv_sub hl [0, 1, 2, 3] rfl)
