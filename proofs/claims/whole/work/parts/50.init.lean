set_option maxHeartbeats 4000000 in
set_option maxRecDepth 100000 in
theorem l_initC {l : Launch} {G : fw_G} {A : Nat → Prop} {f0 : fw_F}   {h : Nat}  : Met l yJxa1e45_init_da8c8 wsJxa1e45_init_da8c8 ({ frames := 1, cells := 0, slots := 0, locals := 12 }) (va_Pc [.ref h] (fw_P G A f0)) (va_Qv (fun (f1 : fw_F) => f1 = f0) (fw_B G A) A) 0 0 A := by
  refine q_head rfl (by decide) (Nat.le_of_ble_eq_true rfl) ?_
  intro p e s m below meth c ls C hr hlk hnm P hl
  have S := P.start
  have hl : lv_has ls 1 [(0, .ref h)] := hl
  refine lv_aload_n C.1 C.2.1 dJxa1e45_init_da8c8_0 rfl (lv_at hl 0 rfl) ?_
  refine W.objInit C.1 C.2.1 C.2.2.2.1 (C.2.2.2.2 _ (List.mem_of_getElem? (i := 1) rfl)) (C.2.2.2.2 _ (List.mem_of_getElem? (i := 2) rfl)) (C.2.2.2.2 _ (List.mem_of_getElem? (i := 3) rfl)) rfl (by rw [C.2.2.1]; exact hl.1) rfl dJxa1e45_init_da8c8_1 (Nat.le_of_ble_eq_true rfl) (Nat.le_of_ble_eq_true rfl) ?_
  refine W.eq (g2 := F0 m 4 ls []) rfl ?_
  exact q_retQv C S hr hlk rfl dJxa1e45_init_da8c8_4
theorem inJxc12de_init_da8c8_Jx4a65c : ∀ w ∈ u_ws RJx4a65c TJx4a65c 3, w ∈ wsJxc12de_init_da8c8 := (fun _ h => (List.mem_cons_of_mem _ (List.mem_append_right _ h)))
set_option maxHeartbeats 4000000 in
set_option maxRecDepth 100000 in
theorem l_initL {l : Launch} {G : fw_G} {A : Nat → Prop} {f0 : fw_F}   {b h : Nat} (e0 : f0 h = some (b, eB 0 [.int 0, .null, .int 0]))  : Met l yJxc12de_init_da8c8 wsJxc12de_init_da8c8 ({ frames := 2, cells := 0, slots := 0, locals := 32 }) (va_Pc [.ref h] (fw_P G A f0)) (va_Qv (fun (f1 : fw_F) => f1 h = some (b, eB 0 [.int (nI 0), .null, .int 0]) ∧ fw_fr f0 f1 b (b + 3)) (fw_B G A) A) 0 0 A := by
  refine q_head rfl (by decide) (Nat.le_of_ble_eq_true rfl) ?_
  intro p e s m below meth c ls C hr hlk hnm P hl
  have S := P.start
  have hl : lv_has ls 1 [(0, .ref h)] := hl
  refine lv_aload_n C.1 C.2.1 dJxc12de_init_da8c8_0 rfl (lv_at hl 0 rfl) ?_
  refine q_callIv (As := []) (rest := []) C S hl (l_initC (h := h)) (cwI 0 C.2.2.2.2 gJxc12de_init_da8c8_Jxa1e45_init_da8c8 rfl rfl rfl (C.2.2.2.2 _ (List.mem_of_getElem? (i := 4) rfl)) (C.2.2.2.2 _ (List.mem_of_getElem? (i := 2) rfl)) (C.2.2.2.2 _ (List.mem_of_getElem? (i := 3) rfl)) rfl (by decide +kernel) ⟨Nat.le_of_ble_eq_true rfl, Nat.le_of_ble_eq_true rfl⟩) rfl rfl (Nat.le_of_ble_eq_true rfl) ⟨Nat.le_of_ble_eq_true rfl, Nat.le_of_ble_eq_true rfl⟩ dJxc12de_init_da8c8_1 (fun f H locs hv S => ?_)
  have e0 := (congrFun hv h).trans e0
  refine lv_aload_n C.1 C.2.1 dJxc12de_init_da8c8_4 rfl (lv_at hl 0 rfl) ?_
  refine lv_iconst (v := nI 0) C.1 C.2.1 dJxc12de_init_da8c8_5 (by decide) ?_
  refine q_put (v := .int (nI 0)) C S e0 rfl inJxc12de_init_da8c8_Jx4a65c tyJx4a65c tyJx4a65c_ok nmJx4a65c 0 (by decide) (List.mem_of_getElem? (i := 1) rfl) rfl rfl rfl (Nat.le_of_ble_eq_true rfl) dJxc12de_init_da8c8_6 (fun H locs S => ?_)
  exact q_retQv C S hr hlk ⟨fw_eq _ _ _, fw_fr_up (hv ▸ fw_fr_rf _ _ _) e0 (by omega) (by omega)⟩ dJxc12de_init_da8c8_9
theorem inJx4a65c_init_da8c8_Jx4a65c : ∀ w ∈ u_ws RJx4a65c TJx4a65c 3, w ∈ wsJx4a65c_init_da8c8 := (fun _ h => (List.mem_cons_of_mem _ (List.mem_append_right _ h)))
set_option maxHeartbeats 4000000 in
set_option maxRecDepth 100000 in
theorem l_init {l : Launch} {G : fw_G} {A : Nat → Prop} {f0 : fw_F}   {b h : Nat} (e0 : f0 h = some (b, eB 0 [.int 0, .null, .int 0]))  : Met l yJx4a65c_init_da8c8 wsJx4a65c_init_da8c8 ({ frames := 3, cells := 0, slots := 0, locals := 52 }) (va_Pc [.ref h] (fw_P G A f0)) (va_Qv (fun (f1 : fw_F) => f1 h = some (b, eB 0 [.int (nI 0), .ref G.2.2, .int (nI 0)]) ∧ fw_fr f0 f1 b (b + 3)) (fw_B G A) A) 0 0 A := by
  refine q_head rfl (by decide) (Nat.le_of_ble_eq_true rfl) ?_
  intro p e s m below meth c ls C hr hlk hnm P hl
  have S := P.start
  have hl : lv_has ls 1 [(0, .ref h)] := hl
  refine lv_aload_n C.1 C.2.1 dJx4a65c_init_da8c8_0 rfl (lv_at hl 0 rfl) ?_
  refine q_callIv (As := []) (rest := []) C S hl (l_initL e0) (cwI 0 C.2.2.2.2 gJx4a65c_init_da8c8_Jxc12de_init_da8c8 rfl rfl rfl (C.2.2.2.2 _ (List.mem_of_getElem? (i := 5) rfl)) (C.2.2.2.2 _ (List.mem_of_getElem? (i := 3) rfl)) (C.2.2.2.2 _ (List.mem_of_getElem? (i := 4) rfl)) rfl (by decide +kernel) ⟨Nat.le_of_ble_eq_true rfl, Nat.le_of_ble_eq_true rfl⟩) rfl rfl (Nat.le_of_ble_eq_true rfl) ⟨Nat.le_of_ble_eq_true rfl, Nat.le_of_ble_eq_true rfl⟩ dJx4a65c_init_da8c8_1 (fun f H locs hv S => ?_)
  obtain ⟨e0, F⟩ := hv
  refine lv_aload_n C.1 C.2.1 dJx4a65c_init_da8c8_4 rfl (lv_at hl 0 rfl) ?_
  refine q_gets C S (List.mem_of_getElem? (i := 1) rfl) dJx4a65c_init_da8c8_5 ?_
  refine q_put C S e0 rfl inJx4a65c_init_da8c8_Jx4a65c tyJx4a65c tyJx4a65c_ok nmJx4a65c 1 (by decide) (List.mem_of_getElem? (i := 2) rfl) rfl rfl rfl (Nat.le_of_ble_eq_true rfl) dJx4a65c_init_da8c8_8 (fun H locs S => ?_)
  exact q_retQv C S hr hlk ⟨fw_eq _ _ _, fw_fr_up F e0 (by omega) (by omega)⟩ dJx4a65c_init_da8c8_11
set_option maxHeartbeats 4000000 in
set_option maxRecDepth 100000 in
theorem l_copyN {l : Launch} {G : fw_G} {A : Nat → Prop} {f0 : fw_F}   {q i0 m1 : Nat} {g : Nat → Nat} (e1 : f0 q = some (i0, eN G m1 g)) (lab n : Nat) (hm : m1 ≤ 32) (hn : n ≤ m1)  : Met l yJ7_copyOf_59c91 wsJ7_copyOf_59c91 ({ frames := 1, cells := 1, slots := 32, locals := 40 }) (va_Pc [.ref q, .int (nI n)] (fw_P G A f0)) (fw_Qr G A (fun (x1 : Nat) (f1 : fw_F) => ∃ g2, f1 x1 = some (lab, eN G n g2) ∧ (∀ j, j < n → g2 j = g j) ∧ (∀ j, g2 j = g j ∨ g2 j = 0) ∧ f0 x1 = none ∧ fw_ex f0 f1)) 1 32 A := by
  refine q_head rfl (by decide) (Nat.le_of_ble_eq_true rfl) ?_
  intro p e s m below meth c ls C hr hlk hnm P hl
  have S := P.start
  have hl : lv_has ls 3 [(0, .ref q), (1, .int (nI n))] := hl
  refine lv_iload_n C.1 C.2.1 dJ7_copyOf_59c91_0 rfl (lv_at hl 1 rfl) ?_
  refine lv_aload_n C.1 C.2.1 dJ7_copyOf_59c91_1 rfl (lv_at hl 0 rfl) ?_
  refine va_alen C.1 C.2.1 S.2.2.2.1.1 (fw_one S e1) 0 0 rfl rfl (v := nI m1) rfl dJ7_copyOf_59c91_2 ?_
  refine q_nee (tgt := 14) C (by omega) (by omega) dJ7_copyOf_59c91_3 (by decide) (fun c3 => ?_) (fun c3 => ?_)
  · refine lv_iload_n C.1 C.2.1 dJ7_copyOf_59c91_14 rfl (lv_at hl 1 rfl) ?_
    refine q_newN C S (List.mem_of_getElem? (i := 7) rfl) lab (n := n) (by omega) (Nat.le_of_ble_eq_true rfl) (by show 0 + n ≤ 32; omega) dJ7_copyOf_59c91_15 (fun q1 H hq S => ?_)
    refine W.widen (k := 1) (n := 32) (Nat.le_refl 1) (by omega) ?_
    obtain ⟨f, S, hex, e1, e2⟩ : ∃ f, fw_S G A s f H _ ∧ fw_ex f0 f ∧ f q = some (i0, eN G m1 g) ∧ f q1 = some (lab, eN G n (fun _ => 0)) := ⟨_, S, fun y z hy => fw_new hy hq, fw_new e1 hq, fw_eq _ _ _⟩
    refine lv_astore_n (lv' := [(2, .ref q1), (0, .ref q), (1, .int (nI n))]) C.1 C.2.1 dJ7_copyOf_59c91_17 rfl hl (by decide) rfl (fun ls hl => ?_)
    refine lv_aload_n C.1 C.2.1 dJ7_copyOf_59c91_18 rfl (lv_at hl 1 rfl) ?_
    refine lv_iconst (v := nI 0) C.1 C.2.1 dJ7_copyOf_59c91_19 (by decide) ?_
    refine lv_aload_n C.1 C.2.1 dJ7_copyOf_59c91_20 rfl (lv_at hl 0 rfl) ?_
    refine lv_iconst (v := nI 0) C.1 C.2.1 dJ7_copyOf_59c91_21 (by decide) ?_
    refine lv_aload_n C.1 C.2.1 dJ7_copyOf_59c91_22 rfl (lv_at hl 1 rfl) ?_
    refine va_alen C.1 C.2.1 S.2.2.2.1.1 (fw_one S e1) 0 0 rfl rfl (v := nI m1) rfl dJ7_copyOf_59c91_23 ?_
    refine lv_iload_n C.1 C.2.1 dJ7_copyOf_59c91_24 rfl (lv_at hl 2 rfl) ?_
    refine va_mmin C.1 C.2.1 (C.2.2.1.trans hl.1.symm) C.2.2.2.1 (C.2.2.2.2 _ (List.mem_of_getElem? (i := 8) rfl)) (C.2.2.2.2 _ (List.mem_of_getElem? (i := 9) rfl)) (C.2.2.2.2 _ (List.mem_of_getElem? (i := 10) rfl)) (C.2.2.2.2 _ (List.mem_of_getElem? (i := 11) rfl)) (Nat.le_of_ble_eq_true rfl) (Nat.le_of_ble_eq_true rfl) (Nat.le_of_ble_eq_true rfl) (Nat.le_of_ble_eq_true rfl) dJ7_copyOf_59c91_25 ?_
    rw [q_mn (by omega) (by omega)]
    refine q_copyN C S hl.1 (List.mem_of_getElem? (i := 12) rfl) (List.mem_of_getElem? (i := 13) rfl) (List.mem_of_getElem? (i := 14) rfl) (List.mem_of_getElem? (i := 15) rfl) (n := (min m1 n)) e1 e2 (by omega) (by omega) (by omega) (Nat.le_of_ble_eq_true rfl) (Nat.le_of_ble_eq_true rfl) dJ7_copyOf_59c91_28 (fun H locs S => ?_)
    obtain ⟨f, S, hex, e2⟩ : ∃ f, fw_S G A s f H locs ∧ fw_ex f0 f ∧ f q1 = some (lab, eN G n (va_cpy g (fun _ => 0) 0 0 (min m1 n))) := ⟨_, S, fun y z hy => (fw_ne (fun e => by subst e; rw [hq] at hy; cases hy)).trans (hex y z hy), fw_eq _ _ _⟩
    refine lv_aload_n C.1 C.2.1 dJ7_copyOf_59c91_31 rfl (lv_at hl 0 rfl) ?_
    exact q_retQr C S hr (Or.inr ⟨_, rfl⟩) hlk ⟨_, e2, fun j hj => (by first | (rw [pk_cpy_in (Nat.zero_le j) (by omega)]; congr 1; omega) | (by_cases hj2 : j < m1; rw [pk_cpy_in (Nat.zero_le j) (by omega)]; congr 1; omega; exact absurd hle (by omega))), fun j => (by unfold va_cpy; split; exact Or.inl (congrArg g (by omega)); exact Or.inr rfl), hq, hex⟩ dJ7_copyOf_59c91_32
  · refine lv_aload_n C.1 C.2.1 dJ7_copyOf_59c91_6 rfl (lv_at hl 0 rfl) ?_
    refine q_cloneN C S hl.1 (List.mem_of_getElem? (i := 1) rfl) (List.mem_of_getElem? (i := 2) rfl) (List.mem_of_getElem? (i := 3) rfl) (List.mem_of_getElem? (i := 4) rfl) (List.mem_of_getElem? (i := 5) rfl) e1 lab (Nat.le_of_ble_eq_true rfl) (Nat.le_of_ble_eq_true rfl) (Nat.le_of_ble_eq_true rfl) (by show 0 + m1 ≤ 32; omega) dJ7_copyOf_59c91_7 (fun q1 H hq S => ?_)
    refine W.widen (k := 1) (n := 32) (Nat.le_refl 1) (by omega) ?_
    have e2 := fw_eq f0 q1 (lab, eN G m1 g)
    have hex : fw_ex f0 (fw_up f0 q1 (lab, eN G m1 g)) := fun y z hy => fw_new hy hq
    refine q_castN C S (List.mem_of_getElem? (i := 6) rfl) e2 dJ7_copyOf_59c91_10 ?_
    exact q_retQr C S hr (Or.inr ⟨_, rfl⟩) hlk ⟨g, c3 ▸ e2, fun _ _ => rfl, fun _ => Or.inl rfl, hq, hex⟩ dJ7_copyOf_59c91_13
set_option maxHeartbeats 4000000 in
set_option maxRecDepth 100000 in
theorem l_copyJ {l : Launch} {G : fw_G} {A : Nat → Prop} {f0 : fw_F}   {q i0 m1 : Nat} {g : Nat → Int64} (e1 : f0 q = some (i0, eJ G m1 g)) (lab n : Nat) (hm : m1 ≤ 32) (hn : n ≤ m1)  : Met l yJ7_copyOf_c38d5 wsJ7_copyOf_c38d5 ({ frames := 1, cells := 1, slots := 32, locals := 40 }) (va_Pc [.ref q, .int (nI n)] (fw_P G A f0)) (fw_Qr G A (fun (x1 : Nat) (f1 : fw_F) => ∃ g2, f1 x1 = some (lab, eJ G n g2) ∧ (∀ j, j < n → g2 j = g j) ∧ (∀ j, g2 j = g j ∨ g2 j = 0) ∧ f0 x1 = none ∧ fw_ex f0 f1)) 1 32 A := by
  refine q_head rfl (by decide) (Nat.le_of_ble_eq_true rfl) ?_
  intro p e s m below meth c ls C hr hlk hnm P hl
  have S := P.start
  have hl : lv_has ls 3 [(0, .ref q), (1, .int (nI n))] := hl
  refine lv_iload_n C.1 C.2.1 dJ7_copyOf_c38d5_0 rfl (lv_at hl 1 rfl) ?_
  refine lv_aload_n C.1 C.2.1 dJ7_copyOf_c38d5_1 rfl (lv_at hl 0 rfl) ?_
  refine va_alen C.1 C.2.1 S.2.2.2.1.1 (fw_one S e1) 0 1 rfl rfl (v := nI m1) rfl dJ7_copyOf_c38d5_2 ?_
  refine q_nee (tgt := 14) C (by omega) (by omega) dJ7_copyOf_c38d5_3 (by decide) (fun c3 => ?_) (fun c3 => ?_)
  · refine lv_iload_n C.1 C.2.1 dJ7_copyOf_c38d5_14 rfl (lv_at hl 1 rfl) ?_
    refine q_newJ C S (List.mem_of_getElem? (i := 7) rfl) lab (n := n) (by omega) (Nat.le_of_ble_eq_true rfl) (by show 0 + n ≤ 32; omega) dJ7_copyOf_c38d5_15 (fun q1 H hq S => ?_)
    refine W.widen (k := 1) (n := 32) (Nat.le_refl 1) (by omega) ?_
    obtain ⟨f, S, hex, e1, e2⟩ : ∃ f, fw_S G A s f H _ ∧ fw_ex f0 f ∧ f q = some (i0, eJ G m1 g) ∧ f q1 = some (lab, eJ G n (fun _ => 0)) := ⟨_, S, fun y z hy => fw_new hy hq, fw_new e1 hq, fw_eq _ _ _⟩
    refine lv_astore_n (lv' := [(2, .ref q1), (0, .ref q), (1, .int (nI n))]) C.1 C.2.1 dJ7_copyOf_c38d5_17 rfl hl (by decide) rfl (fun ls hl => ?_)
    refine lv_aload_n C.1 C.2.1 dJ7_copyOf_c38d5_18 rfl (lv_at hl 1 rfl) ?_
    refine lv_iconst (v := nI 0) C.1 C.2.1 dJ7_copyOf_c38d5_19 (by decide) ?_
    refine lv_aload_n C.1 C.2.1 dJ7_copyOf_c38d5_20 rfl (lv_at hl 0 rfl) ?_
    refine lv_iconst (v := nI 0) C.1 C.2.1 dJ7_copyOf_c38d5_21 (by decide) ?_
    refine lv_aload_n C.1 C.2.1 dJ7_copyOf_c38d5_22 rfl (lv_at hl 1 rfl) ?_
    refine va_alen C.1 C.2.1 S.2.2.2.1.1 (fw_one S e1) 0 1 rfl rfl (v := nI m1) rfl dJ7_copyOf_c38d5_23 ?_
    refine lv_iload_n C.1 C.2.1 dJ7_copyOf_c38d5_24 rfl (lv_at hl 2 rfl) ?_
    refine va_mmin C.1 C.2.1 (C.2.2.1.trans hl.1.symm) C.2.2.2.1 (C.2.2.2.2 _ (List.mem_of_getElem? (i := 8) rfl)) (C.2.2.2.2 _ (List.mem_of_getElem? (i := 9) rfl)) (C.2.2.2.2 _ (List.mem_of_getElem? (i := 10) rfl)) (C.2.2.2.2 _ (List.mem_of_getElem? (i := 11) rfl)) (Nat.le_of_ble_eq_true rfl) (Nat.le_of_ble_eq_true rfl) (Nat.le_of_ble_eq_true rfl) (Nat.le_of_ble_eq_true rfl) dJ7_copyOf_c38d5_25 ?_
    rw [q_mn (by omega) (by omega)]
    refine q_copyJ C S hl.1 (List.mem_of_getElem? (i := 12) rfl) (List.mem_of_getElem? (i := 13) rfl) (List.mem_of_getElem? (i := 14) rfl) (List.mem_of_getElem? (i := 15) rfl) (n := (min m1 n)) e1 e2 (by omega) (by omega) (by omega) (Nat.le_of_ble_eq_true rfl) (Nat.le_of_ble_eq_true rfl) dJ7_copyOf_c38d5_28 (fun H locs S => ?_)
    obtain ⟨f, S, hex, e2⟩ : ∃ f, fw_S G A s f H locs ∧ fw_ex f0 f ∧ f q1 = some (lab, eJ G n (va_cpy g (fun _ => 0) 0 0 (min m1 n))) := ⟨_, S, fun y z hy => (fw_ne (fun e => by subst e; rw [hq] at hy; cases hy)).trans (hex y z hy), fw_eq _ _ _⟩
    refine lv_aload_n C.1 C.2.1 dJ7_copyOf_c38d5_31 rfl (lv_at hl 0 rfl) ?_
    exact q_retQr C S hr (Or.inr ⟨_, rfl⟩) hlk ⟨_, e2, fun j hj => (by first | (rw [pk_cpy_in (Nat.zero_le j) (by omega)]; congr 1; omega) | (by_cases hj2 : j < m1; rw [pk_cpy_in (Nat.zero_le j) (by omega)]; congr 1; omega; exact absurd hle (by omega))), fun j => (by unfold va_cpy; split; exact Or.inl (congrArg g (by omega)); exact Or.inr rfl), hq, hex⟩ dJ7_copyOf_c38d5_32
  · refine lv_aload_n C.1 C.2.1 dJ7_copyOf_c38d5_6 rfl (lv_at hl 0 rfl) ?_
    refine q_cloneJ C S hl.1 (List.mem_of_getElem? (i := 1) rfl) (List.mem_of_getElem? (i := 2) rfl) (List.mem_of_getElem? (i := 3) rfl) (List.mem_of_getElem? (i := 4) rfl) (List.mem_of_getElem? (i := 5) rfl) e1 lab (Nat.le_of_ble_eq_true rfl) (Nat.le_of_ble_eq_true rfl) (Nat.le_of_ble_eq_true rfl) (by show 0 + m1 ≤ 32; omega) dJ7_copyOf_c38d5_7 (fun q1 H hq S => ?_)
    refine W.widen (k := 1) (n := 32) (Nat.le_refl 1) (by omega) ?_
    have e2 := fw_eq f0 q1 (lab, eJ G m1 g)
    have hex : fw_ex f0 (fw_up f0 q1 (lab, eJ G m1 g)) := fun y z hy => fw_new hy hq
    refine q_castJ C S (List.mem_of_getElem? (i := 6) rfl) e2 dJ7_copyOf_c38d5_10 ?_
    exact q_retQr C S hr (Or.inr ⟨_, rfl⟩) hlk ⟨g, c3 ▸ e2, fun _ _ => rfl, fun _ => Or.inl rfl, hq, hex⟩ dJ7_copyOf_c38d5_13
theorem inX0_init_X0 : ∀ w ∈ u_ws RX0 TX0 4, w ∈ wsX0_init := (fun _ h => (List.mem_cons_of_mem _ (List.mem_append_left _ (List.mem_append_right _ h))))
theorem inX0_init_X2 : ∀ w ∈ u_ws RX2 TX2 3, w ∈ wsX0_init := (fun _ h => (List.mem_cons_of_mem _ (List.mem_append_right _ h)))
theorem lkX0_init_25 : Cond.fieldLink RX0 25 (TX2 0).1 (TX2 0).2.1 (TX2 0).2.2.1 ∈ wsX0_init := List.mem_of_getElem? (i := 6) rfl
set_option maxHeartbeats 4000000 in
set_option maxRecDepth 100000 in
theorem c_K_init {l : Launch} {G : fw_G} {A : Nat → Prop} {f0 : fw_F} {br hro : Nat} {ar : Nat → Nat} {Ir : Nat → Nat} {Nr : Nat → Nat → Nat} {Br : Nat → Nat → Bool} {Jr : Nat → Nat → Int64} (Or : isO G dR f0 br hro ar Ir Nr Br Jr) {b h : Nat} (kd : Nat) (kk : Int64) (hO : f0 h = some (b, eB 1 [.int 0, .null, .long 0, .null])) (hd : br + 4 ≤ b ∨ b + 5 ≤ br) (hw : Ir 0 ≤ 32) (hP : ∀ i, Nr 1 i < 64)  : Met l yX0_init wsX0_init ({ frames := 2, cells := 2, slots := 64, locals := 62 }) (va_Pc [.ref h, .int (nI kd), .long kk, .ref hro] (fw_P G A f0)) (va_Qv (fun (f1 : fw_F) => ∃ a N J, isO G (dK (Ir 0)) f1 b h a (fun _ => kd) N (fun _ _ => false) J ∧ (∀ i, i < Ir 0 → N 1 i = Nr 1 i) ∧ (∀ i, N 1 i < 64) ∧ J 2 0 = kk ∧ (∀ i, i < Ir 0 → J 3 i = Jr 2 i) ∧ fw_fr f0 f1 b (b + 5)) (fw_B G A) A) 2 64 A := by
  refine q_head rfl (by decide) (Nat.le_of_ble_eq_true rfl) ?_
  intro p e s m below meth c ls C hr hlk hnm P hl
  have S := P.start
  have hl : lv_has ls 5 [(0, .ref h), (1, .int (nI kd)), (2, .long kk), (4, .ref hro)] := hl
  have F := fw_fr_rf f0 b (b + 5)
  have Q0 : pA f0 b h 1 [.int 0, .null, .long 0, .null] [] := ⟨hO, fun x hx => absurd hx List.not_mem_nil⟩
  refine lv_aload_n C.1 C.2.1 dX0_init_0 rfl (lv_at hl 0 rfl) ?_
  refine W.objInit C.1 C.2.1 C.2.2.2.1 (C.2.2.2.2 _ (List.mem_of_getElem? (i := 1) rfl)) (C.2.2.2.2 _ (List.mem_of_getElem? (i := 2) rfl)) (C.2.2.2.2 _ (List.mem_of_getElem? (i := 3) rfl)) rfl (by rw [C.2.2.1]; exact hl.1) rfl dX0_init_1 (Nat.le_of_ble_eq_true rfl) (Nat.le_of_ble_eq_true rfl) ?_
  refine W.eq (g2 := F0 m 4 ls []) rfl ?_
  refine lv_aload_n C.1 C.2.1 dX0_init_4 rfl (lv_at hl 0 rfl) ?_
  refine lv_iload_n C.1 C.2.1 dX0_init_5 rfl (lv_at hl 1 rfl) ?_
  refine q_putF (v := .int (nI kd)) C S Q0.1 rfl inX0_init_X0 tyX0 tyX0_ok nmX0 0 (by decide) (List.mem_of_getElem? (i := 4) rfl) rfl hnm rfl rfl rfl (Nat.le_of_ble_eq_true rfl) dX0_init_6 (fun H locs S => ?_)
  obtain ⟨f, S, Q0, F⟩ : ∃ f, fw_S G A s f H locs ∧ pA f b h 1 [.int (nI kd), .null, .long 0, .null] [] ∧ fw_fr f0 f b (b + 5) := ⟨_, S, pA_put Q0, fw_fr_up F Q0.1 (by omega) (by omega)⟩
  refine lv_aload_n C.1 C.2.1 dX0_init_9 rfl (lv_at hl 0 rfl) ?_
  refine lv_lload_n C.1 C.2.1 dX0_init_10 rfl (lv_at hl 2 rfl) ?_
  refine q_putF (v := .long kk) C S Q0.1 rfl inX0_init_X0 tyX0 tyX0_ok nmX0 2 (by decide) (List.mem_of_getElem? (i := 5) rfl) rfl hnm rfl rfl rfl (Nat.le_of_ble_eq_true rfl) dX0_init_11 (fun H locs S => ?_)
  obtain ⟨f, S, Q0, F⟩ : ∃ f, fw_S G A s f H locs ∧ pA f b h 1 [.int (nI kd), .null, .long kk, .null] [] ∧ fw_fr f0 f b (b + 5) := ⟨_, S, pA_put Q0, fw_fr_up F Q0.1 (by omega) (by omega)⟩
  refine lv_aload_n C.1 C.2.1 dX0_init_14 rfl (lv_at hl 0 rfl) ?_
  refine lv_aload C.1 C.2.1 dX0_init_15 (lv_at hl 3 rfl) ?_
  refine o_getN (v := .ref (ar 1)) C S (o_fr Or F hd) rfl inX0_init_X2 1 (Nat.le_of_ble_eq_true rfl) S.2.2.2.1.2.1.1 rfl dX0_init_17 ?_
  refine lv_aload C.1 C.2.1 dX0_init_20 (lv_at hl 3 rfl) ?_
  refine o_get (v := .int (nI (Ir 0))) C S (o_fr Or F hd) rfl inX0_init_X2 0 (Nat.le_of_ble_eq_true rfl) lkX0_init_25 rfl dX0_init_22 ?_
  refine q_callSQr (As := [.ref (ar 1), .int (nI (Ir 0))]) (rest := [.ref h]) C S hl (l_copyN (((o_fr Or F hd).2 1 (Nat.le_of_ble_eq_true rfl)).1 rfl) (b + 1 + 1) (Ir 0) (Nat.le_refl 32) hw) (va_cwS 2 C.2.2.2.2 gX0_init_J7_copyOf_59c91 rfl rfl rfl (by decide +kernel) ⟨Nat.le_of_ble_eq_true rfl, Nat.le_of_ble_eq_true rfl⟩) rfl rfl (Nat.le_of_ble_eq_true rfl) ⟨Nat.le_of_ble_eq_true rfl, Nat.le_of_ble_eq_true rfl⟩ dX0_init_25 (fun x f H locs hv S => ?_)
  obtain ⟨g1, e2, hg1, hz1, hq, hex⟩ := hv
  obtain ⟨q1, rfl⟩ : ∃ z, z = x := ⟨x, rfl⟩
  obtain ⟨S, Q0, F⟩ : fw_S G A s f H locs ∧ pA f b h 1 [.int (nI kd), .null, .long kk, .null] [(b + 1 + 1, q1, eN G (Ir 0) g1)] ∧ fw_fr f0 f b (b + 5) := ⟨S, ⟨hex _ _ Q0.1, fun y hy => by rcases List.mem_cons.mp hy with rfl | hy; exact ⟨by show b + 1 + 1 ≠ b; omega, e2⟩; exact ⟨(Q0.2 y hy).1, hex _ _ (Q0.2 y hy).2⟩⟩, fun y j z hy hj => hex _ _ (F y j z hy hj)⟩
  refine q_putF (v := .ref q1) C S Q0.1 rfl inX0_init_X0 tyX0 tyX0_ok nmX0 1 (by decide) (List.mem_of_getElem? (i := 7) rfl) rfl hnm rfl rfl rfl (Nat.le_of_ble_eq_true rfl) dX0_init_28 (fun H locs S => ?_)
  obtain ⟨f, S, Q0, F⟩ : ∃ f, fw_S G A s f H locs ∧ pA f b h 1 [.int (nI kd), .ref q1, .long kk, .null] [(b + 1 + 1, q1, eN G (Ir 0) g1)] ∧ fw_fr f0 f b (b + 5) := ⟨_, S, pA_put Q0, fw_fr_up F Q0.1 (by omega) (by omega)⟩
  refine lv_aload_n C.1 C.2.1 dX0_init_31 rfl (lv_at hl 0 rfl) ?_
  refine lv_aload C.1 C.2.1 dX0_init_32 (lv_at hl 3 rfl) ?_
  refine o_getN (v := .ref (ar 2)) C S (o_fr Or F hd) rfl inX0_init_X2 2 (Nat.le_of_ble_eq_true rfl) S.2.2.2.1.2.1.2.1 rfl dX0_init_34 ?_
  refine lv_aload C.1 C.2.1 dX0_init_37 (lv_at hl 3 rfl) ?_
  refine o_get (v := .int (nI (Ir 0))) C S (o_fr Or F hd) rfl inX0_init_X2 0 (Nat.le_of_ble_eq_true rfl) lkX0_init_25 rfl dX0_init_39 ?_
  refine q_callSQr (As := [.ref (ar 2), .int (nI (Ir 0))]) (rest := [.ref h]) C S hl (l_copyJ (((o_fr Or F hd).2 2 (Nat.le_of_ble_eq_true rfl)).2.2.1 rfl) (b + 1 + 3) (Ir 0) (Nat.le_refl 32) hw) (va_cwS 2 C.2.2.2.2 gX0_init_J7_copyOf_c38d5 rfl rfl rfl (by decide +kernel) ⟨Nat.le_of_ble_eq_true rfl, Nat.le_of_ble_eq_true rfl⟩) rfl rfl (Nat.le_of_ble_eq_true rfl) ⟨Nat.le_of_ble_eq_true rfl, Nat.le_of_ble_eq_true rfl⟩ dX0_init_42 (fun x f H locs hv S => ?_)
  obtain ⟨g3, e2, hg3, hz3, hq, hex⟩ := hv
  obtain ⟨q3, rfl⟩ : ∃ z, z = x := ⟨x, rfl⟩
  obtain ⟨S, Q0, F⟩ : fw_S G A s f H locs ∧ pA f b h 1 [.int (nI kd), .ref q1, .long kk, .null] [(b + 1 + 3, q3, eJ G (Ir 0) g3), (b + 1 + 1, q1, eN G (Ir 0) g1)] ∧ fw_fr f0 f b (b + 5) := ⟨S, ⟨hex _ _ Q0.1, fun y hy => by rcases List.mem_cons.mp hy with rfl | hy; exact ⟨by show b + 1 + 3 ≠ b; omega, e2⟩; exact ⟨(Q0.2 y hy).1, hex _ _ (Q0.2 y hy).2⟩⟩, fun y j z hy hj => hex _ _ (F y j z hy hj)⟩
  refine q_putF (v := .ref q3) C S Q0.1 rfl inX0_init_X0 tyX0 tyX0_ok nmX0 3 (by decide) (List.mem_of_getElem? (i := 8) rfl) rfl hnm rfl rfl rfl (Nat.le_of_ble_eq_true rfl) dX0_init_45 (fun H locs S => ?_)
  obtain ⟨f, S, Q0, F⟩ : ∃ f, fw_S G A s f H locs ∧ pA f b h 1 [.int (nI kd), .ref q1, .long kk, .ref q3] [(b + 1 + 3, q3, eJ G (Ir 0) g3), (b + 1 + 1, q1, eN G (Ir 0) g1)] ∧ fw_fr f0 f b (b + 5) := ⟨_, S, pA_put Q0, fw_fr_up F Q0.1 (by omega) (by omega)⟩
  exact q_retQv C S hr hlk ⟨(va_up (va_up (fun _ => 0) 1 q1) 3 q3), va_up (fun _ _ => 0) 1 g1, va_up (va_up (fun _ _ => 0) 2 (fun _ => kk)) 3 g3, ⟨Q0.1, fun k hk => match k, hk with | 0, _ => ⟨fun q => absurd q (show ¬ (0 : Nat) = 1 by decide), fun q => absurd q (show ¬ (0 : Nat) = 2 by decide), fun q => absurd q (show ¬ (0 : Nat) = 3 by decide), fun q => absurd q (show ¬ (0 : Nat) = 5 by decide)⟩ | 1, _ => ⟨fun _ => pA_at Q0 1 rfl, fun q => absurd q (show ¬ (1 : Nat) = 2 by decide), fun q => absurd q (show ¬ (1 : Nat) = 3 by decide), fun q => absurd q (show ¬ (1 : Nat) = 5 by decide)⟩ | 2, _ => ⟨fun q => absurd q (show ¬ (6 : Nat) = 1 by decide), fun q => absurd q (show ¬ (6 : Nat) = 2 by decide), fun q => absurd q (show ¬ (6 : Nat) = 3 by decide), fun q => absurd q (show ¬ (6 : Nat) = 5 by decide)⟩ | 3, _ => ⟨fun q => absurd q (show ¬ (3 : Nat) = 1 by decide), fun q => absurd q (show ¬ (3 : Nat) = 2 by decide), fun _ => pA_at Q0 0 rfl, fun q => absurd q (show ¬ (3 : Nat) = 5 by decide)⟩ | n + 4, hk => absurd hk (Nat.not_lt.mpr (Nat.le_add_left _ _))⟩, hg1, fun i => (by show g1 i < 64; rcases hz1 i with z | z; rw [z]; exact hP i; rw [z]; decide), rfl, hg3, F⟩ dX0_init_48
