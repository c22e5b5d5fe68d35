set_option maxHeartbeats 4000000 in
set_option maxRecDepth 100000 in
theorem l_check3 {l : Launch} {G : fw_G} {A : Nat → Prop} {f0 : fw_F}   (i n : Nat) (hi : i < n) (hn : n < 2 ^ 31)  : Met l yJ3_checkIndex_8e157 wsJ3_checkIndex_8e157 ({ frames := 0, cells := 0, slots := 0, locals := 0 }) (va_Pc [.int (nI i), .int (nI n), .null] (fw_P G A f0)) (vp_Si (fun (r : Int32) => r = nI i)) 0 0 (fun _ => False) := by
  refine q_head rfl (by decide) (Nat.le_of_ble_eq_true rfl) ?_
  intro p e s m below meth c ls C hr hlk hnm P hl
  have S := P.start
  have hl : lv_has ls 3 [(0, .int (nI i)), (1, .int (nI n)), (2, .null)] := hl
  refine lv_iload_n C.1 C.2.1 dJ3_checkIndex_8e157_0 rfl (lv_at hl 0 rfl) ?_
  refine lv_if_lt (tgt := 9) C.1 C.2.1 dJ3_checkIndex_8e157_1 (by decide) (fun c1 => ?_) (fun c1 => ?_)
  · exact absurd c1 (nI_pos (by omega))
  · refine lv_iload_n C.1 C.2.1 dJ3_checkIndex_8e157_4 rfl (lv_at hl 0 rfl) ?_
    refine lv_iload_n C.1 C.2.1 dJ3_checkIndex_8e157_5 rfl (lv_at hl 1 rfl) ?_
    refine q_lt (tgt := 16) C (by omega) (by omega) dJ3_checkIndex_8e157_6 (by decide) (fun c6 => ?_) (fun c6 => ?_)
    · refine lv_iload_n C.1 C.2.1 dJ3_checkIndex_8e157_16 rfl (lv_at hl 0 rfl) ?_
      exact q_retSi C hr hlk rfl dJ3_checkIndex_8e157_17
    · exact absurd c6 (by omega)
set_option maxHeartbeats 4000000 in
set_option maxRecDepth 100000 in
theorem l_check {l : Launch} {G : fw_G} {A : Nat → Prop} {f0 : fw_F}   (i n : Nat) (hi : i < n) (hn : n < 2 ^ 31)  : Met l yJ15_checkIndex_7cf53 wsJ15_checkIndex_7cf53 ({ frames := 1, cells := 0, slots := 0, locals := 22 }) (va_Pc [.int (nI i), .int (nI n)] (fw_P G A f0)) (vp_Si (fun (r : Int32) => r = nI i)) 0 0 (fun _ => False) := by
  refine q_head rfl (by decide) (Nat.le_of_ble_eq_true rfl) ?_
  intro p e s m below meth c ls C hr hlk hnm P hl
  have S := P.start
  have hl : lv_has ls 2 [(0, .int (nI i)), (1, .int (nI n))] := hl
  refine lv_iload_n C.1 C.2.1 dJ15_checkIndex_7cf53_0 rfl (lv_at hl 0 rfl) ?_
  refine lv_iload_n C.1 C.2.1 dJ15_checkIndex_7cf53_1 rfl (lv_at hl 1 rfl) ?_
  refine lv_null C.1 C.2.1 dJ15_checkIndex_7cf53_2 ?_
  refine q_callSSi (As := [.int (nI i), .int (nI n), .null]) (rest := []) C S hl (l_check3 i n hi hn) (va_cwS 3 C.2.2.2.2 gJ15_checkIndex_7cf53_J3_checkIndex_8e157 rfl rfl rfl (by decide +kernel) ⟨Nat.le_of_ble_eq_true rfl, Nat.le_of_ble_eq_true rfl⟩) rfl rfl (Nat.le_of_ble_eq_true rfl) ⟨Nat.le_of_ble_eq_true rfl, Nat.le_of_ble_eq_true rfl⟩ dJ15_checkIndex_7cf53_3 (fun v hv => ?_)
  subst hv
  exact q_retSi C hr hlk rfl dJ15_checkIndex_7cf53_6
theorem inJx4a65c_size_8abf5_Jx4a65c : ∀ w ∈ u_ws RJx4a65c TJx4a65c 3, w ∈ wsJx4a65c_size_8abf5 := (fun _ h => (List.mem_cons_of_mem _ (List.mem_append_right _ h)))
set_option maxHeartbeats 4000000 in
set_option maxRecDepth 100000 in
theorem l_size {l : Launch} {G : fw_G} {A : Nat → Prop} {f0 : fw_F}   {b h q md sz : Nat} (e0 : f0 h = some (b, eB 0 [.int (nI md), .ref q, .int (nI sz)]))   : Met l yJx4a65c_size_8abf5 wsJx4a65c_size_8abf5 ({ frames := 0, cells := 0, slots := 0, locals := 0 }) (va_Pc [.ref h] (fw_P G A f0)) (vp_Si (fun (r : Int32) => r = nI sz)) 0 0 (fun _ => False) := by
  refine q_head rfl (by decide) (Nat.le_of_ble_eq_true rfl) ?_
  intro p e s m below meth c ls C hr hlk hnm P hl
  have S := P.start
  have hl : lv_has ls 1 [(0, .ref h)] := hl
  refine lv_aload_n C.1 C.2.1 dJx4a65c_size_8abf5_0 rfl (lv_at hl 0 rfl) ?_
  refine q_get C S e0 rfl inJx4a65c_size_8abf5_Jx4a65c 2 (by decide) (List.mem_of_getElem? (i := 1) rfl) rfl dJx4a65c_size_8abf5_1 ?_
  exact q_retSi C hr hlk rfl dJx4a65c_size_8abf5_4
theorem inJx4a65c_elementData_915e3_Jx4a65c : ∀ w ∈ u_ws RJx4a65c TJx4a65c 3, w ∈ wsJx4a65c_elementData_915e3 := (fun _ h => (List.mem_cons_of_mem _ (List.mem_append_right _ h)))
set_option maxHeartbeats 4000000 in
set_option maxRecDepth 100000 in
theorem l_elementData {l : Launch} {G : fw_G} {A : Nat → Prop} {f0 : fw_F}   {b h q md sz : Nat} (e0 : f0 h = some (b, eB 0 [.int (nI md), .ref q, .int (nI sz)])) {cap : Nat} {g : Nat → Option Nat} (e1 : f0 q = some (b + 2, eO G cap g)) {x : Nat} (i : Nat) (hi : i < cap) (hcap : cap < 2 ^ 31) (hx : g i = some x)  : Met l yJx4a65c_elementData_915e3 wsJx4a65c_elementData_915e3 ({ frames := 0, cells := 0, slots := 0, locals := 0 }) (va_Pc [.ref h, .int (nI i)] (fw_P G A f0)) (va_Sq (fun (r : Option Nat) => r = some x)) 0 0 (fun _ => False) := by
  refine q_head rfl (by decide) (Nat.le_of_ble_eq_true rfl) ?_
  intro p e s m below meth c ls C hr hlk hnm P hl
  have S := P.start
  have hl : lv_has ls 2 [(0, .ref h), (1, .int (nI i))] := hl
  refine lv_aload_n C.1 C.2.1 dJx4a65c_elementData_915e3_0 rfl (lv_at hl 0 rfl) ?_
  refine q_get C S e0 rfl inJx4a65c_elementData_915e3_Jx4a65c 1 (by decide) (List.mem_of_getElem? (i := 1) rfl) rfl dJx4a65c_elementData_915e3_1 ?_
  refine lv_iload_n C.1 C.2.1 dJx4a65c_elementData_915e3_4 rfl (lv_at hl 1 rfl) ?_
  refine q_oald C S e1 (k := i) (x := x) (by omega) (by omega) hx dJx4a65c_elementData_915e3_5 ?_
  exact q_retSq C hr (Or.inl ⟨_, rfl⟩) hlk rfl dJx4a65c_elementData_915e3_6
theorem inJx4a65c_get_915e3_Jx4a65c : ∀ w ∈ u_ws RJx4a65c TJx4a65c 3, w ∈ wsJx4a65c_get_915e3 := (fun _ h => (List.mem_cons_of_mem _ (List.mem_append_right _ h)))
set_option maxHeartbeats 4000000 in
set_option maxRecDepth 100000 in
theorem l_get {l : Launch} {G : fw_G} {A : Nat → Prop} {f0 : fw_F}   {b h q md sz : Nat} (e0 : f0 h = some (b, eB 0 [.int (nI md), .ref q, .int (nI sz)])) {cap : Nat} {g : Nat → Option Nat} (e1 : f0 q = some (b + 2, eO G cap g)) {x : Nat} (i : Nat) (hi : i < sz) (hsz : sz ≤ cap) (hcap : cap < 2 ^ 31) (hx : g i = some x)  : Met l yJx4a65c_get_915e3 wsJx4a65c_get_915e3 ({ frames := 2, cells := 0, slots := 0, locals := 43 }) (va_Pc [.ref h, .int (nI i)] (fw_P G A f0)) (va_Sq (fun (r : Option Nat) => r = some x)) 0 0 (fun _ => False) := by
  refine q_head rfl (by decide) (Nat.le_of_ble_eq_true rfl) ?_
  intro p e s m below meth c ls C hr hlk hnm P hl
  have S := P.start
  have hl : lv_has ls 2 [(0, .ref h), (1, .int (nI i))] := hl
  refine lv_iload_n C.1 C.2.1 dJx4a65c_get_915e3_0 rfl (lv_at hl 1 rfl) ?_
  refine lv_aload_n C.1 C.2.1 dJx4a65c_get_915e3_1 rfl (lv_at hl 0 rfl) ?_
  refine q_get C S e0 rfl inJx4a65c_get_915e3_Jx4a65c 2 (by decide) (List.mem_of_getElem? (i := 1) rfl) rfl dJx4a65c_get_915e3_2 ?_
  refine q_callSSi (As := [.int (nI i), .int (nI sz)]) (rest := []) C S hl (l_check i sz hi (by omega)) (va_cwS 2 C.2.2.2.2 gJx4a65c_get_915e3_J15_checkIndex_7cf53 rfl rfl rfl (by decide +kernel) ⟨Nat.le_of_ble_eq_true rfl, Nat.le_of_ble_eq_true rfl⟩) rfl rfl (Nat.le_of_ble_eq_true rfl) ⟨Nat.le_of_ble_eq_true rfl, Nat.le_of_ble_eq_true rfl⟩ dJx4a65c_get_915e3_5 (fun v hv => ?_)
  subst hv
  refine lv_pop C.1 C.2.1 dJx4a65c_get_915e3_8 rfl ?_
  refine lv_aload_n C.1 C.2.1 dJx4a65c_get_915e3_9 rfl (lv_at hl 0 rfl) ?_
  refine lv_iload_n C.1 C.2.1 dJx4a65c_get_915e3_10 rfl (lv_at hl 1 rfl) ?_
  refine q_callSq (As := [.int (nI i)]) (rest := []) C S hl e0 rfl (l_elementData e0 e1 i (by omega) hcap hx) (cwV 1 C.2.2.2.2 gJx4a65c_get_915e3_Jx4a65c_elementData_915e3 rfl rfl rfl (by decide +kernel) ⟨Nat.le_of_ble_eq_true rfl, Nat.le_of_ble_eq_true rfl⟩) rfl rfl (Nat.le_of_ble_eq_true rfl) ⟨Nat.le_of_ble_eq_true rfl, Nat.le_of_ble_eq_true rfl⟩ dJx4a65c_get_915e3_11 (fun v hv => ?_)
  subst hv
  show W _ _ _ _ _ _ _ _ _ _ _ _ _ _ _ (F0 _ _ _ (.ref x :: _))
  exact q_retSq C hr (Or.inl ⟨_, rfl⟩) hlk rfl dJx4a65c_get_915e3_14
theorem inJx4a65c_fastRemove_b59b0_Jx4a65c : ∀ w ∈ u_ws RJx4a65c TJx4a65c 3, w ∈ wsJx4a65c_fastRemove_b59b0 := (fun _ h => (List.mem_cons_of_mem _ (List.mem_append_right _ h)))
set_option maxHeartbeats 4000000 in
set_option maxRecDepth 100000 in
theorem l_fastRemove {l : Launch} {G : fw_G} {A : Nat → Prop} {f0 : fw_F}   {b h q md sz : Nat} (e0 : f0 h = some (b, eB 0 [.int (nI md), .ref q, .int (nI sz)])) {cap : Nat} {g : Nat → Option Nat} (e1 : f0 q = some (b + 2, eO G cap g)) (i : Nat) (hi : sz = i + 1) (hsz : sz ≤ cap) (hcap : cap < 2 ^ 31)  : Met l yJx4a65c_fastRemove_b59b0 wsJx4a65c_fastRemove_b59b0 ({ frames := 0, cells := 0, slots := 0, locals := 0 }) (va_Pc [.ref h, .ref q, .int (nI i)] (fw_P G A f0)) (va_Qv (fun (f1 : fw_F) => f1 h = some (b, eB 0 [.int (nI (md + 1)), .ref q, .int (nI i)]) ∧ f1 q = some (b + 2, eO G cap (va_up g i none)) ∧ fw_fr f0 f1 b (b + 3)) (fw_B G A) A) 0 0 A := by
  refine q_head rfl (by decide) (Nat.le_of_ble_eq_true rfl) ?_
  intro p e s m below meth c ls C hr hlk hnm P hl
  have S := P.start
  have hl : lv_has ls 4 [(0, .ref h), (1, .ref q), (2, .int (nI i))] := hl
  have F := fw_fr_rf f0 b (b + 3)
  refine lv_aload_n C.1 C.2.1 dJx4a65c_fastRemove_b59b0_0 rfl (lv_at hl 0 rfl) ?_
  refine lv_dup C.1 C.2.1 dJx4a65c_fastRemove_b59b0_1 rfl ?_
  refine q_getI C S e0 rfl inJx4a65c_fastRemove_b59b0_Jx4a65c 0 (by decide) (List.mem_of_getElem? (i := 1) rfl) (List.mem_of_getElem? (i := 2) rfl) rfl dJx4a65c_fastRemove_b59b0_2 ?_
  refine lv_iconst (v := nI 1) C.1 C.2.1 dJx4a65c_fastRemove_b59b0_5 (by decide) ?_
  refine q_iadd C dJx4a65c_fastRemove_b59b0_6 ?_
  refine q_putI C S e0 rfl inJx4a65c_fastRemove_b59b0_Jx4a65c tyJx4a65c tyJx4a65c_ok nmJx4a65c 0 (by decide) (List.mem_of_getElem? (i := 1) rfl) (List.mem_of_getElem? (i := 2) rfl) rfl rfl rfl (by decide) dJx4a65c_fastRemove_b59b0_7 (fun H locs S => ?_)
  obtain ⟨f, S, F, e0, e1⟩ : ∃ f, fw_S G A s f H locs ∧ fw_fr f0 f b (b + 3) ∧ f h = some (b, eB 0 [.int (nI (md + 1)), .ref q, .int (nI sz)]) ∧ f q = some (b + 2, eO G cap g) := ⟨_, S, fw_fr_up F e0 (by omega) (by omega), fw_eq _ _ _, fw_keep e1 e0 (by omega)⟩
  refine lv_aload_n C.1 C.2.1 dJx4a65c_fastRemove_b59b0_10 rfl (lv_at hl 0 rfl) ?_
  refine q_get C S e0 rfl inJx4a65c_fastRemove_b59b0_Jx4a65c 2 (by decide) (List.mem_of_getElem? (i := 3) rfl) rfl dJx4a65c_fastRemove_b59b0_11 ?_
  refine lv_iconst (v := nI 1) C.1 C.2.1 dJx4a65c_fastRemove_b59b0_14 (by decide) ?_
  refine q_isub C (by omega) dJx4a65c_fastRemove_b59b0_15 ?_
  refine lv_dup C.1 C.2.1 dJx4a65c_fastRemove_b59b0_16 rfl ?_
  refine lv_istore_n (lv' := [(3, .int (nI (sz - 1))), (0, .ref h), (1, .ref q), (2, .int (nI i))]) C.1 C.2.1 dJx4a65c_fastRemove_b59b0_17 rfl hl (by decide) rfl (fun ls hl => ?_)
  refine lv_iload_n C.1 C.2.1 dJx4a65c_fastRemove_b59b0_18 rfl (lv_at hl 3 rfl) ?_
  refine q_le (tgt := 34) C (by omega) (by omega) dJx4a65c_fastRemove_b59b0_19 (by decide) (fun c19 => ?_) (fun c19 => ?_)
  · refine lv_aload_n C.1 C.2.1 dJx4a65c_fastRemove_b59b0_34 rfl (lv_at hl 2 rfl) ?_
    refine lv_aload_n C.1 C.2.1 dJx4a65c_fastRemove_b59b0_35 rfl (lv_at hl 1 rfl) ?_
    refine lv_iload_n C.1 C.2.1 dJx4a65c_fastRemove_b59b0_36 rfl (lv_at hl 0 rfl) ?_
    refine lv_dup_x1 C.1 C.2.1 dJx4a65c_fastRemove_b59b0_37 rfl rfl ?_
    refine q_put C S e0 rfl inJx4a65c_fastRemove_b59b0_Jx4a65c tyJx4a65c tyJx4a65c_ok nmJx4a65c 2 (by decide) (List.mem_of_getElem? (i := 3) rfl) rfl rfl rfl (by decide) dJx4a65c_fastRemove_b59b0_38 (fun H locs S => ?_)
    obtain ⟨f, S, F, e0, e1⟩ : ∃ f, fw_S G A s f H locs ∧ fw_fr f0 f b (b + 3) ∧ f h = some (b, eB 0 [.int (nI (md + 1)), .ref q, .int (nI (sz - 1))]) ∧ f q = some (b + 2, eO G cap g) := ⟨_, S, fw_fr_up F e0 (by omega) (by omega), fw_eq _ _ _, fw_keep e1 e0 (by omega)⟩
    refine lv_null C.1 C.2.1 dJx4a65c_fastRemove_b59b0_41 ?_
    refine q_oastN C S e1 (k := (sz - 1)) (by omega) (by omega) dJx4a65c_fastRemove_b59b0_42 (fun H locs S => ?_)
    obtain ⟨f, S, F, e0, e1⟩ : ∃ f, fw_S G A s f H locs ∧ fw_fr f0 f b (b + 3) ∧ f h = some (b, eB 0 [.int (nI (md + 1)), .ref q, .int (nI (sz - 1))]) ∧ f q = some (b + 2, eO G cap (va_up g (sz - 1) none)) := ⟨_, S, fw_fr_up F e1 (by omega) (by omega), fw_keep e0 e1 (by omega), fw_eq _ _ _⟩
    exact q_retQv C S hr hlk ⟨by rw [e0, show sz - 1 = i by omega], by rw [e1, show sz - 1 = i by omega], F⟩ dJx4a65c_fastRemove_b59b0_43
  · exact absurd c19 (by omega)
theorem inJx4a65c_remove_915e3_Jx4a65c : ∀ w ∈ u_ws RJx4a65c TJx4a65c 3, w ∈ wsJx4a65c_remove_915e3 := (fun _ h => (List.mem_cons_of_mem _ (List.mem_append_right _ h)))
set_option maxHeartbeats 4000000 in
set_option maxRecDepth 100000 in
theorem l_remove {l : Launch} {G : fw_G} {A : Nat → Prop} {f0 : fw_F}   {b h q md sz : Nat} (e0 : f0 h = some (b, eB 0 [.int (nI md), .ref q, .int (nI sz)])) {cap : Nat} {g : Nat → Option Nat} (e1 : f0 q = some (b + 2, eO G cap g)) {x : Nat} (i : Nat) (hi : sz = i + 1) (hsz : sz ≤ cap) (hcap : cap < 2 ^ 31) (hx : g i = some x)  : Met l yJx4a65c_remove_915e3 wsJx4a65c_remove_915e3 ({ frames := 2, cells := 0, slots := 0, locals := 43 }) (va_Pc [.ref h, .int (nI i)] (fw_P G A f0)) (fw_Qr G A (fun (x1 : Nat) (f1 : fw_F) => f1 h = some (b, eB 0 [.int (nI (md + 1)), .ref q, .int (nI i)]) ∧ f1 q = some (b + 2, eO G cap (va_up g i none)) ∧ fw_fr f0 f1 b (b + 3))) 0 0 A := by
  refine q_head rfl (by decide) (Nat.le_of_ble_eq_true rfl) ?_
  intro p e s m below meth c ls C hr hlk hnm P hl
  have S := P.start
  have hl : lv_has ls 4 [(0, .ref h), (1, .int (nI i))] := hl
  have F := fw_fr_rf f0 b (b + 3)
  refine lv_iload_n C.1 C.2.1 dJx4a65c_remove_915e3_0 rfl (lv_at hl 1 rfl) ?_
  refine lv_aload_n C.1 C.2.1 dJx4a65c_remove_915e3_1 rfl (lv_at hl 0 rfl) ?_
  refine q_get C S e0 rfl inJx4a65c_remove_915e3_Jx4a65c 2 (by decide) (List.mem_of_getElem? (i := 1) rfl) rfl dJx4a65c_remove_915e3_2 ?_
  refine q_callSSi (As := [.int (nI i), .int (nI sz)]) (rest := []) C S hl (l_check i sz (by omega) (by omega)) (va_cwS 2 C.2.2.2.2 gJx4a65c_remove_915e3_J15_checkIndex_7cf53 rfl rfl rfl (by decide +kernel) ⟨Nat.le_of_ble_eq_true rfl, Nat.le_of_ble_eq_true rfl⟩) rfl rfl (Nat.le_of_ble_eq_true rfl) ⟨Nat.le_of_ble_eq_true rfl, Nat.le_of_ble_eq_true rfl⟩ dJx4a65c_remove_915e3_5 (fun v hv => ?_)
  subst hv
  refine lv_pop C.1 C.2.1 dJx4a65c_remove_915e3_8 rfl ?_
  refine lv_aload_n C.1 C.2.1 dJx4a65c_remove_915e3_9 rfl (lv_at hl 0 rfl) ?_
  refine q_get C S e0 rfl inJx4a65c_remove_915e3_Jx4a65c 1 (by decide) (List.mem_of_getElem? (i := 2) rfl) rfl dJx4a65c_remove_915e3_10 ?_
  refine lv_astore_n (lv' := [(2, .ref q), (0, .ref h), (1, .int (nI i))]) C.1 C.2.1 dJx4a65c_remove_915e3_13 rfl hl (by decide) rfl (fun ls hl => ?_)
  refine lv_aload_n C.1 C.2.1 dJx4a65c_remove_915e3_14 rfl (lv_at hl 0 rfl) ?_
  refine lv_iload_n C.1 C.2.1 dJx4a65c_remove_915e3_15 rfl (lv_at hl 2 rfl) ?_
  refine q_oald C S e1 (k := i) (x := x) (by omega) (by omega) hx dJx4a65c_remove_915e3_16 ?_
  refine lv_astore_n (lv' := [(3, .ref x), (2, .ref q), (0, .ref h), (1, .int (nI i))]) C.1 C.2.1 dJx4a65c_remove_915e3_17 rfl hl (by decide) rfl (fun ls hl => ?_)
  refine lv_aload_n C.1 C.2.1 dJx4a65c_remove_915e3_18 rfl (lv_at hl 2 rfl) ?_
  refine lv_aload_n C.1 C.2.1 dJx4a65c_remove_915e3_19 rfl (lv_at hl 1 rfl) ?_
  refine lv_iload_n C.1 C.2.1 dJx4a65c_remove_915e3_20 rfl (lv_at hl 3 rfl) ?_
  refine q_callQv (As := [.ref q, .int (nI i)]) (rest := []) C S hl e0 rfl (l_fastRemove e0 e1 i hi hsz hcap) (cwV 2 C.2.2.2.2 gJx4a65c_remove_915e3_Jx4a65c_fastRemove_b59b0 rfl rfl rfl (by decide +kernel) ⟨Nat.le_of_ble_eq_true rfl, Nat.le_of_ble_eq_true rfl⟩) rfl rfl (Nat.le_of_ble_eq_true rfl) ⟨Nat.le_of_ble_eq_true rfl, Nat.le_of_ble_eq_true rfl⟩ dJx4a65c_remove_915e3_21 (fun f H locs hv S => ?_)
  refine lv_aload_n C.1 C.2.1 dJx4a65c_remove_915e3_24 rfl (lv_at hl 0 rfl) ?_
  exact q_retQr C S hr (Or.inl ⟨_, rfl⟩) hlk hv dJx4a65c_remove_915e3_25
set_option maxHeartbeats 4000000 in
set_option maxRecDepth 100000 in
theorem l_newLength {l : Launch} {G : fw_G} {A : Nat → Prop} {f0 : fw_F}   (o u v : Nat) (ho : o < 1000) (hu : u < 1000) (hv : v < 1000) (hp : 0 < max u v + o)  : Met l yJ8_newLength_cabcc wsJ8_newLength_cabcc ({ frames := 1, cells := 0, slots := 0, locals := 21 }) (va_Pc [.int (nI o), .int (nI u), .int (nI v)] (fw_P G A f0)) (vp_Si (fun (r : Int32) => r = nI (max u v + o))) 0 0 (fun _ => False) := by
  refine q_head rfl (by decide) (Nat.le_of_ble_eq_true rfl) ?_
  intro p e s m below meth c ls C hr hlk hnm P hl
  have S := P.start
  have hl : lv_has ls 4 [(0, .int (nI o)), (1, .int (nI u)), (2, .int (nI v))] := hl
  refine lv_iload_n C.1 C.2.1 dJ8_newLength_cabcc_0 rfl (lv_at hl 0 rfl) ?_
  refine lv_iload_n C.1 C.2.1 dJ8_newLength_cabcc_1 rfl (lv_at hl 1 rfl) ?_
  refine lv_iload_n C.1 C.2.1 dJ8_newLength_cabcc_2 rfl (lv_at hl 2 rfl) ?_
  refine va_mmax C.1 C.2.1 (C.2.2.1.trans hl.1.symm) C.2.2.2.1 (C.2.2.2.2 _ (List.mem_of_getElem? (i := 1) rfl)) (C.2.2.2.2 _ (List.mem_of_getElem? (i := 2) rfl)) (C.2.2.2.2 _ (List.mem_of_getElem? (i := 3) rfl)) (C.2.2.2.2 _ (List.mem_of_getElem? (i := 4) rfl)) (Nat.le_of_ble_eq_true rfl) (Nat.le_of_ble_eq_true rfl) (Nat.le_of_ble_eq_true rfl) (Nat.le_of_ble_eq_true rfl) dJ8_newLength_cabcc_3 ?_
  rw [q_mx (by omega) (by omega)]
  refine q_iadd C dJ8_newLength_cabcc_6 ?_
  refine lv_istore_n (lv' := [(3, .int (nI (o + (max u v)))), (0, .int (nI o)), (1, .int (nI u)), (2, .int (nI v))]) C.1 C.2.1 dJ8_newLength_cabcc_7 rfl hl (by decide) rfl (fun ls hl => ?_)
  refine lv_iconst (v := nI 0) C.1 C.2.1 dJ8_newLength_cabcc_8 (by decide) ?_
  refine lv_iload_n C.1 C.2.1 dJ8_newLength_cabcc_9 rfl (lv_at hl 0 rfl) ?_
  refine q_ge (tgt := 21) C (by decide) (by omega) dJ8_newLength_cabcc_10 (by decide) (fun c10 => ?_) (fun c10 => ?_)
  · exact absurd c10 (by omega)
  · refine lv_iload_n C.1 C.2.1 dJ8_newLength_cabcc_13 rfl (lv_at hl 0 rfl) ?_
    refine lv_ldc (v := nI 2147483639) C.1 C.2.1 C.2.2.2.1 (C.2.2.2.2 _ (List.mem_of_getElem? (i := 5) rfl)) dJ8_newLength_cabcc_14 ?_
    refine q_gt (tgt := 21) C (by omega) (by decide) dJ8_newLength_cabcc_16 (by decide) (fun c16 => ?_) (fun c16 => ?_)
    · exact absurd c16 (by omega)
    · refine lv_iload_n C.1 C.2.1 dJ8_newLength_cabcc_19 rfl (lv_at hl 0 rfl) ?_
      exact q_retSi C hr hlk rfl dJ8_newLength_cabcc_20
set_option maxHeartbeats 4000000 in
set_option maxRecDepth 100000 in
theorem l_copyOf3 {l : Launch} {G : fw_G} {A : Nat → Prop} {f0 : fw_F}   {b q cap n ci : Nat} {Cq : vw_C} {g : Nat → Option Nat} (e1 : f0 q = some (b + 2, eO G cap g)) (hcc : vwCl[ci]? = some Cq) (hci : ci = 1 ∨ ci = 2) (hel : ∀ i y, g i = some y → ∃ j fs, f0 y = some (j, eB ci fs)) (hcap : cap ≤ 128) (hn : n ≤ 128)  : Met l yJ7_copyOf_6403c wsJ7_copyOf_6403c ({ frames := 1, cells := 1, slots := 128, locals := 40 }) (va_Pc [.ref q, .int (nI n), .ref (G.2.1 9)] (fw_P G A f0)) (fw_Qr G A (fun (x1 : Nat) (f1 : fw_F) => f1 x1 = some (b + 2, eO G n (va_cpy g (fun _ => none) 0 0 (min cap n))) ∧ f0 x1 = none ∧ fw_fr f0 f1 b (b + 3))) 1 128 A := by
  refine q_head rfl (by decide) (Nat.le_of_ble_eq_true rfl) ?_
  intro p e s m below meth c ls C hr hlk hnm P hl
  have S := P.start
  have hl : lv_has ls 4 [(0, .ref q), (1, .int (nI n)), (2, .ref (G.2.1 9))] := hl
  have F := fw_fr_rf f0 b (b + 3)
  have hca : va_Nw (.castable Cq.1 "java/lang/Object") s := by rcases hci with rfl | rfl <;> cases hcc; exact S.2.2.2.1.2.2.2.1.2.1; exact S.2.2.2.1.2.2.2.1.2.2.2.1
  refine lv_aload_n C.1 C.2.1 dJ7_copyOf_6403c_0 rfl (lv_at hl 2 rfl) ?_
  refine va_ldcM C.1 C.2.1 C.2.2.2.1 (C.2.2.2.2 _ (List.mem_of_getElem? (i := 1) rfl)) S.2.2.2.1.2.2.2.2.2.2 dJ7_copyOf_6403c_1 ?_
  refine lv_acmp_ne (rx := some (G.2.1 9)) (ry := some (G.2.1 9)) (tgt := 13) C.1 C.2.1 dJ7_copyOf_6403c_3 (by decide) (fun c3 => ?_) (fun c3 => ?_)
  · exact absurd rfl c3
  · refine lv_iload_n C.1 C.2.1 dJ7_copyOf_6403c_6 rfl (lv_at hl 1 rfl) ?_
    refine q_onew C S (List.mem_of_getElem? (i := 2) rfl) (b + 2) (n := n) (by omega) (Nat.le_of_ble_eq_true rfl) (by show 0 + n ≤ 128; omega) dJ7_copyOf_6403c_7 (fun q1 H hq S => ?_)
    refine W.widen (k := 1) (n := 128) (Nat.le_refl 1) (by omega) ?_
    obtain ⟨f, S, F, e1, e2, hel⟩ : ∃ f, fw_S G A s f H _ ∧ fw_fr f0 f b (b + 3) ∧ f q = some (b + 2, eO G cap g) ∧ f q1 = some (b + 2, eO G n (fun _ => none)) ∧ (∀ i y, g i = some y → ∃ j fs, f y = some (j, eB ci fs)) := ⟨_, S, fw_fr_nw F hq, fw_new e1 hq, fw_eq _ _ _, fun i y hy => by obtain ⟨j, fs, h1⟩ := hel i y hy; exact ⟨j, fs, fw_new h1 hq⟩⟩
    refine lv_goto (tgt := 24) C.1 C.2.1 dJ7_copyOf_6403c_10 (by decide) ?_
    refine lv_astore_n (lv' := [(3, .ref q1), (0, .ref q), (1, .int (nI n)), (2, .ref (G.2.1 9))]) C.1 C.2.1 dJ7_copyOf_6403c_24 rfl hl (by decide) rfl (fun ls hl => ?_)
    refine lv_aload_n C.1 C.2.1 dJ7_copyOf_6403c_25 rfl (lv_at hl 1 rfl) ?_
    refine lv_iconst (v := nI 0) C.1 C.2.1 dJ7_copyOf_6403c_26 (by decide) ?_
    refine lv_aload_n C.1 C.2.1 dJ7_copyOf_6403c_27 rfl (lv_at hl 0 rfl) ?_
    refine lv_iconst (v := nI 0) C.1 C.2.1 dJ7_copyOf_6403c_28 (by decide) ?_
    refine lv_aload_n C.1 C.2.1 dJ7_copyOf_6403c_29 rfl (lv_at hl 1 rfl) ?_
    refine q_olen C S e1 dJ7_copyOf_6403c_30 ?_
    refine lv_iload_n C.1 C.2.1 dJ7_copyOf_6403c_31 rfl (lv_at hl 2 rfl) ?_
    refine va_mmin C.1 C.2.1 (C.2.2.1.trans hl.1.symm) C.2.2.2.1 (C.2.2.2.2 _ (List.mem_of_getElem? (i := 3) rfl)) (C.2.2.2.2 _ (List.mem_of_getElem? (i := 4) rfl)) (C.2.2.2.2 _ (List.mem_of_getElem? (i := 5) rfl)) (C.2.2.2.2 _ (List.mem_of_getElem? (i := 6) rfl)) (Nat.le_of_ble_eq_true rfl) (Nat.le_of_ble_eq_true rfl) (Nat.le_of_ble_eq_true rfl) (Nat.le_of_ble_eq_true rfl) dJ7_copyOf_6403c_32 ?_
    rw [q_mn (by omega) (by omega)]
    refine q_copyO C S hl.1 (List.mem_of_getElem? (i := 7) rfl) (List.mem_of_getElem? (i := 8) rfl) (List.mem_of_getElem? (i := 9) rfl) (List.mem_of_getElem? (i := 10) rfl) (n := (min cap n)) hcc hca hel e1 e2 (by omega) (by omega) (by omega) (Nat.le_of_ble_eq_true rfl) (Nat.le_of_ble_eq_true rfl) dJ7_copyOf_6403c_35 (fun H locs S => ?_)
    obtain ⟨f, S, F, e2⟩ : ∃ f, fw_S G A s f H locs ∧ fw_fr f0 f b (b + 3) ∧ f q1 = some (b + 2, eO G n (va_cpy g (fun _ => none) 0 0 (min cap n))) := ⟨_, S, fw_fr_up F e2 (by omega) (by omega), fw_eq _ _ _⟩
    refine lv_aload_n C.1 C.2.1 dJ7_copyOf_6403c_38 rfl (lv_at hl 0 rfl) ?_
    exact q_retQr C S hr (Or.inr ⟨_, rfl⟩) hlk ⟨e2, hq, F⟩ dJ7_copyOf_6403c_39
set_option maxHeartbeats 4000000 in
set_option maxRecDepth 100000 in
theorem l_copyOf {l : Launch} {G : fw_G} {A : Nat → Prop} {f0 : fw_F}   {b q cap n ci : Nat} {Cq : vw_C} {g : Nat → Option Nat} (e1 : f0 q = some (b + 2, eO G cap g)) (hcc : vwCl[ci]? = some Cq) (hci : ci = 1 ∨ ci = 2) (hel : ∀ i y, g i = some y → ∃ j fs, f0 y = some (j, eB ci fs)) (hcap : cap ≤ 128) (hn : n ≤ 128)  : Met l yJ7_copyOf_1904c wsJ7_copyOf_1904c ({ frames := 2, cells := 1, slots := 128, locals := 63 }) (va_Pc [.ref q, .int (nI n)] (fw_P G A f0)) (fw_Qr G A (fun (x1 : Nat) (f1 : fw_F) => f1 x1 = some (b + 2, eO G n (va_cpy g (fun _ => none) 0 0 (min cap n))) ∧ f0 x1 = none ∧ fw_fr f0 f1 b (b + 3))) 1 128 A := by
  refine q_head rfl (by decide) (Nat.le_of_ble_eq_true rfl) ?_
  intro p e s m below meth c ls C hr hlk hnm P hl
  have S := P.start
  have hl : lv_has ls 2 [(0, .ref q), (1, .int (nI n))] := hl
  refine lv_aload_n C.1 C.2.1 dJ7_copyOf_1904c_0 rfl (lv_at hl 0 rfl) ?_
  refine lv_iload_n C.1 C.2.1 dJ7_copyOf_1904c_1 rfl (lv_at hl 1 rfl) ?_
  refine lv_aload_n C.1 C.2.1 dJ7_copyOf_1904c_2 rfl (lv_at hl 0 rfl) ?_
  refine va_getC C.1 C.2.1 (C.2.2.1.trans hl.1.symm) C.2.2.2.1 (C.2.2.2.2 _ (List.mem_of_getElem? (i := 1) rfl)) (va_Dc.use S.2.2.2.1.2.2.2.2.2.1) (C.2.2.2.2 _ (List.mem_of_getElem? (i := 2) rfl)) (C.2.2.2.2 _ (List.mem_of_getElem? (i := 3) rfl)) (C.2.2.2.2 _ (List.mem_of_getElem? (i := 4) rfl)) S.2.2.2.1.2.2.2.2.2.2 (q_arr S e1) (Nat.le_of_ble_eq_true rfl) (Nat.le_of_ble_eq_true rfl) dJ7_copyOf_1904c_3 ?_
  refine q_callSQr (As := [.ref q, .int (nI n), .ref (G.2.1 9)]) (rest := []) C S hl (l_copyOf3 (b := b) e1 hcc hci hel hcap hn) (va_cwS 3 C.2.2.2.2 gJ7_copyOf_1904c_J7_copyOf_6403c rfl rfl rfl (by decide +kernel) ⟨Nat.le_of_ble_eq_true rfl, Nat.le_of_ble_eq_true rfl⟩) rfl rfl (Nat.le_of_ble_eq_true rfl) ⟨Nat.le_of_ble_eq_true rfl, Nat.le_of_ble_eq_true rfl⟩ dJ7_copyOf_1904c_6 (fun x f H locs hv S => ?_)
  exact q_retQr C S hr (Or.inr ⟨_, rfl⟩) hlk hv dJ7_copyOf_1904c_9
