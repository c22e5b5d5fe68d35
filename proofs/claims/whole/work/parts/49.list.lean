def fw_ex (f f1 : fw_F) : Prop := ∀ y z, f y = some z → f1 y = some z
set_option maxHeartbeats 4000000 in
set_option maxRecDepth 100000 in
theorem l_check3 {l : Launch} {G : fw_G} {A : Nat → Prop} {f0 : fw_F}   (i n : Nat) (hi : i < n) (hn : n < 2 ^ 31)  : Met l yJ3_checkIndex_8e157 wsJ3_checkIndex_8e157 ({ frames := 0, cells := 0, slots := 0, locals := 0 }) (va_Pc [.int (nI i), .int (nI n), .null] (fw_P G A f0)) (vp_Si (fun (r : Int32) => r = nI i)) 0 0 (fun _ => False) := by
  refine q_head rfl (by decide) (Nat.le_of_ble_eq_true rfl) ?_
  intro p e s m below meth c ls C hr hlk hnm P hl
  have S := P.start
  have hl : lv_has ls 3 [(0, .int (nI i)), (1, .int (nI n)), (2, .null)] := hl
  refine lv_iload_n C.1 C.2.1 dJ3_checkIndex_8e157_0 rfl (lv_at hl 0 rfl) ?_
  refine lv_if_lt (tgt := 9) C.1 C.2.1 dJ3_checkIndex_8e157_1 (by decide) (fun c1 => ?_) (fun c1 => ?_)
  · exact absurd c1 (nI_pos (by omega))
  · refine lv_iload_n C.1 C.2.1 dJ3_checkIndex_8e157_4 rfl (lv_at hl 0 rfl) ?_
    refine lv_iload_n C.1 C.2.1 dJ3_checkIndex_8e157_5 rfl (lv_at hl 1 rfl) ?_
    refine q_lt (tgt := 16) C (by omega) (by omega) dJ3_checkIndex_8e157_6 (by decide) (fun c6 => ?_) (fun c6 => ?_)
    · refine lv_iload_n C.1 C.2.1 dJ3_checkIndex_8e157_16 rfl (lv_at hl 0 rfl) ?_
      exact q_retSi C hr hlk rfl dJ3_checkIndex_8e157_17
    · exact absurd c6 (by omega)
set_option maxHeartbeats 4000000 in
set_option maxRecDepth 100000 in
theorem l_check {l : Launch} {G : fw_G} {A : Nat → Prop} {f0 : fw_F}   (i n : Nat) (hi : i < n) (hn : n < 2 ^ 31)  : Met l yJ15_checkIndex_7cf53 wsJ15_checkIndex_7cf53 ({ frames := 1, cells := 0, slots := 0, locals := 22 }) (va_Pc [.int (nI i), .int (nI n)] (fw_P G A f0)) (vp_Si (fun (r : Int32) => r = nI i)) 0 0 (fun _ => False) := by
  refine q_head rfl (by decide) (Nat.le_of_ble_eq_true rfl) ?_
  intro p e s m below meth c ls C hr hlk hnm P hl
  have S := P.start
  have hl : lv_has ls 2 [(0, .int (nI i)), (1, .int (nI n))] := hl
  refine lv_iload_n C.1 C.2.1 dJ15_checkIndex_7cf53_0 rfl (lv_at hl 0 rfl) ?_
  refine lv_iload_n C.1 C.2.1 dJ15_checkIndex_7cf53_1 rfl (lv_at hl 1 rfl) ?_
  refine lv_null C.1 C.2.1 dJ15_checkIndex_7cf53_2 ?_
  refine q_callSSi (As := [.int (nI i), .int (nI n), .null]) (rest := []) C S hl (l_check3 i n hi hn) (va_cwS 3 C.2.2.2.2 gJ15_checkIndex_7cf53_J3_checkIndex_8e157 rfl rfl rfl (by decide +kernel) ⟨Nat.le_of_ble_eq_true rfl, Nat.le_of_ble_eq_true rfl⟩) rfl rfl (Nat.le_of_ble_eq_true rfl) ⟨Nat.le_of_ble_eq_true rfl, Nat.le_of_ble_eq_true rfl⟩ dJ15_checkIndex_7cf53_3 (fun v hv => ?_)
  subst hv
  exact q_retSi C hr hlk rfl dJ15_checkIndex_7cf53_6
theorem inJx4a65c_size_8abf5_Jx4a65c : ∀ w ∈ u_ws RJx4a65c TJx4a65c 3, w ∈ wsJx4a65c_size_8abf5 := (fun _ h => (List.mem_cons_of_mem _ (List.mem_append_right _ h)))
set_option maxHeartbeats 4000000 in
set_option maxRecDepth 100000 in
theorem l_size {l : Launch} {G : fw_G} {A : Nat → Prop} {f0 : fw_F}   {b h q md sz : Nat} (e0 : f0 h = some (b, eB 0 [.int (nI md), .ref q, .int (nI sz)]))   : Met l yJx4a65c_size_8abf5 wsJx4a65c_size_8abf5 ({ frames := 0, cells := 0, slots := 0, locals := 0 }) (va_Pc [.ref h] (fw_P G A f0)) (vp_Si (fun (r : Int32) => r = nI sz)) 0 0 (fun _ => False) := by
  refine q_head rfl (by decide) (Nat.le_of_ble_eq_true rfl) ?_
  intro p e s m below meth c ls C hr hlk hnm P hl
  have S := P.start
  have hl : lv_has ls 1 [(0, .ref h)] := hl
  refine lv_aload_n C.1 C.2.1 dJx4a65c_size_8abf5_0 rfl (lv_at hl 0 rfl) ?_
  refine q_get C S e0 rfl inJx4a65c_size_8abf5_Jx4a65c 2 (by decide) (List.mem_of_getElem? (i := 1) rfl) rfl dJx4a65c_size_8abf5_1 ?_
  exact q_retSi C hr hlk rfl dJx4a65c_size_8abf5_4
theorem inJx4a65c_elementData_915e3_Jx4a65c : ∀ w ∈ u_ws RJx4a65c TJx4a65c 3, w ∈ wsJx4a65c_elementData_915e3 := (fun _ h => (List.mem_cons_of_mem _ (List.mem_append_right _ h)))
set_option maxHeartbeats 4000000 in
set_option maxRecDepth 100000 in
theorem l_elementData {l : Launch} {G : fw_G} {A : Nat → Prop} {f0 : fw_F}   {b h q md sz : Nat} (e0 : f0 h = some (b, eB 0 [.int (nI md), .ref q, .int (nI sz)])) {cap : Nat} {g : Nat → Option Nat} (e1 : f0 q = some (b + 2, eO G cap g)) {x : Nat} (i : Nat) (hi : i < cap) (hcap : cap < 2 ^ 31) (hx : g i = some x)  : Met l yJx4a65c_elementData_915e3 wsJx4a65c_elementData_915e3 ({ frames := 0, cells := 0, slots := 0, locals := 0 }) (va_Pc [.ref h, .int (nI i)] (fw_P G A f0)) (va_Sq (fun (r : Option Nat) => r = some x)) 0 0 (fun _ => False) := by
  refine q_head rfl (by decide) (Nat.le_of_ble_eq_true rfl) ?_
  intro p e s m below meth c ls C hr hlk hnm P hl
  have S := P.start
  have hl : lv_has ls 2 [(0, .ref h), (1, .int (nI i))] := hl
  refine lv_aload_n C.1 C.2.1 dJx4a65c_elementData_915e3_0 rfl (lv_at hl 0 rfl) ?_
  refine q_get C S e0 rfl inJx4a65c_elementData_915e3_Jx4a65c 1 (by decide) (List.mem_of_getElem? (i := 1) rfl) rfl dJx4a65c_elementData_915e3_1 ?_
  refine lv_iload_n C.1 C.2.1 dJx4a65c_elementData_915e3_4 rfl (lv_at hl 1 rfl) ?_
  refine q_oald C S e1 (k := i) (x := x) (by omega) (by omega) hx dJx4a65c_elementData_915e3_5 ?_
  exact q_retSq C hr (Or.inl ⟨_, rfl⟩) hlk rfl dJx4a65c_elementData_915e3_6
theorem inJx4a65c_get_915e3_Jx4a65c : ∀ w ∈ u_ws RJx4a65c TJx4a65c 3, w ∈ wsJx4a65c_get_915e3 := (fun _ h => (List.mem_cons_of_mem _ (List.mem_append_right _ h)))
set_option maxHeartbeats 4000000 in
set_option maxRecDepth 100000 in
theorem l_get {l : Launch} {G : fw_G} {A : Nat → Prop} {f0 : fw_F}   {b h q md sz : Nat} (e0 : f0 h = some (b, eB 0 [.int (nI md), .ref q, .int (nI sz)])) {cap : Nat} {g : Nat → Option Nat} (e1 : f0 q = some (b + 2, eO G cap g)) {x : Nat} (i : Nat) (hi : i < sz) (hsz : sz ≤ cap) (hcap : cap < 2 ^ 31) (hx : g i = some x)  : Met l yJx4a65c_get_915e3 wsJx4a65c_get_915e3 ({ frames := 2, cells := 0, slots := 0, locals := 43 }) (va_Pc [.ref h, .int (nI i)] (fw_P G A f0)) (va_Sq (fun (r : Option Nat) => r = some x)) 0 0 (fun _ => False) := by
  refine q_head rfl (by decide) (Nat.le_of_ble_eq_true rfl) ?_
  intro p e s m below meth c ls C hr hlk hnm P hl
  have S := P.start
  have hl : lv_has ls 2 [(0, .ref h), (1, .int (nI i))] := hl
  refine lv_iload_n C.1 C.2.1 dJx4a65c_get_915e3_0 rfl (lv_at hl 1 rfl) ?_
  refine lv_aload_n C.1 C.2.1 dJx4a65c_get_915e3_1 rfl (lv_at hl 0 rfl) ?_
  refine q_get C S e0 rfl inJx4a65c_get_915e3_Jx4a65c 2 (by decide) (List.mem_of_getElem? (i := 1) rfl) rfl dJx4a65c_get_915e3_2 ?_
  refine q_callSSi (As := [.int (nI i), .int (nI sz)]) (rest := []) C S hl (l_check i sz hi (by omega)) (va_cwS 2 C.2.2.2.2 gJx4a65c_get_915e3_J15_checkIndex_7cf53 rfl rfl rfl (by decide +kernel) ⟨Nat.le_of_ble_eq_true rfl, Nat.le_of_ble_eq_true rfl⟩) rfl rfl (Nat.le_of_ble_eq_true rfl) ⟨Nat.le_of_ble_eq_true rfl, Nat.le_of_ble_eq_true rfl⟩ dJx4a65c_get_915e3_5 (fun v hv => ?_)
  subst hv
  refine lv_pop C.1 C.2.1 dJx4a65c_get_915e3_8 rfl ?_
  refine lv_aload_n C.1 C.2.1 dJx4a65c_get_915e3_9 rfl (lv_at hl 0 rfl) ?_
  refine lv_iload_n C.1 C.2.1 dJx4a65c_get_915e3_10 rfl (lv_at hl 1 rfl) ?_
  refine q_callSq (As := [.int (nI i)]) (rest := []) C S hl e0 rfl (l_elementData e0 e1 i (by omega) hcap hx) (cwV 1 C.2.2.2.2 gJx4a65c_get_915e3_Jx4a65c_elementData_915e3 rfl rfl rfl (by decide +kernel) ⟨Nat.le_of_ble_eq_true rfl, Nat.le_of_ble_eq_true rfl⟩) rfl rfl (Nat.le_of_ble_eq_true rfl) ⟨Nat.le_of_ble_eq_true rfl, Nat.le_of_ble_eq_true rfl⟩ dJx4a65c_get_915e3_11 (fun v hv => ?_)
  subst hv
  show W _ _ _ _ _ _ _ _ _ _ _ _ _ _ _ (F0 _ _ _ (.ref x :: _))
  exact q_retSq C hr (Or.inl ⟨_, rfl⟩) hlk rfl dJx4a65c_get_915e3_14
theorem inJx4a65c_fastRemove_b59b0_Jx4a65c : ∀ w ∈ u_ws RJx4a65c TJx4a65c 3, w ∈ wsJx4a65c_fastRemove_b59b0 := (fun _ h => (List.mem_cons_of_mem _ (List.mem_append_right _ h)))
set_option maxHeartbeats 4000000 in
set_option maxRecDepth 100000 in
theorem l_fastRemove {l : Launch} {G : fw_G} {A : Nat → Prop} {f0 : fw_F}   {b h q md sz : Nat} (e0 : f0 h = some (b, eB 0 [.int (nI md), .ref q, .int (nI sz)])) {cap : Nat} {g : Nat → Option Nat} (e1 : f0 q = some (b + 2, eO G cap g)) (i : Nat) (hi : sz = i + 1) (hsz : sz ≤ cap) (hcap : cap < 2 ^ 31)  : Met l yJx4a65c_fastRemove_b59b0 wsJx4a65c_fastRemove_b59b0 ({ frames := 0, cells := 0, slots := 0, locals := 0 }) (va_Pc [.ref h, .ref q, .int (nI i)] (fw_P G A f0)) (va_Qv (fun (f1 : fw_F) => f1 h = some (b, eB 0 [.int (nI (md + 1)), .ref q, .int (nI i)]) ∧ f1 q = some (b + 2, eO G cap (va_up g i none)) ∧ fw_fr f0 f1 b (b + 3)) (fw_B G A) A) 0 0 A := by
  refine q_head rfl (by decide) (Nat.le_of_ble_eq_true rfl) ?_
  intro p e s m below meth c ls C hr hlk hnm P hl
  have S := P.start
  have hl : lv_has ls 4 [(0, .ref h), (1, .ref q), (2, .int (nI i))] := hl
  have F := fw_fr_rf f0 b (b + 3)
  refine lv_aload_n C.1 C.2.1 dJx4a65c_fastRemove_b59b0_0 rfl (lv_at hl 0 rfl) ?_
  refine lv_dup C.1 C.2.1 dJx4a65c_fastRemove_b59b0_1 rfl ?_
  refine q_getI C S e0 rfl inJx4a65c_fastRemove_b59b0_Jx4a65c 0 (by decide) (List.mem_of_getElem? (i := 1) rfl) (List.mem_of_getElem? (i := 2) rfl) rfl dJx4a65c_fastRemove_b59b0_2 ?_
  refine lv_iconst (v := nI 1) C.1 C.2.1 dJx4a65c_fastRemove_b59b0_5 (by decide) ?_
  refine q_iadd C dJx4a65c_fastRemove_b59b0_6 ?_
  refine q_putI C S e0 rfl inJx4a65c_fastRemove_b59b0_Jx4a65c tyJx4a65c tyJx4a65c_ok nmJx4a65c 0 (by decide) (List.mem_of_getElem? (i := 1) rfl) (List.mem_of_getElem? (i := 2) rfl) rfl rfl rfl (Nat.le_of_ble_eq_true rfl) dJx4a65c_fastRemove_b59b0_7 (fun H locs S => ?_)
  obtain ⟨f, S, F, e0, e1⟩ : ∃ f, fw_S G A s f H locs ∧ fw_fr f0 f b (b + 3) ∧ f h = some (b, eB 0 [.int (nI (md + 1)), .ref q, .int (nI sz)]) ∧ f q = some (b + 2, eO G cap g) := ⟨_, S, fw_fr_up F e0 (by omega) (by omega), fw_eq _ _ _, fw_keep e1 e0 (by omega)⟩
  refine lv_aload_n C.1 C.2.1 dJx4a65c_fastRemove_b59b0_10 rfl (lv_at hl 0 rfl) ?_
  refine q_get C S e0 rfl inJx4a65c_fastRemove_b59b0_Jx4a65c 2 (by decide) (List.mem_of_getElem? (i := 3) rfl) rfl dJx4a65c_fastRemove_b59b0_11 ?_
  refine lv_iconst (v := nI 1) C.1 C.2.1 dJx4a65c_fastRemove_b59b0_14 (by decide) ?_
  refine q_isub C (by omega) dJx4a65c_fastRemove_b59b0_15 ?_
  refine lv_dup C.1 C.2.1 dJx4a65c_fastRemove_b59b0_16 rfl ?_
  refine lv_istore_n (lv' := [(3, .int (nI (sz - 1))), (0, .ref h), (1, .ref q), (2, .int (nI i))]) C.1 C.2.1 dJx4a65c_fastRemove_b59b0_17 rfl hl (by decide) rfl (fun ls hl => ?_)
  refine lv_iload_n C.1 C.2.1 dJx4a65c_fastRemove_b59b0_18 rfl (lv_at hl 3 rfl) ?_
  refine q_le (tgt := 34) C (by omega) (by omega) dJx4a65c_fastRemove_b59b0_19 (by decide) (fun c19 => ?_) (fun c19 => ?_)
  · refine lv_aload_n C.1 C.2.1 dJx4a65c_fastRemove_b59b0_34 rfl (lv_at hl 2 rfl) ?_
    refine lv_aload_n C.1 C.2.1 dJx4a65c_fastRemove_b59b0_35 rfl (lv_at hl 1 rfl) ?_
    refine lv_iload_n C.1 C.2.1 dJx4a65c_fastRemove_b59b0_36 rfl (lv_at hl 0 rfl) ?_
    refine lv_dup_x1 C.1 C.2.1 dJx4a65c_fastRemove_b59b0_37 rfl rfl ?_
    refine q_put C S e0 rfl inJx4a65c_fastRemove_b59b0_Jx4a65c tyJx4a65c tyJx4a65c_ok nmJx4a65c 2 (by decide) (List.mem_of_getElem? (i := 3) rfl) rfl rfl rfl (Nat.le_of_ble_eq_true rfl) dJx4a65c_fastRemove_b59b0_38 (fun H locs S => ?_)
    obtain ⟨f, S, F, e0, e1⟩ : ∃ f, fw_S G A s f H locs ∧ fw_fr f0 f b (b + 3) ∧ f h = some (b, eB 0 [.int (nI (md + 1)), .ref q, .int (nI (sz - 1))]) ∧ f q = some (b + 2, eO G cap g) := ⟨_, S, fw_fr_up F e0 (by omega) (by omega), fw_eq _ _ _, fw_keep e1 e0 (by omega)⟩
    refine lv_null C.1 C.2.1 dJx4a65c_fastRemove_b59b0_41 ?_
    refine q_oastN C S e1 (k := (sz - 1)) (by omega) (by omega) dJx4a65c_fastRemove_b59b0_42 (fun H locs S => ?_)
    obtain ⟨f, S, F, e0, e1⟩ : ∃ f, fw_S G A s f H locs ∧ fw_fr f0 f b (b + 3) ∧ f h = some (b, eB 0 [.int (nI (md + 1)), .ref q, .int (nI (sz - 1))]) ∧ f q = some (b + 2, eO G cap (va_up g (sz - 1) none)) := ⟨_, S, fw_fr_up F e1 (by omega) (by omega), fw_keep e0 e1 (by omega), fw_eq _ _ _⟩
    exact q_retQv C S hr hlk ⟨by rw [e0, show sz - 1 = i by omega], by rw [e1, show sz - 1 = i by omega], F⟩ dJx4a65c_fastRemove_b59b0_43
  · exact absurd c19 (by omega)
theorem inJx4a65c_remove_915e3_Jx4a65c : ∀ w ∈ u_ws RJx4a65c TJx4a65c 3, w ∈ wsJx4a65c_remove_915e3 := (fun _ h => (List.mem_cons_of_mem _ (List.mem_append_right _ h)))
set_option maxHeartbeats 4000000 in
set_option maxRecDepth 100000 in
theorem l_remove {l : Launch} {G : fw_G} {A : Nat → Prop} {f0 : fw_F}   {b h q md sz : Nat} (e0 : f0 h = some (b, eB 0 [.int (nI md), .ref q, .int (nI sz)])) {cap : Nat} {g : Nat → Option Nat} (e1 : f0 q = some (b + 2, eO G cap g)) {x : Nat} (i : Nat) (hi : sz = i + 1) (hsz : sz ≤ cap) (hcap : cap < 2 ^ 31) (hx : g i = some x)  : Met l yJx4a65c_remove_915e3 wsJx4a65c_remove_915e3 ({ frames := 2, cells := 0, slots := 0, locals := 43 }) (va_Pc [.ref h, .int (nI i)] (fw_P G A f0)) (fw_Qr G A (fun (x1 : Nat) (f1 : fw_F) => f1 h = some (b, eB 0 [.int (nI (md + 1)), .ref q, .int (nI i)]) ∧ f1 q = some (b + 2, eO G cap (va_up g i none)) ∧ fw_fr f0 f1 b (b + 3))) 0 0 A := by
  refine q_head rfl (by decide) (Nat.le_of_ble_eq_true rfl) ?_
  intro p e s m below meth c ls C hr hlk hnm P hl
  have S := P.start
  have hl : lv_has ls 4 [(0, .ref h), (1, .int (nI i))] := hl
  have F := fw_fr_rf f0 b (b + 3)
  refine lv_iload_n C.1 C.2.1 dJx4a65c_remove_915e3_0 rfl (lv_at hl 1 rfl) ?_
  refine lv_aload_n C.1 C.2.1 dJx4a65c_remove_915e3_1 rfl (lv_at hl 0 rfl) ?_
  refine q_get C S e0 rfl inJx4a65c_remove_915e3_Jx4a65c 2 (by decide) (List.mem_of_getElem? (i := 1) rfl) rfl dJx4a65c_remove_915e3_2 ?_
  refine q_callSSi (As := [.int (nI i), .int (nI sz)]) (rest := []) C S hl (l_check i sz (by omega) (by omega)) (va_cwS 2 C.2.2.2.2 gJx4a65c_remove_915e3_J15_checkIndex_7cf53 rfl rfl rfl (by decide +kernel) ⟨Nat.le_of_ble_eq_true rfl, Nat.le_of_ble_eq_true rfl⟩) rfl rfl (Nat.le_of_ble_eq_true rfl) ⟨Nat.le_of_ble_eq_true rfl, Nat.le_of_ble_eq_true rfl⟩ dJx4a65c_remove_915e3_5 (fun v hv => ?_)
  subst hv
  refine lv_pop C.1 C.2.1 dJx4a65c_remove_915e3_8 rfl ?_
  refine lv_aload_n C.1 C.2.1 dJx4a65c_remove_915e3_9 rfl (lv_at hl 0 rfl) ?_
  refine q_get C S e0 rfl inJx4a65c_remove_915e3_Jx4a65c 1 (by decide) (List.mem_of_getElem? (i := 2) rfl) rfl dJx4a65c_remove_915e3_10 ?_
  refine lv_astore_n (lv' := [(2, .ref q), (0, .ref h), (1, .int (nI i))]) C.1 C.2.1 dJx4a65c_remove_915e3_13 rfl hl (by decide) rfl (fun ls hl => ?_)
  refine lv_aload_n C.1 C.2.1 dJx4a65c_remove_915e3_14 rfl (lv_at hl 0 rfl) ?_
  refine lv_iload_n C.1 C.2.1 dJx4a65c_remove_915e3_15 rfl (lv_at hl 2 rfl) ?_
  refine q_oald C S e1 (k := i) (x := x) (by omega) (by omega) hx dJx4a65c_remove_915e3_16 ?_
  refine lv_astore_n (lv' := [(3, .ref x), (2, .ref q), (0, .ref h), (1, .int (nI i))]) C.1 C.2.1 dJx4a65c_remove_915e3_17 rfl hl (by decide) rfl (fun ls hl => ?_)
  refine lv_aload_n C.1 C.2.1 dJx4a65c_remove_915e3_18 rfl (lv_at hl 2 rfl) ?_
  refine lv_aload_n C.1 C.2.1 dJx4a65c_remove_915e3_19 rfl (lv_at hl 1 rfl) ?_
  refine lv_iload_n C.1 C.2.1 dJx4a65c_remove_915e3_20 rfl (lv_at hl 3 rfl) ?_
  refine q_callQv (As := [.ref q, .int (nI i)]) (rest := []) C S hl e0 rfl (l_fastRemove e0 e1 i hi hsz hcap) (cwV 2 C.2.2.2.2 gJx4a65c_remove_915e3_Jx4a65c_fastRemove_b59b0 rfl rfl rfl (by decide +kernel) ⟨Nat.le_of_ble_eq_true rfl, Nat.le_of_ble_eq_true rfl⟩) rfl rfl (Nat.le_of_ble_eq_true rfl) ⟨Nat.le_of_ble_eq_true rfl, Nat.le_of_ble_eq_true rfl⟩ dJx4a65c_remove_915e3_21 (fun f H locs hv S => ?_)
  refine lv_aload_n C.1 C.2.1 dJx4a65c_remove_915e3_24 rfl (lv_at hl 0 rfl) ?_
  exact q_retQr C S hr (Or.inl ⟨_, rfl⟩) hlk hv dJx4a65c_remove_915e3_25
set_option maxHeartbeats 4000000 in
set_option maxRecDepth 100000 in
theorem l_newLength {l : Launch} {G : fw_G} {A : Nat → Prop} {f0 : fw_F}   (o u v : Nat) (ho : o < 1000) (hu : u < 1000) (hv : v < 1000) (hp : 0 < max u v + o)  : Met l yJ8_newLength_cabcc wsJ8_newLength_cabcc ({ frames := 1, cells := 0, slots := 0, locals := 21 }) (va_Pc [.int (nI o), .int (nI u), .int (nI v)] (fw_P G A f0)) (vp_Si (fun (r : Int32) => r = nI (o + max u v))) 0 0 (fun _ => False) := by
  refine q_head rfl (by decide) (Nat.le_of_ble_eq_true rfl) ?_
  intro p e s m below meth c ls C hr hlk hnm P hl
  have S := P.start
  have hl : lv_has ls 4 [(0, .int (nI o)), (1, .int (nI u)), (2, .int (nI v))] := hl
  refine lv_iload_n C.1 C.2.1 dJ8_newLength_cabcc_0 rfl (lv_at hl 0 rfl) ?_
  refine lv_iload_n C.1 C.2.1 dJ8_newLength_cabcc_1 rfl (lv_at hl 1 rfl) ?_
  refine lv_iload_n C.1 C.2.1 dJ8_newLength_cabcc_2 rfl (lv_at hl 2 rfl) ?_
  refine va_mmax C.1 C.2.1 (C.2.2.1.trans hl.1.symm) C.2.2.2.1 (C.2.2.2.2 _ (List.mem_of_getElem? (i := 1) rfl)) (C.2.2.2.2 _ (List.mem_of_getElem? (i := 2) rfl)) (C.2.2.2.2 _ (List.mem_of_getElem? (i := 3) rfl)) (C.2.2.2.2 _ (List.mem_of_getElem? (i := 4) rfl)) (Nat.le_of_ble_eq_true rfl) (Nat.le_of_ble_eq_true rfl) (Nat.le_of_ble_eq_true rfl) (Nat.le_of_ble_eq_true rfl) dJ8_newLength_cabcc_3 ?_
  rw [q_mx (by omega) (by omega)]
  refine q_iadd C dJ8_newLength_cabcc_6 ?_
  refine lv_istore_n (lv' := [(3, .int (nI (o + (max u v)))), (0, .int (nI o)), (1, .int (nI u)), (2, .int (nI v))]) C.1 C.2.1 dJ8_newLength_cabcc_7 rfl hl (by decide) rfl (fun ls hl => ?_)
  refine lv_iconst (v := nI 0) C.1 C.2.1 dJ8_newLength_cabcc_8 (by decide) ?_
  refine lv_iload_n C.1 C.2.1 dJ8_newLength_cabcc_9 rfl (lv_at hl 0 rfl) ?_
  refine q_ge (tgt := 21) C (by decide) (by omega) dJ8_newLength_cabcc_10 (by decide) (fun c10 => ?_) (fun c10 => ?_)
  · exact absurd c10 (by omega)
  · refine lv_iload_n C.1 C.2.1 dJ8_newLength_cabcc_13 rfl (lv_at hl 0 rfl) ?_
    refine lv_ldc (v := nI 2147483639) C.1 C.2.1 C.2.2.2.1 (C.2.2.2.2 _ (List.mem_of_getElem? (i := 5) rfl)) dJ8_newLength_cabcc_14 ?_
    refine q_gt (tgt := 21) C (by omega) (by decide) dJ8_newLength_cabcc_16 (by decide) (fun c16 => ?_) (fun c16 => ?_)
    · exact absurd c16 (by omega)
    · refine lv_iload_n C.1 C.2.1 dJ8_newLength_cabcc_19 rfl (lv_at hl 0 rfl) ?_
      exact q_retSi C hr hlk rfl dJ8_newLength_cabcc_20
set_option maxHeartbeats 4000000 in
set_option maxRecDepth 100000 in
theorem l_copyOf3 {l : Launch} {G : fw_G} {A : Nat → Prop} {f0 : fw_F}   {b q cap n ci : Nat} {Cq : vw_C} {g : Nat → Option Nat} (e1 : f0 q = some (b + 2, eO G cap g)) (hcc : vwCl[ci]? = some Cq) (hci : ci = 1 ∨ ci = 2) (hel : ∀ i y, g i = some y → ∃ j fs, f0 y = some (j, eB ci fs)) (hcap : cap ≤ 128) (hn : n ≤ 128)  : Met l yJ7_copyOf_6403c wsJ7_copyOf_6403c ({ frames := 1, cells := 1, slots := 128, locals := 40 }) (va_Pc [.ref q, .int (nI n), .ref (G.2.1 9)] (fw_P G A f0)) (fw_Qr G A (fun (x1 : Nat) (f1 : fw_F) => f1 x1 = some (b + 2, eO G n (va_cpy g (fun _ => none) 0 0 (min cap n))) ∧ f0 x1 = none ∧ fw_ex f0 f1)) 1 128 A := by
  refine q_head rfl (by decide) (Nat.le_of_ble_eq_true rfl) ?_
  intro p e s m below meth c ls C hr hlk hnm P hl
  have S := P.start
  have hl : lv_has ls 4 [(0, .ref q), (1, .int (nI n)), (2, .ref (G.2.1 9))] := hl
  have hca : va_Nw (.castable Cq.1 "java/lang/Object") s := by rcases hci with rfl | rfl <;> cases hcc; exact S.2.2.2.1.2.2.2.1.2.1; exact S.2.2.2.1.2.2.2.1.2.2.2.1
  refine lv_aload_n C.1 C.2.1 dJ7_copyOf_6403c_0 rfl (lv_at hl 2 rfl) ?_
  refine va_ldcM C.1 C.2.1 C.2.2.2.1 (C.2.2.2.2 _ (List.mem_of_getElem? (i := 1) rfl)) S.2.2.2.1.2.2.2.2.2.2 dJ7_copyOf_6403c_1 ?_
  refine lv_acmp_ne (rx := some (G.2.1 9)) (ry := some (G.2.1 9)) (tgt := 13) C.1 C.2.1 dJ7_copyOf_6403c_3 (by decide) (fun c3 => ?_) (fun c3 => ?_)
  · exact absurd rfl c3
  · refine lv_iload_n C.1 C.2.1 dJ7_copyOf_6403c_6 rfl (lv_at hl 1 rfl) ?_
    refine q_onew C S (List.mem_of_getElem? (i := 2) rfl) (b + 2) (n := n) (by omega) (Nat.le_of_ble_eq_true rfl) (by show 0 + n ≤ 128; omega) dJ7_copyOf_6403c_7 (fun q1 H hq S => ?_)
    refine W.widen (k := 1) (n := 128) (Nat.le_refl 1) (by omega) ?_
    obtain ⟨f, S, hex, e1, e2, hel⟩ : ∃ f, fw_S G A s f H _ ∧ fw_ex f0 f ∧ f q = some (b + 2, eO G cap g) ∧ f q1 = some (b + 2, eO G n (fun _ => none)) ∧ (∀ i y, g i = some y → ∃ j fs, f y = some (j, eB ci fs)) := ⟨_, S, fun y z hy => fw_new hy hq, fw_new e1 hq, fw_eq _ _ _, fun i y hy => by obtain ⟨j, fs, h1⟩ := hel i y hy; exact ⟨j, fs, fw_new h1 hq⟩⟩
    refine lv_goto (tgt := 24) C.1 C.2.1 dJ7_copyOf_6403c_10 (by decide) ?_
    refine lv_astore_n (lv' := [(3, .ref q1), (0, .ref q), (1, .int (nI n)), (2, .ref (G.2.1 9))]) C.1 C.2.1 dJ7_copyOf_6403c_24 rfl hl (by decide) rfl (fun ls hl => ?_)
    refine lv_aload_n C.1 C.2.1 dJ7_copyOf_6403c_25 rfl (lv_at hl 1 rfl) ?_
    refine lv_iconst (v := nI 0) C.1 C.2.1 dJ7_copyOf_6403c_26 (by decide) ?_
    refine lv_aload_n C.1 C.2.1 dJ7_copyOf_6403c_27 rfl (lv_at hl 0 rfl) ?_
    refine lv_iconst (v := nI 0) C.1 C.2.1 dJ7_copyOf_6403c_28 (by decide) ?_
    refine lv_aload_n C.1 C.2.1 dJ7_copyOf_6403c_29 rfl (lv_at hl 1 rfl) ?_
    refine q_olen C S e1 dJ7_copyOf_6403c_30 ?_
    refine lv_iload_n C.1 C.2.1 dJ7_copyOf_6403c_31 rfl (lv_at hl 2 rfl) ?_
    refine va_mmin C.1 C.2.1 (C.2.2.1.trans hl.1.symm) C.2.2.2.1 (C.2.2.2.2 _ (List.mem_of_getElem? (i := 3) rfl)) (C.2.2.2.2 _ (List.mem_of_getElem? (i := 4) rfl)) (C.2.2.2.2 _ (List.mem_of_getElem? (i := 5) rfl)) (C.2.2.2.2 _ (List.mem_of_getElem? (i := 6) rfl)) (Nat.le_of_ble_eq_true rfl) (Nat.le_of_ble_eq_true rfl) (Nat.le_of_ble_eq_true rfl) (Nat.le_of_ble_eq_true rfl) dJ7_copyOf_6403c_32 ?_
    rw [q_mn (by omega) (by omega)]
    refine q_copyO C S hl.1 (List.mem_of_getElem? (i := 7) rfl) (List.mem_of_getElem? (i := 8) rfl) (List.mem_of_getElem? (i := 9) rfl) (List.mem_of_getElem? (i := 10) rfl) (n := (min cap n)) hcc hca hel e1 e2 (by omega) (by omega) (by omega) (Nat.le_of_ble_eq_true rfl) (Nat.le_of_ble_eq_true rfl) dJ7_copyOf_6403c_35 (fun H locs S => ?_)
    obtain ⟨f, S, hex, e2⟩ : ∃ f, fw_S G A s f H locs ∧ fw_ex f0 f ∧ f q1 = some (b + 2, eO G n (va_cpy g (fun _ => none) 0 0 (min cap n))) := ⟨_, S, fun y z hy => (fw_ne (fun e => by subst e; rw [hq] at hy; cases hy)).trans (hex y z hy), fw_eq _ _ _⟩
    refine lv_aload_n C.1 C.2.1 dJ7_copyOf_6403c_38 rfl (lv_at hl 0 rfl) ?_
    exact q_retQr C S hr (Or.inr ⟨_, rfl⟩) hlk ⟨e2, hq, hex⟩ dJ7_copyOf_6403c_39
set_option maxHeartbeats 4000000 in
set_option maxRecDepth 100000 in
theorem l_copyOf {l : Launch} {G : fw_G} {A : Nat → Prop} {f0 : fw_F}   {b q cap n ci : Nat} {Cq : vw_C} {g : Nat → Option Nat} (e1 : f0 q = some (b + 2, eO G cap g)) (hcc : vwCl[ci]? = some Cq) (hci : ci = 1 ∨ ci = 2) (hel : ∀ i y, g i = some y → ∃ j fs, f0 y = some (j, eB ci fs)) (hcap : cap ≤ 128) (hn : n ≤ 128)  : Met l yJ7_copyOf_1904c wsJ7_copyOf_1904c ({ frames := 2, cells := 1, slots := 128, locals := 63 }) (va_Pc [.ref q, .int (nI n)] (fw_P G A f0)) (fw_Qr G A (fun (x1 : Nat) (f1 : fw_F) => f1 x1 = some (b + 2, eO G n (va_cpy g (fun _ => none) 0 0 (min cap n))) ∧ f0 x1 = none ∧ fw_ex f0 f1)) 1 128 A := by
  refine q_head rfl (by decide) (Nat.le_of_ble_eq_true rfl) ?_
  intro p e s m below meth c ls C hr hlk hnm P hl
  have S := P.start
  have hl : lv_has ls 2 [(0, .ref q), (1, .int (nI n))] := hl
  refine lv_aload_n C.1 C.2.1 dJ7_copyOf_1904c_0 rfl (lv_at hl 0 rfl) ?_
  refine lv_iload_n C.1 C.2.1 dJ7_copyOf_1904c_1 rfl (lv_at hl 1 rfl) ?_
  refine lv_aload_n C.1 C.2.1 dJ7_copyOf_1904c_2 rfl (lv_at hl 0 rfl) ?_
  refine va_getC C.1 C.2.1 (C.2.2.1.trans hl.1.symm) C.2.2.2.1 (C.2.2.2.2 _ (List.mem_of_getElem? (i := 1) rfl)) (va_Dc.use S.2.2.2.1.2.2.2.2.2.1) (C.2.2.2.2 _ (List.mem_of_getElem? (i := 2) rfl)) (C.2.2.2.2 _ (List.mem_of_getElem? (i := 3) rfl)) (C.2.2.2.2 _ (List.mem_of_getElem? (i := 4) rfl)) S.2.2.2.1.2.2.2.2.2.2 (q_arr S e1) (Nat.le_of_ble_eq_true rfl) (Nat.le_of_ble_eq_true rfl) dJ7_copyOf_1904c_3 ?_
  refine q_callSQr (As := [.ref q, .int (nI n), .ref (G.2.1 9)]) (rest := []) C S hl (l_copyOf3 (b := b) e1 hcc hci hel hcap hn) (va_cwS 3 C.2.2.2.2 gJ7_copyOf_1904c_J7_copyOf_6403c rfl rfl rfl (by decide +kernel) ⟨Nat.le_of_ble_eq_true rfl, Nat.le_of_ble_eq_true rfl⟩) rfl rfl (Nat.le_of_ble_eq_true rfl) ⟨Nat.le_of_ble_eq_true rfl, Nat.le_of_ble_eq_true rfl⟩ dJ7_copyOf_1904c_6 (fun x f H locs hv S => ?_)
  exact q_retQr C S hr (Or.inr ⟨_, rfl⟩) hlk hv dJ7_copyOf_1904c_9
theorem inJx4a65c_grow_92f84_Jx4a65c : ∀ w ∈ u_ws RJx4a65c TJx4a65c 3, w ∈ wsJx4a65c_grow_92f84 := (fun _ h => (List.mem_cons_of_mem _ (List.mem_append_right _ h)))
set_option maxHeartbeats 4000000 in
set_option maxRecDepth 100000 in
theorem l_growS {l : Launch} {G : fw_G} {A : Nat → Prop} {f0 : fw_F}   {b h q md sz : Nat} (e0 : f0 h = some (b, eB 0 [.int (nI md), .ref G.2.2, .int (nI sz)])) {g : Nat → Option Nat} (mn : Nat) (hmn : 1 ≤ mn ∧ mn ≤ 64)  : Met l yJx4a65c_grow_92f84 wsJx4a65c_grow_92f84 ({ frames := 3, cells := 1, slots := 128, locals := 100 }) (va_Pc [.ref h, .int (nI mn)] (fw_P G A f0)) (fw_Qr G A (fun (x1 : Nat) (f1 : fw_F) => ∃ cap2 g2, f1 x1 = some (b + 2, eO G cap2 g2) ∧ f1 h = some (b, eB 0 [.int (nI md), .ref x1, .int (nI sz)]) ∧ (∀ i, i < 0 → g2 i = g i) ∧ (∀ i y, g2 i = some y → g i = some y) ∧ 0 < cap2 ∧ cap2 ≤ 96 ∧ fw_fr f0 f1 b (b + 3))) 1 128 A := by
  refine q_head rfl (by decide) (Nat.le_of_ble_eq_true rfl) ?_
  intro p e s m below meth c ls C hr hlk hnm P hl
  have S := P.start
  have hl : lv_has ls 4 [(0, .ref h), (1, .int (nI mn))] := hl
  have F := fw_fr_rf f0 b (b + 3)
  refine lv_aload_n C.1 C.2.1 dJx4a65c_grow_92f84_0 rfl (lv_at hl 0 rfl) ?_
  refine q_get C S e0 rfl inJx4a65c_grow_92f84_Jx4a65c 1 (by decide) (List.mem_of_getElem? (i := 1) rfl) rfl dJx4a65c_grow_92f84_1 ?_
  refine q_tlen C S dJx4a65c_grow_92f84_4 ?_
  refine lv_istore_n (lv' := [(2, .int (nI 0)), (0, .ref h), (1, .int (nI mn))]) C.1 C.2.1 dJx4a65c_grow_92f84_5 rfl hl (by decide) rfl (fun ls hl => ?_)
  refine lv_iload_n C.1 C.2.1 dJx4a65c_grow_92f84_6 rfl (lv_at hl 0 rfl) ?_
  refine q_ifgtN (tgt := 20) C (by decide) dJx4a65c_grow_92f84_7 (by decide) (fun c7 => ?_) (fun c7 => ?_)
  · exact absurd c7 (Nat.lt_irrefl 0)
  · refine lv_aload_n C.1 C.2.1 dJx4a65c_grow_92f84_10 rfl (lv_at hl 1 rfl) ?_
    refine q_get C S e0 rfl inJx4a65c_grow_92f84_Jx4a65c 1 (by decide) (List.mem_of_getElem? (i := 1) rfl) rfl dJx4a65c_grow_92f84_11 ?_
    refine q_gets C S (List.mem_of_getElem? (i := 2) rfl) dJx4a65c_grow_92f84_14 ?_
    refine lv_acmp_eq (rx := some G.2.2) (ry := some G.2.2) (tgt := 45) C.1 C.2.1 dJx4a65c_grow_92f84_17 (by decide) (fun c17 => ?_) (fun c17 => ?_)
    · refine lv_aload_n C.1 C.2.1 dJx4a65c_grow_92f84_45 rfl (lv_at hl 1 rfl) ?_
      refine lv_bipush (v := nI 10) C.1 C.2.1 dJx4a65c_grow_92f84_46 (by decide) ?_
      refine lv_iload_n C.1 C.2.1 dJx4a65c_grow_92f84_48 rfl (lv_at hl 2 rfl) ?_
      refine va_mmax C.1 C.2.1 (C.2.2.1.trans hl.1.symm) C.2.2.2.1 (C.2.2.2.2 _ (List.mem_of_getElem? (i := 3) rfl)) (C.2.2.2.2 _ (List.mem_of_getElem? (i := 4) rfl)) (C.2.2.2.2 _ (List.mem_of_getElem? (i := 5) rfl)) (C.2.2.2.2 _ (List.mem_of_getElem? (i := 6) rfl)) (Nat.le_of_ble_eq_true rfl) (Nat.le_of_ble_eq_true rfl) (Nat.le_of_ble_eq_true rfl) (Nat.le_of_ble_eq_true rfl) dJx4a65c_grow_92f84_49 ?_
      rw [q_mx (by decide) (by omega)]
      refine q_onew C S (List.mem_of_getElem? (i := 7) rfl) (b + 2) (n := (max 10 mn)) (by omega) (Nat.le_of_ble_eq_true rfl) (by show 0 + (max 10 mn) ≤ 128; omega) dJx4a65c_grow_92f84_52 (fun q1 H hq S => ?_)
      refine W.widen (k := 1) (n := 128) (Nat.le_refl 1) (by omega) ?_
      obtain ⟨f, S, F, e0, e2⟩ : ∃ f, fw_S G A s f H _ ∧ fw_fr f0 f b (b + 3) ∧ f h = some (b, eB 0 [.int (nI md), .ref G.2.2, .int (nI sz)]) ∧ f q1 = some (b + 2, eO G (max 10 mn) (fun _ => none)) := ⟨_, S, fw_fr_nw F hq, fw_new e0 hq, fw_eq _ _ _⟩
      refine lv_dup_x1 C.1 C.2.1 dJx4a65c_grow_92f84_55 rfl rfl ?_
      refine q_put C S e0 rfl inJx4a65c_grow_92f84_Jx4a65c tyJx4a65c tyJx4a65c_ok nmJx4a65c 1 (by decide) (List.mem_of_getElem? (i := 1) rfl) rfl rfl rfl (Nat.le_of_ble_eq_true rfl) dJx4a65c_grow_92f84_56 (fun H locs S => ?_)
      obtain ⟨f, S, F, e0, e2⟩ : ∃ f, fw_S G A s f H locs ∧ fw_fr f0 f b (b + 3) ∧ f h = some (b, eB 0 [.int (nI md), .ref q1, .int (nI sz)]) ∧ f q1 = some (b + 2, eO G (max 10 mn) (fun _ => none)) := ⟨_, S, fw_fr_up F e0 (by omega) (by omega), fw_eq _ _ _, fw_keep e2 e0 (by omega)⟩
      exact q_retQr C S hr (Or.inr ⟨_, rfl⟩) hlk ⟨_, _, e2, e0, fun i hi => absurd hi (Nat.not_lt_zero i), (fun i y hy => by cases hy), by omega, by omega, F⟩ dJx4a65c_grow_92f84_59
    · exact absurd rfl c17
set_option maxHeartbeats 4000000 in
set_option maxRecDepth 100000 in
theorem l_growA {l : Launch} {G : fw_G} {A : Nat → Prop} {f0 : fw_F}   {b h q md sz : Nat} (e0 : f0 h = some (b, eB 0 [.int (nI md), .ref q, .int (nI sz)])) {cap : Nat} {g : Nat → Option Nat} (e1 : f0 q = some (b + 2, eO G cap g)) {ci : Nat} {Cq : vw_C} (hcc : vwCl[ci]? = some Cq) (hci : ci = 1 ∨ ci = 2) (hel : ∀ i y, g i = some y → ∃ j fs, f0 y = some (j, eB ci fs)) (mn : Nat) (hmn : mn = cap + 1) (hc0 : 0 < cap) (hcap : cap ≤ 63)  : Met l yJx4a65c_grow_92f84 wsJx4a65c_grow_92f84 ({ frames := 3, cells := 1, slots := 128, locals := 100 }) (va_Pc [.ref h, .int (nI mn)] (fw_P G A f0)) (fw_Qr G A (fun (x1 : Nat) (f1 : fw_F) => ∃ cap2 g2, f1 x1 = some (b + 2, eO G cap2 g2) ∧ f1 h = some (b, eB 0 [.int (nI md), .ref x1, .int (nI sz)]) ∧ (∀ i, i < cap → g2 i = g i) ∧ (∀ i y, g2 i = some y → g i = some y) ∧ cap < cap2 ∧ cap2 ≤ 96 ∧ fw_fr f0 f1 b (b + 3))) 1 128 A := by
  refine q_head rfl (by decide) (Nat.le_of_ble_eq_true rfl) ?_
  intro p e s m below meth c ls C hr hlk hnm P hl
  have S := P.start
  have hl : lv_has ls 4 [(0, .ref h), (1, .int (nI mn))] := hl
  have F := fw_fr_rf f0 b (b + 3)
  refine lv_aload_n C.1 C.2.1 dJx4a65c_grow_92f84_0 rfl (lv_at hl 0 rfl) ?_
  refine q_get C S e0 rfl inJx4a65c_grow_92f84_Jx4a65c 1 (by decide) (List.mem_of_getElem? (i := 1) rfl) rfl dJx4a65c_grow_92f84_1 ?_
  refine q_olen C S e1 dJx4a65c_grow_92f84_4 ?_
  refine lv_istore_n (lv' := [(2, .int (nI cap)), (0, .ref h), (1, .int (nI mn))]) C.1 C.2.1 dJx4a65c_grow_92f84_5 rfl hl (by decide) rfl (fun ls hl => ?_)
  refine lv_iload_n C.1 C.2.1 dJx4a65c_grow_92f84_6 rfl (lv_at hl 0 rfl) ?_
  refine q_ifgtN (tgt := 20) C (by omega) dJx4a65c_grow_92f84_7 (by decide) (fun c7 => ?_) (fun c7 => ?_)
  · refine lv_iload_n C.1 C.2.1 dJx4a65c_grow_92f84_20 rfl (lv_at hl 0 rfl) ?_
    refine lv_iload_n C.1 C.2.1 dJx4a65c_grow_92f84_21 rfl (lv_at hl 2 rfl) ?_
    refine lv_iload_n C.1 C.2.1 dJx4a65c_grow_92f84_22 rfl (lv_at hl 0 rfl) ?_
    refine q_isub C (by omega) dJx4a65c_grow_92f84_23 ?_
    refine lv_iload_n C.1 C.2.1 dJx4a65c_grow_92f84_24 rfl (lv_at hl 0 rfl) ?_
    refine lv_iconst (v := nI 1) C.1 C.2.1 dJx4a65c_grow_92f84_25 (by decide) ?_
    refine lv_ishr C.1 C.2.1 dJx4a65c_grow_92f84_26 ?_
    rw [pk_shrN (n := cap) (by omega) (nI 1 &&& 31) 1 (by decide)]
    refine q_callSSi (As := [.int (nI cap), .int (nI (mn - cap)), .int (nI (cap / 2 ^ 1))]) (rest := []) C S hl (l_newLength cap (mn - cap) (cap / 2 ^ 1) (by omega) (by omega) (by omega) (by omega)) (va_cwS 3 C.2.2.2.2 gJx4a65c_grow_92f84_J8_newLength_cabcc rfl rfl rfl (by decide +kernel) ⟨Nat.le_of_ble_eq_true rfl, Nat.le_of_ble_eq_true rfl⟩) rfl rfl (Nat.le_of_ble_eq_true rfl) ⟨Nat.le_of_ble_eq_true rfl, Nat.le_of_ble_eq_true rfl⟩ dJx4a65c_grow_92f84_27 (fun v hv => ?_)
    subst hv
    refine lv_istore_n (lv' := [(3, .int (nI (cap + (max (mn - cap) (cap / 2 ^ 1))))), (2, .int (nI cap)), (0, .ref h), (1, .int (nI mn))]) C.1 C.2.1 dJx4a65c_grow_92f84_30 rfl hl (by decide) rfl (fun ls hl => ?_)
    refine lv_aload_n C.1 C.2.1 dJx4a65c_grow_92f84_31 rfl (lv_at hl 2 rfl) ?_
    refine lv_aload_n C.1 C.2.1 dJx4a65c_grow_92f84_32 rfl (lv_at hl 2 rfl) ?_
    refine q_get C S e0 rfl inJx4a65c_grow_92f84_Jx4a65c 1 (by decide) (List.mem_of_getElem? (i := 1) rfl) rfl dJx4a65c_grow_92f84_33 ?_
    refine lv_iload_n C.1 C.2.1 dJx4a65c_grow_92f84_36 rfl (lv_at hl 0 rfl) ?_
    refine q_callSQr (As := [.ref q, .int (nI (cap + (max (mn - cap) (cap / 2 ^ 1))))]) (rest := [.ref h]) C S hl (l_copyOf (b := b) (n := (cap + (max (mn - cap) (cap / 2 ^ 1)))) e1 hcc hci hel (by omega) (by omega)) (va_cwS 2 C.2.2.2.2 gJx4a65c_grow_92f84_J7_copyOf_1904c rfl rfl rfl (by decide +kernel) ⟨Nat.le_of_ble_eq_true rfl, Nat.le_of_ble_eq_true rfl⟩) rfl rfl (Nat.le_of_ble_eq_true rfl) ⟨Nat.le_of_ble_eq_true rfl, Nat.le_of_ble_eq_true rfl⟩ dJx4a65c_grow_92f84_37 (fun x f H locs hv S => ?_)
    obtain ⟨e2, hq0, hex⟩ := hv
    have e0 := hex _ _ e0
    have F : fw_fr f0 _ b (b + 3) := fun y j z hy hj => hex _ _ (F y j z hy hj)
    refine lv_dup_x1 C.1 C.2.1 dJx4a65c_grow_92f84_40 rfl rfl ?_
    refine q_put C S e0 rfl inJx4a65c_grow_92f84_Jx4a65c tyJx4a65c tyJx4a65c_ok nmJx4a65c 1 (by decide) (List.mem_of_getElem? (i := 1) rfl) rfl rfl rfl (Nat.le_of_ble_eq_true rfl) dJx4a65c_grow_92f84_41 (fun H locs S => ?_)
    obtain ⟨f, S, F, e0, e2⟩ : ∃ f, fw_S G A s f H locs ∧ fw_fr f0 f b (b + 3) ∧ f h = some (b, eB 0 [.int (nI md), .ref x, .int (nI sz)]) ∧ f x = some (b + 2, eO G (cap + (max (mn - cap) (cap / 2 ^ 1))) (va_cpy g (fun _ => none) 0 0 (min cap (cap + (max (mn - cap) (cap / 2 ^ 1)))))) := ⟨_, S, fw_fr_up F e0 (by omega) (by omega), fw_eq _ _ _, fw_keep e2 e0 (by omega)⟩
    exact q_retQr C S hr (Or.inr ⟨_, rfl⟩) hlk ⟨_, _, e2, e0, fun i hi => (by rw [pk_cpy_in (Nat.zero_le i) (by omega)]; congr 1; omega), fun i y hy => (by unfold va_cpy at hy; split at hy; exact (congrArg g (by omega)).trans hy; cases hy), by omega, by omega, F⟩ dJx4a65c_grow_92f84_44
  · exact absurd c7 (by omega)
theorem l_growI {l : Launch} {G : fw_G} {A : Nat → Prop} {f0 : fw_F} {b h q md sz cap ci : Nat} {g : Nat → Option Nat} {Cq : vw_C} (e0 : f0 h = some (b, eB 0 [.int (nI md), .ref q, .int (nI sz)])) (D : (q = G.2.2 ∧ cap = 0) ∨ (f0 q = some (b + 2, eO G cap g) ∧ 0 < cap)) (hcc : vwCl[ci]? = some Cq) (hci : ci = 1 ∨ ci = 2) (hel : ∀ i y, g i = some y → ∃ j fs, f0 y = some (j, eB ci fs)) (mn : Nat) (hmn : mn = cap + 1) (hcap : cap ≤ 63) : Met l yJx4a65c_grow_92f84 wsJx4a65c_grow_92f84 ({ frames := 3, cells := 1, slots := 128, locals := 100 }) (va_Pc [.ref h, .int (nI mn)] (fw_P G A f0)) (fw_Qr G A (fun (x1 : Nat) (f1 : fw_F) => ∃ cap2 g2, f1 x1 = some (b + 2, eO G cap2 g2) ∧ f1 h = some (b, eB 0 [.int (nI md), .ref x1, .int (nI sz)]) ∧ (∀ i, i < cap → g2 i = g i) ∧ (∀ i y, g2 i = some y → g i = some y) ∧ cap < cap2 ∧ cap2 ≤ 96 ∧ fw_fr f0 f1 b (b + 3))) 1 128 A := by
  rcases D with ⟨rfl, rfl⟩ | ⟨e1, hc0⟩
  · exact l_growS (q := 0) e0 mn (by omega)
  · exact l_growA e0 e1 hcc hci hel mn hmn hc0 hcap
theorem inJx4a65c_grow_d5877_Jx4a65c : ∀ w ∈ u_ws RJx4a65c TJx4a65c 3, w ∈ wsJx4a65c_grow_d5877 := (fun _ h => (List.mem_cons_of_mem _ (List.mem_append_right _ h)))
set_option maxHeartbeats 4000000 in
set_option maxRecDepth 100000 in
theorem l_grow {l : Launch} {G : fw_G} {A : Nat → Prop} {f0 : fw_F}   {b h q md sz : Nat} (e0 : f0 h = some (b, eB 0 [.int (nI md), .ref q, .int (nI sz)])) {cap ci : Nat} {g : Nat → Option Nat} {Cq : vw_C} (D : (q = G.2.2 ∧ cap = 0) ∨ (f0 q = some (b + 2, eO G cap g) ∧ 0 < cap)) (hcc : vwCl[ci]? = some Cq) (hci : ci = 1 ∨ ci = 2) (hel : ∀ i y, g i = some y → ∃ j fs, f0 y = some (j, eB ci fs)) (hsc : sz = cap) (hcap : cap ≤ 63)  : Met l yJx4a65c_grow_d5877 wsJx4a65c_grow_d5877 ({ frames := 4, cells := 1, slots := 128, locals := 123 }) (va_Pc [.ref h] (fw_P G A f0)) (fw_Qr G A (fun (x1 : Nat) (f1 : fw_F) => ∃ cap2 g2, f1 x1 = some (b + 2, eO G cap2 g2) ∧ f1 h = some (b, eB 0 [.int (nI md), .ref x1, .int (nI sz)]) ∧ (∀ i, i < cap → g2 i = g i) ∧ (∀ i y, g2 i = some y → g i = some y) ∧ cap < cap2 ∧ cap2 ≤ 96 ∧ fw_fr f0 f1 b (b + 3))) 1 128 A := by
  refine q_head rfl (by decide) (Nat.le_of_ble_eq_true rfl) ?_
  intro p e s m below meth c ls C hr hlk hnm P hl
  have S := P.start
  have hl : lv_has ls 1 [(0, .ref h)] := hl
  have F := fw_fr_rf f0 b (b + 3)
  refine lv_aload_n C.1 C.2.1 dJx4a65c_grow_d5877_0 rfl (lv_at hl 0 rfl) ?_
  refine lv_aload_n C.1 C.2.1 dJx4a65c_grow_d5877_1 rfl (lv_at hl 0 rfl) ?_
  refine q_get C S e0 rfl inJx4a65c_grow_d5877_Jx4a65c 2 (by decide) (List.mem_of_getElem? (i := 1) rfl) rfl dJx4a65c_grow_d5877_2 ?_
  refine lv_iconst (v := nI 1) C.1 C.2.1 dJx4a65c_grow_d5877_5 (by decide) ?_
  refine q_iadd C dJx4a65c_grow_d5877_6 ?_
  refine q_callQr (As := [.int (nI (sz + 1))]) (rest := []) C S hl e0 rfl (l_growI e0 D hcc hci hel (sz + 1) (by omega) (by omega)) (cwV 1 C.2.2.2.2 gJx4a65c_grow_d5877_Jx4a65c_grow_92f84 rfl rfl rfl (by decide +kernel) ⟨Nat.le_of_ble_eq_true rfl, Nat.le_of_ble_eq_true rfl⟩) rfl rfl (Nat.le_of_ble_eq_true rfl) ⟨Nat.le_of_ble_eq_true rfl, Nat.le_of_ble_eq_true rfl⟩ dJx4a65c_grow_d5877_7 (fun x f H locs hv S => ?_)
  exact q_retQr C S hr (Or.inr ⟨_, rfl⟩) hlk hv dJx4a65c_grow_d5877_10
theorem inJx4a65c_add_72be8_Jx4a65c : ∀ w ∈ u_ws RJx4a65c TJx4a65c 3, w ∈ wsJx4a65c_add_72be8 := (fun _ h => (List.mem_cons_of_mem _ (List.mem_append_right _ h)))
set_option maxHeartbeats 4000000 in
set_option maxRecDepth 100000 in
theorem l_add3 {l : Launch} {G : fw_G} {A : Nat → Prop} {f0 : fw_F}   {b h q md sz : Nat} (e0 : f0 h = some (b, eB 0 [.int (nI md), .ref q, .int (nI sz)])) {cap ci : Nat} {g : Nat → Option Nat} {Cq : vw_C} (D : (q = G.2.2 ∧ cap = 0) ∨ (f0 q = some (b + 2, eO G cap g) ∧ 0 < cap)) (hcc : vwCl[ci]? = some Cq) (hci : ci = 1 ∨ ci = 2) (hel : ∀ i y, g i = some y → ∃ j fs, f0 y = some (j, eB ci fs)) {x jx : Nat} {vs : List Value} (hx : f0 x = some (jx, eB ci vs)) (hjx : jx < b ∨ b + 3 ≤ jx) (hsz : sz ≤ cap) (hs63 : sz ≤ 63) (hcap : cap ≤ 96)   : Met l yJx4a65c_add_72be8 wsJx4a65c_add_72be8 ({ frames := 5, cells := 1, slots := 128, locals := 143 }) (va_Pc [.ref h, .ref x, .ref q, .int (nI sz)] (fw_P G A f0)) (va_Qv (fun (f1 : fw_F) => ∃ q2 cap2 g2, f1 h = some (b, eB 0 [.int (nI md), .ref q2, .int (nI (sz + 1))]) ∧ f1 q2 = some (b + 2, eO G cap2 g2) ∧ sz + 1 ≤ cap2 ∧ cap2 ≤ 96 ∧ (∀ i, i < sz → g2 i = g i) ∧ g2 sz = some x ∧ (∀ i y, g2 i = some y → (i = sz ∧ y = x) ∨ g i = some y) ∧ fw_fr f0 f1 b (b + 3)) (fw_B G A) A) 1 128 A := by
  refine q_head rfl (by decide) (Nat.le_of_ble_eq_true rfl) ?_
  intro p e s m below meth c ls C hr hlk hnm P hl
  have S := P.start
  have hl : lv_has ls 4 [(0, .ref h), (1, .ref x), (2, .ref q), (3, .int (nI sz))] := hl
  have F := fw_fr_rf f0 b (b + 3)
  have hca : va_Nw (.castable Cq.1 "java/lang/Object") s := by rcases hci with rfl | rfl <;> cases hcc; exact S.2.2.2.1.2.2.2.1.2.1; exact S.2.2.2.1.2.2.2.1.2.2.2.1
  refine lv_iload_n C.1 C.2.1 dJx4a65c_add_72be8_0 rfl (lv_at hl 3 rfl) ?_
  refine lv_aload_n C.1 C.2.1 dJx4a65c_add_72be8_1 rfl (lv_at hl 2 rfl) ?_
  rcases D with ⟨rfl, rfl⟩ | ⟨e1, hc0⟩
  · have D : (G.2.2 = G.2.2 ∧ 0 = 0) ∨ (f0 G.2.2 = some (b + 2, eO G 0 g) ∧ 0 < 0) := Or.inl ⟨rfl, rfl⟩
    refine q_tlen C S dJx4a65c_add_72be8_2 ?_
    refine q_nee (tgt := 11) C (by omega) (by decide) dJx4a65c_add_72be8_3 (by decide) (fun c3 => ?_) (fun c3 => ?_)
    · exact absurd c3 (by omega)
    · refine lv_aload_n C.1 C.2.1 dJx4a65c_add_72be8_6 rfl (lv_at hl 0 rfl) ?_
      refine q_callQr (As := []) (rest := []) C S hl e0 rfl (l_grow e0 D hcc hci hel (by omega) (by omega)) (cwV 0 C.2.2.2.2 gJx4a65c_add_72be8_Jx4a65c_grow_d5877 rfl rfl rfl (by decide +kernel) ⟨Nat.le_of_ble_eq_true rfl, Nat.le_of_ble_eq_true rfl⟩) rfl rfl (Nat.le_of_ble_eq_true rfl) ⟨Nat.le_of_ble_eq_true rfl, Nat.le_of_ble_eq_true rfl⟩ dJx4a65c_add_72be8_7 (fun q2 f H locs hv S => ?_)
      obtain ⟨cap2, g2, e1, e0, hg2, hg3, hc2, hc3, F⟩ := hv
      refine lv_astore_n (lv' := [(2, .ref q2), (0, .ref h), (1, .ref x), (3, .int (nI sz))]) C.1 C.2.1 dJx4a65c_add_72be8_10 rfl hl (by decide) rfl (fun ls hl => ?_)
      refine lv_aload_n C.1 C.2.1 dJx4a65c_add_72be8_11 rfl (lv_at hl 0 rfl) ?_
      refine lv_iload_n C.1 C.2.1 dJx4a65c_add_72be8_12 rfl (lv_at hl 3 rfl) ?_
      refine lv_aload_n C.1 C.2.1 dJx4a65c_add_72be8_13 rfl (lv_at hl 2 rfl) ?_
      refine q_oast C S e1 (k := sz) (F x jx _ hx hjx) hcc hca (by omega) (by omega) dJx4a65c_add_72be8_14 (fun H locs S => ?_)
      obtain ⟨f, S, F, e0, e1⟩ : ∃ f, fw_S G A s f H locs ∧ fw_fr f0 f b (b + 3) ∧ f h = some (b, eB 0 [.int (nI md), .ref q2, .int (nI sz)]) ∧ f q2 = some (b + 2, eO G cap2 (va_up g2 sz (some x))) := ⟨_, S, fw_fr_up F e1 (by omega) (by omega), fw_keep e0 e1 (by omega), fw_eq _ _ _⟩
      refine lv_aload_n C.1 C.2.1 dJx4a65c_add_72be8_15 rfl (lv_at hl 1 rfl) ?_
      refine lv_iload_n C.1 C.2.1 dJx4a65c_add_72be8_16 rfl (lv_at hl 3 rfl) ?_
      refine lv_iconst (v := nI 1) C.1 C.2.1 dJx4a65c_add_72be8_17 (by decide) ?_
      refine q_iadd C dJx4a65c_add_72be8_18 ?_
      refine q_put C S e0 rfl inJx4a65c_add_72be8_Jx4a65c tyJx4a65c tyJx4a65c_ok nmJx4a65c 2 (by decide) (List.mem_of_getElem? (i := 1) rfl) rfl rfl rfl (Nat.le_of_ble_eq_true rfl) dJx4a65c_add_72be8_19 (fun H locs S => ?_)
      obtain ⟨f, S, F, e0, e1⟩ : ∃ f, fw_S G A s f H locs ∧ fw_fr f0 f b (b + 3) ∧ f h = some (b, eB 0 [.int (nI md), .ref q2, .int (nI (sz + 1))]) ∧ f q2 = some (b + 2, eO G cap2 (va_up g2 sz (some x))) := ⟨_, S, fw_fr_up F e0 (by omega) (by omega), fw_eq _ _ _, fw_keep e1 e0 (by omega)⟩
      exact q_retQv C S hr hlk ⟨_, _, _, e0, e1, by omega, by omega, fun i hi => by rw [up_n (by omega)]; exact hg2 i (by omega), up_s _ _ _, fun i y hy => (by by_cases qq : i = sz; rw [qq, up_s] at hy; exact Or.inl ⟨qq, (Option.some.inj hy).symm⟩; rw [up_n qq] at hy; exact Or.inr (hg3 i y hy)), F⟩ dJx4a65c_add_72be8_22
  · have D : (q = G.2.2 ∧ cap = 0) ∨ (f0 q = some (b + 2, eO G cap g) ∧ 0 < cap) := Or.inr ⟨e1, hc0⟩
    refine q_olen C S e1 dJx4a65c_add_72be8_2 ?_
    refine q_nee (tgt := 11) C (by omega) (by omega) dJx4a65c_add_72be8_3 (by decide) (fun c3 => ?_) (fun c3 => ?_)
    · refine lv_aload_n C.1 C.2.1 dJx4a65c_add_72be8_11 rfl (lv_at hl 2 rfl) ?_
      refine lv_iload_n C.1 C.2.1 dJx4a65c_add_72be8_12 rfl (lv_at hl 3 rfl) ?_
      refine lv_aload_n C.1 C.2.1 dJx4a65c_add_72be8_13 rfl (lv_at hl 1 rfl) ?_
      refine q_oast C S e1 (k := sz) (F x jx _ hx hjx) hcc hca (by omega) (by omega) dJx4a65c_add_72be8_14 (fun H locs S => ?_)
      obtain ⟨f, S, F, e0, e1⟩ : ∃ f, fw_S G A s f H locs ∧ fw_fr f0 f b (b + 3) ∧ f h = some (b, eB 0 [.int (nI md), .ref q, .int (nI sz)]) ∧ f q = some (b + 2, eO G cap (va_up g sz (some x))) := ⟨_, S, fw_fr_up F e1 (by omega) (by omega), fw_keep e0 e1 (by omega), fw_eq _ _ _⟩
      refine lv_aload_n C.1 C.2.1 dJx4a65c_add_72be8_15 rfl (lv_at hl 0 rfl) ?_
      refine lv_iload_n C.1 C.2.1 dJx4a65c_add_72be8_16 rfl (lv_at hl 3 rfl) ?_
      refine lv_iconst (v := nI 1) C.1 C.2.1 dJx4a65c_add_72be8_17 (by decide) ?_
      refine q_iadd C dJx4a65c_add_72be8_18 ?_
      refine q_put C S e0 rfl inJx4a65c_add_72be8_Jx4a65c tyJx4a65c tyJx4a65c_ok nmJx4a65c 2 (by decide) (List.mem_of_getElem? (i := 1) rfl) rfl rfl rfl (Nat.le_of_ble_eq_true rfl) dJx4a65c_add_72be8_19 (fun H locs S => ?_)
      obtain ⟨f, S, F, e0, e1⟩ : ∃ f, fw_S G A s f H locs ∧ fw_fr f0 f b (b + 3) ∧ f h = some (b, eB 0 [.int (nI md), .ref q, .int (nI (sz + 1))]) ∧ f q = some (b + 2, eO G cap (va_up g sz (some x))) := ⟨_, S, fw_fr_up F e0 (by omega) (by omega), fw_eq _ _ _, fw_keep e1 e0 (by omega)⟩
      refine W.widen (k := 1) (n := 128) (Nat.zero_le _) (Nat.zero_le _) ?_
      exact q_retQv C S hr hlk ⟨_, _, _, e0, e1, by omega, by omega, fun i hi => by rw [up_n (by omega)], up_s _ _ _, fun i y hy => (by by_cases qq : i = sz; rw [qq, up_s] at hy; exact Or.inl ⟨qq, (Option.some.inj hy).symm⟩; rw [up_n qq] at hy; exact Or.inr hy), F⟩ dJx4a65c_add_72be8_22
    · refine lv_aload_n C.1 C.2.1 dJx4a65c_add_72be8_6 rfl (lv_at hl 0 rfl) ?_
      refine q_callQr (As := []) (rest := []) C S hl e0 rfl (l_grow e0 D hcc hci hel (by omega) (by omega)) (cwV 0 C.2.2.2.2 gJx4a65c_add_72be8_Jx4a65c_grow_d5877 rfl rfl rfl (by decide +kernel) ⟨Nat.le_of_ble_eq_true rfl, Nat.le_of_ble_eq_true rfl⟩) rfl rfl (Nat.le_of_ble_eq_true rfl) ⟨Nat.le_of_ble_eq_true rfl, Nat.le_of_ble_eq_true rfl⟩ dJx4a65c_add_72be8_7 (fun q2 f H locs hv S => ?_)
      obtain ⟨cap2, g2, e1, e0, hg2, hg3, hc2, hc3, F⟩ := hv
      refine lv_astore_n (lv' := [(2, .ref q2), (0, .ref h), (1, .ref x), (3, .int (nI sz))]) C.1 C.2.1 dJx4a65c_add_72be8_10 rfl hl (by decide) rfl (fun ls hl => ?_)
      refine lv_aload_n C.1 C.2.1 dJx4a65c_add_72be8_11 rfl (lv_at hl 0 rfl) ?_
      refine lv_iload_n C.1 C.2.1 dJx4a65c_add_72be8_12 rfl (lv_at hl 3 rfl) ?_
      refine lv_aload_n C.1 C.2.1 dJx4a65c_add_72be8_13 rfl (lv_at hl 2 rfl) ?_
      refine q_oast C S e1 (k := sz) (F x jx _ hx hjx) hcc hca (by omega) (by omega) dJx4a65c_add_72be8_14 (fun H locs S => ?_)
      obtain ⟨f, S, F, e0, e1⟩ : ∃ f, fw_S G A s f H locs ∧ fw_fr f0 f b (b + 3) ∧ f h = some (b, eB 0 [.int (nI md), .ref q2, .int (nI sz)]) ∧ f q2 = some (b + 2, eO G cap2 (va_up g2 sz (some x))) := ⟨_, S, fw_fr_up F e1 (by omega) (by omega), fw_keep e0 e1 (by omega), fw_eq _ _ _⟩
      refine lv_aload_n C.1 C.2.1 dJx4a65c_add_72be8_15 rfl (lv_at hl 1 rfl) ?_
      refine lv_iload_n C.1 C.2.1 dJx4a65c_add_72be8_16 rfl (lv_at hl 3 rfl) ?_
      refine lv_iconst (v := nI 1) C.1 C.2.1 dJx4a65c_add_72be8_17 (by decide) ?_
      refine q_iadd C dJx4a65c_add_72be8_18 ?_
      refine q_put C S e0 rfl inJx4a65c_add_72be8_Jx4a65c tyJx4a65c tyJx4a65c_ok nmJx4a65c 2 (by decide) (List.mem_of_getElem? (i := 1) rfl) rfl rfl rfl (Nat.le_of_ble_eq_true rfl) dJx4a65c_add_72be8_19 (fun H locs S => ?_)
      obtain ⟨f, S, F, e0, e1⟩ : ∃ f, fw_S G A s f H locs ∧ fw_fr f0 f b (b + 3) ∧ f h = some (b, eB 0 [.int (nI md), .ref q2, .int (nI (sz + 1))]) ∧ f q2 = some (b + 2, eO G cap2 (va_up g2 sz (some x))) := ⟨_, S, fw_fr_up F e0 (by omega) (by omega), fw_eq _ _ _, fw_keep e1 e0 (by omega)⟩
      exact q_retQv C S hr hlk ⟨_, _, _, e0, e1, by omega, by omega, fun i hi => by rw [up_n (by omega)]; exact hg2 i (by omega), up_s _ _ _, fun i y hy => (by by_cases qq : i = sz; rw [qq, up_s] at hy; exact Or.inl ⟨qq, (Option.some.inj hy).symm⟩; rw [up_n qq] at hy; exact Or.inr (hg3 i y hy)), F⟩ dJx4a65c_add_72be8_22
theorem inJx4a65c_add_9ea2d_Jx4a65c : ∀ w ∈ u_ws RJx4a65c TJx4a65c 3, w ∈ wsJx4a65c_add_9ea2d := (fun _ h => (List.mem_cons_of_mem _ (List.mem_append_right _ h)))
set_option maxHeartbeats 4000000 in
set_option maxRecDepth 100000 in
theorem l_add {l : Launch} {G : fw_G} {A : Nat → Prop} {f0 : fw_F}   {b h q md sz : Nat} (e0 : f0 h = some (b, eB 0 [.int (nI md), .ref q, .int (nI sz)])) {cap ci : Nat} {g : Nat → Option Nat} {Cq : vw_C} (D : (q = G.2.2 ∧ cap = 0) ∨ (f0 q = some (b + 2, eO G cap g) ∧ 0 < cap)) (hcc : vwCl[ci]? = some Cq) (hci : ci = 1 ∨ ci = 2) (hel : ∀ i y, g i = some y → ∃ j fs, f0 y = some (j, eB ci fs) ∧ j ≠ b) {x jx : Nat} {vs : List Value} (hx : f0 x = some (jx, eB ci vs)) (hjx : jx < b ∨ b + 3 ≤ jx) (hsz : sz ≤ cap) (hs63 : sz ≤ 63) (hcap : cap ≤ 96)   : Met l yJx4a65c_add_9ea2d wsJx4a65c_add_9ea2d ({ frames := 6, cells := 1, slots := 128, locals := 166 }) (va_Pc [.ref h, .ref x] (fw_P G A f0)) (va_Qi (fun (r : Int32) (f1 : fw_F) => r = bI true ∧ ∃ q2 cap2 g2, f1 h = some (b, eB 0 [.int (nI (md + 1)), .ref q2, .int (nI (sz + 1))]) ∧ f1 q2 = some (b + 2, eO G cap2 g2) ∧ sz + 1 ≤ cap2 ∧ cap2 ≤ 96 ∧ (∀ i, i < sz → g2 i = g i) ∧ g2 sz = some x ∧ (∀ i y, g2 i = some y → (i = sz ∧ y = x) ∨ g i = some y) ∧ fw_fr f0 f1 b (b + 3)) (fw_B G A) A) 1 128 A := by
  refine q_head rfl (by decide) (Nat.le_of_ble_eq_true rfl) ?_
  intro p e s m below meth c ls C hr hlk hnm P hl
  have S := P.start
  have hl : lv_has ls 2 [(0, .ref h), (1, .ref x)] := hl
  have F := fw_fr_rf f0 b (b + 3)
  refine lv_aload_n C.1 C.2.1 dJx4a65c_add_9ea2d_0 rfl (lv_at hl 0 rfl) ?_
  refine lv_dup C.1 C.2.1 dJx4a65c_add_9ea2d_1 rfl ?_
  refine q_getI C S e0 rfl inJx4a65c_add_9ea2d_Jx4a65c 0 (by decide) (List.mem_of_getElem? (i := 1) rfl) (List.mem_of_getElem? (i := 2) rfl) rfl dJx4a65c_add_9ea2d_2 ?_
  refine lv_iconst (v := nI 1) C.1 C.2.1 dJx4a65c_add_9ea2d_5 (by decide) ?_
  refine q_iadd C dJx4a65c_add_9ea2d_6 ?_
  refine q_putI C S e0 rfl inJx4a65c_add_9ea2d_Jx4a65c tyJx4a65c tyJx4a65c_ok nmJx4a65c 0 (by decide) (List.mem_of_getElem? (i := 1) rfl) (List.mem_of_getElem? (i := 2) rfl) rfl rfl rfl (Nat.le_of_ble_eq_true rfl) dJx4a65c_add_9ea2d_7 (fun H locs S => ?_)
  obtain ⟨f, S, F, e0, D2, hel2⟩ : ∃ f, fw_S G A s f H locs ∧ fw_fr f0 f b (b + 3) ∧ f h = some (b, eB 0 [.int (nI (md + 1)), .ref q, .int (nI sz)]) ∧ ((q = G.2.2 ∧ cap = 0) ∨ (f q = some (b + 2, eO G cap g) ∧ 0 < cap)) ∧ (∀ i y, g i = some y → ∃ j fs, f y = some (j, eB ci fs)) := ⟨_, S, fw_fr_up F e0 (by omega) (by omega), fw_eq _ _ _, D.imp id (fun d => ⟨fw_keep d.1 e0 (by omega), d.2⟩), fun i y hy => by obtain ⟨j, fs, h1, h2⟩ := hel i y hy; exact ⟨j, fs, fw_keep h1 e0 (by omega)⟩⟩
  refine lv_aload_n C.1 C.2.1 dJx4a65c_add_9ea2d_10 rfl (lv_at hl 0 rfl) ?_
  refine lv_aload_n C.1 C.2.1 dJx4a65c_add_9ea2d_11 rfl (lv_at hl 1 rfl) ?_
  refine lv_aload_n C.1 C.2.1 dJx4a65c_add_9ea2d_12 rfl (lv_at hl 0 rfl) ?_
  refine q_get C S e0 rfl inJx4a65c_add_9ea2d_Jx4a65c 1 (by decide) (List.mem_of_getElem? (i := 3) rfl) rfl dJx4a65c_add_9ea2d_13 ?_
  refine lv_aload_n C.1 C.2.1 dJx4a65c_add_9ea2d_16 rfl (lv_at hl 0 rfl) ?_
  refine q_get C S e0 rfl inJx4a65c_add_9ea2d_Jx4a65c 2 (by decide) (List.mem_of_getElem? (i := 4) rfl) rfl dJx4a65c_add_9ea2d_17 ?_
  have D : (q = G.2.2 ∧ cap = 0) ∨ (f q = some (b + 2, eO G cap g) ∧ 0 < cap) := D2
  refine q_callQv (As := [.ref x, .ref q, .int (nI sz)]) (rest := []) C S hl e0 rfl (l_add3 e0 D hcc hci hel2 (F x jx _ hx hjx) hjx hsz hs63 hcap) (cwV 3 C.2.2.2.2 gJx4a65c_add_9ea2d_Jx4a65c_add_72be8 rfl rfl rfl (by decide +kernel) ⟨Nat.le_of_ble_eq_true rfl, Nat.le_of_ble_eq_true rfl⟩) rfl rfl (Nat.le_of_ble_eq_true rfl) ⟨Nat.le_of_ble_eq_true rfl, Nat.le_of_ble_eq_true rfl⟩ dJx4a65c_add_9ea2d_20 (fun f H locs hv S => ?_)
  obtain ⟨q2, cap2, g2, h1, h2, h3, h4, h5, h6, h7, F1⟩ := hv
  have F := fw_fr_tr F F1
  refine lv_iconst (v := nI 1) C.1 C.2.1 dJx4a65c_add_9ea2d_23 (by decide) ?_
  exact q_retQz (b := true) C S hr hlk rfl ⟨rfl, q2, cap2, g2, h1, h2, h3, h4, h5, h6, h7, F⟩ dJx4a65c_add_9ea2d_24
