/-! the law's loop -/
set_option maxRecDepth 20000 in
theorem law_loop {p : Program} {l : Launch} {e : Env} {s : State} {m : MethodId} {below : List Frame} {meth : Method} {c : Code} {b L : Nat} {xs : Nat → Int32} {G : fw_G} {hm hc : Nat} (hL : L ≤ 3072) (C0 : lw_At p s m meth c b L xs) : ∀ (n j : Nat), 6 * j ≤ L → L < 6 * (j + n) → ∀ (f : fw_F) (H : Heap) (locs : List Loc) (ls : Array Slot), fw_S G (lA s) s f H locs → WR G f hm hc (8 * j) → lv_has ls 4 [(0, .ref b), (1, .ref hc), (2, .ref hm), (3, .int (nI (6 * j)))] → W p l e room_1 s m #[Value.ref b] below meth c H locs (44 + 8 * j) (40591 + 519 * j) (lw_Z below #[Value.ref b] s) (F0 m 18 ls [])
  | 0, j, h1, h2, _, _, _, _, _, _, _ => absurd h2 (by omega)
  | n + 1, j, h1, h2, f, H, locs, ls, S, W0, hl => by
    obtain ⟨hx, hb, hr, hml, hown, hts, hX, hbl, hlocks, hgv⟩ := id C0
    have hS := S.2.2.2.2.2
    have hbA : ¬ lA s b := Nat.not_le.mpr hbl
    refine lv_iload_n hx hb dL_law_18 rfl (lv_at hl 3 rfl) ?_
    refine lv_aload_n hx hb dL_law_19 rfl (lv_at hl 0 rfl) ?_
    refine va_slen hx hb hX hbl hbA hS dL_law_20 ?_
    refine lv_bipush (v := 6) hx hb dL_law_21 (by decide) ?_
    refine lv_isub hx hb dL_law_23 ?_
    refine lv_icmp_gt (tgt := 687) hx hb dL_law_24 (by decide) (fun _ => ?_) (fun hq => ?_)
    · refine lv_iconst (v := 1) hx hb dL_law_687 (by decide) ?_
      refine va_forget (fun q hq => hS.2.2 q hq) ?_
      refine W.widen (k := 600000) (n := 7302250) (by omega) (by omega) ?_
      exact lw_ret hx hb hr hlocks dL_law_688
    · have hi : 6 * j + 6 ≤ L := l_gt hL (by omega) hq
      have hR : (44 + 8 * j) + 8 ≤ room_1.cells ∧ (40591 + 519 * j) + 519 ≤ room_1.slots := ⟨(by omega : (44 + 8 * j) + 8 ≤ 600000), (by omega : (40591 + 519 * j) + 519 ≤ 7302250)⟩
      have ht : 8 * j + 8 ≤ 6400 := by omega
      have kk : ∀ (f' : fw_F) (H' : Heap) (locs' : List Loc), fw_S G (lA s) s f' H' locs' → WR G f' hm hc (8 * j + 8) → W p l e room_1 s m #[Value.ref b] below meth c H' locs' (44 + 8 * j + 8) (40591 + 519 * j + 519) (lw_Z below #[Value.ref b] s) (F0 m 681 ls []) := by
        intro f' H' locs' S' W'
        refine lv_iinc (v := nI (6 * (j + 1))) (lv' := [(3, .int (nI (6 * (j + 1)))), (0, .ref b), (1, .ref hc), (2, .ref hm)]) hx hb dL_law_681 hl (k := 3) rfl (nI_add (6 * j) 6) (by decide) rfl (fun ls hl => ?_)
        refine lv_goto (tgt := 18) hx hb dL_law_684 (by decide) ?_
        refine W.widen (k := 44 + 8 * (j + 1)) (n := 40591 + 519 * (j + 1)) (by omega) (by omega) ?_
        exact law_loop hL C0 n (j + 1) (by omega) (by omega) f' H' locs' ls S' (W_le W' (by omega)) (lv_sub hl [1, 2, 3, 0] rfl)
      refine lv_aload_n hx hb dL_law_27 rfl (lv_at hl 0 rfl) ?_
      refine lv_iload_n hx hb dL_law_28 rfl (lv_at hl 3 rfl) ?_
      refine va_sld hx hb hX hbl hbA hS (vp_in_nI (by omega) (by omega)) dL_law_29 ?_
      refine lv_bipush (v := 15) hx hb dL_law_30 (by decide) ?_
      refine lv_iand hx hb dL_law_32 ?_
      obtain ⟨k, hk, ek⟩ := and15 (xs (nI (6 * j)).toNatClampNeg)
      rw [ek]
      rcases (show k = 0 ∨ k = 1 ∨ k = 2 ∨ k = 3 ∨ k = 4 ∨ k = 5 ∨ k = 6 ∨ k = 7 ∨ k = 8 ∨ k = 9 ∨ k = 10 ∨ k = 11 ∨ k = 12 ∨ k = 13 ∨ k = 14 ∨ k = 15 by omega) with rfl | rfl | rfl | rfl | rfl | rfl | rfl | rfl | rfl | rfl | rfl | rfl | rfl | rfl | rfl | rfl
      · refine lv_tableIn (off := 75) (tgt := 108) hx hb dL_law_33 (by decide) (by decide) (by decide) (by decide) ?_
        exact law_name hL C0 S W0 ht hl hi hR kk
      · refine lv_tableIn (off := 88) (tgt := 121) hx hb dL_law_33 (by decide) (by decide) (by decide) (by decide) ?_
        exact law_span hL C0 S W0 ht hl hi hR kk
      · refine lv_tableIn (off := 191) (tgt := 224) hx hb dL_law_33 (by decide) (by decide) (by decide) (by decide) ?_
        exact law_give hL C0 S W0 ht hl hi hR kk
      · refine lv_tableIn (off := 254) (tgt := 287) hx hb dL_law_33 (by decide) (by decide) (by decide) (by decide) ?_
        exact law_equal hL C0 S W0 ht hl hi hR kk
      · refine lv_tableIn (off := 287) (tgt := 320) hx hb dL_law_33 (by decide) (by decide) (by decide) (by decide) ?_
        exact law_put hL C0 S W0 ht hl hi hR kk
      · refine lv_tableIn (off := 350) (tgt := 383) hx hb dL_law_33 (by decide) (by decide) (by decide) (by decide) ?_
        exact law_keep hL C0 S W0 ht hl hi hR kk
      · refine lv_tableIn (off := 413) (tgt := 446) hx hb dL_law_33 (by decide) (by decide) (by decide) (by decide) ?_
        exact law_label hL C0 S W0 ht hl hi hR kk
      · refine lv_tableIn (off := 426) (tgt := 459) hx hb dL_law_33 (by decide) (by decide) (by decide) (by decide) ?_
        exact law_way hL C0 S W0 ht hl hi hR kk
      · refine lv_tableIn (off := 460) (tgt := 493) hx hb dL_law_33 (by decide) (by decide) (by decide) (by decide) ?_
        exact law_take hL C0 S W0 ht hl hi hR kk
      · refine lv_tableIn (off := 483) (tgt := 516) hx hb dL_law_33 (by decide) (by decide) (by decide) (by decide) ?_
        exact law_mark hL C0 S W0 ht hl hi hR kk
      · refine lv_tableIn (off := 496) (tgt := 529) hx hb dL_law_33 (by decide) (by decide) (by decide) (by decide) ?_
        exact law_back hL C0 S W0 ht hl hi hR kk
      · refine lv_tableIn (off := 509) (tgt := 542) hx hb dL_law_33 (by decide) (by decide) (by decide) (by decide) ?_
        exact law_about hL C0 S W0 ht hl hi hR kk
      · refine lv_tableIn (off := 542) (tgt := 575) hx hb dL_law_33 (by decide) (by decide) (by decide) (by decide) ?_
        exact law_bound hL C0 S W0 ht hl hi hR kk
      · refine lv_tableIn (off := 592) (tgt := 625) hx hb dL_law_33 (by decide) (by decide) (by decide) (by decide) ?_
        exact law_kept hL C0 S W0 ht hl hi hR kk
      · refine lv_tableIn (off := 625) (tgt := 658) hx hb dL_law_33 (by decide) (by decide) (by decide) (by decide) ?_
        exact law_count hL C0 S W0 ht hl hi hR kk
      · refine lv_tableOut (tgt := 681) hx hb dL_law_33 (by decide) (by decide) ?_
        exact W.widen (by omega) (by omega) (kk f H locs S (W_le W0 (by omega)))
set_option maxRecDepth 20000 in
/-- THE LAW, from its entry -/
theorem whole_start {p : Program} {e : Env} {s : State} {m : MethodId} {below : List Frame} {meth : Method} {c : Code} (l : Launch) {b L : Nat} {xs : Nat → Int32} (hL : L ≤ 3072) (C0 : lw_At p s m meth c b L xs) : W p l e room_1 s m #[Value.ref b] below meth c s.heap [] 0 0 (lw_Z below #[Value.ref b] s) (entryFrame m ([Value.ref b] : List Value).toArray 4) := by
  obtain ⟨hx, hb, hr, hml, hown, hts, hX, hbl, hlocks, hgv⟩ := id C0
  have C : CallFix p m c code 4 s #[Value.ref b] lw_tbl RL := ⟨hx, hb, hml, hown, hts⟩
  obtain ⟨G, S⟩ := law_S hts hgv
  have hl := lv_entry ([.ref b]) (n := 4) (Nat.le_of_ble_eq_true rfl)
  rw [lg_entry_eq]
  generalize (lg_sl ([.ref b]) ++ List.replicate (4 - (lg_sl ([.ref b])).length) Slot.unset).toArray = ls at hl ⊢
  have hl : lv_has ls 4 [(0, .ref b)] := hl
  refine q_new C S (ci := 5) rfl (fun w h => (gd_X4 w h).1) tyX4 tyX4_ok gw_0.1 gw_1.1 gw_2.1 3400 (fs := [.null, .null, .null, .null, .null, .null, .int 0]) (fun j hj => match j, hj with | 0, _ => rfl | 1, _ => rfl | 2, _ => rfl | 3, _ => rfl | 4, _ => rfl | 5, _ => rfl | 6, _ => rfl | n + 7, h => absurd h (Nat.not_lt.mpr (Nat.le_add_left _ _))) (Nat.le_of_ble_eq_true rfl) (Nat.le_of_ble_eq_true rfl) dL_law_0 (fun hc H hq S => ?_)
  refine lv_dup hx hb dL_law_3 rfl ?_
  refine q_callIv (As := []) (rest := [.ref hc]) C S hl (p_init (fw_eq _ _ _)) (cwI 0 hts gg_X4_init rfl rfl rfl (hts _ gw_2.1) (hts _ gw_7.1) (hts _ gw_8.1) rfl (by decide +kernel) ⟨Nat.le_of_ble_eq_true rfl, Nat.le_of_ble_eq_true rfl⟩) rfl rfl (Nat.le_of_ble_eq_true rfl) ⟨Nat.le_of_ble_eq_true rfl, Nat.le_of_ble_eq_true rfl⟩ dL_law_4 (fun f H locs hv S => ?_)
  obtain ⟨aC, an, ar, as_, Z⟩ := hv
  refine lv_astore_n (lv' := [(1, .ref hc), (0, .ref b)]) hx hb dL_law_7 rfl hl (by decide) rfl (fun ls hl => ?_)
  refine q_new C S (ci := 6) rfl (fun w h => (gd_X5 w h).1) tyX5 tyX5_ok gw_3.1 gw_4.1 gw_5.1 2000 (fs := [.int 0, .null, .null, .null, .null, .null, .int 0, .null, .null, .int 0, .null, .null, .null, .null, .null, .int 0, .null, .null, .null, .int 0, .null, .null, .null, .null, .null, .null, .null, .null, .null, .int 0, .int 0, .int 0, .int 0, .null]) (fun j hj => match j, hj with | 0, _ => rfl | 1, _ => rfl | 2, _ => rfl | 3, _ => rfl | 4, _ => rfl | 5, _ => rfl | 6, _ => rfl | 7, _ => rfl | 8, _ => rfl | 9, _ => rfl | 10, _ => rfl | 11, _ => rfl | 12, _ => rfl | 13, _ => rfl | 14, _ => rfl | 15, _ => rfl | 16, _ => rfl | 17, _ => rfl | 18, _ => rfl | 19, _ => rfl | 20, _ => rfl | 21, _ => rfl | 22, _ => rfl | 23, _ => rfl | 24, _ => rfl | 25, _ => rfl | 26, _ => rfl | 27, _ => rfl | 28, _ => rfl | 29, _ => rfl | 30, _ => rfl | 31, _ => rfl | 32, _ => rfl | 33, _ => rfl | n + 34, h => absurd h (Nat.not_lt.mpr (Nat.le_add_left _ _))) (Nat.le_of_ble_eq_true rfl) (Nat.le_of_ble_eq_true rfl) dL_law_8 (fun hm H hq S => ?_)
  have Z := CL_ex Z (fun y z hy => fw_new (z := (2000, eB 6 [.int 0, .null, .null, .null, .null, .null, .int 0, .null, .null, .int 0, .null, .null, .null, .null, .null, .int 0, .null, .null, .null, .int 0, .null, .null, .null, .null, .null, .null, .null, .null, .null, .int 0, .int 0, .int 0, .int 0, .null])) hy hq)
  refine lv_dup hx hb dL_law_11 rfl ?_
  refine q_callIv (As := []) (rest := [.ref hm]) C S hl (m_init (fw_eq _ _ _)) (cwI 0 hts gg_X5_init rfl rfl rfl (hts _ gw_5.1) (hts _ gw_70.1) (hts _ gw_71.1) rfl (by decide +kernel) ⟨Nat.le_of_ble_eq_true rfl, Nat.le_of_ble_eq_true rfl⟩) rfl rfl (Nat.le_of_ble_eq_true rfl) ⟨Nat.le_of_ble_eq_true rfl, Nat.le_of_ble_eq_true rfl⟩ dL_law_12 (fun f H locs hv S => ?_)
  obtain ⟨a, O, F⟩ := hv
  have W0 : WR G f hm hc (8 * 0) := W_mk O Z F REL_0 (Nat.le_refl 0)
  refine lv_astore_n (lv' := [(2, .ref hm), (1, .ref hc), (0, .ref b)]) hx hb dL_law_15 rfl hl (by decide) rfl (fun ls hl => ?_)
  refine lv_iconst (v := nI (6 * 0)) hx hb dL_law_16 (by decide) ?_
  refine lv_istore_n (lv' := [(3, .int (nI (6 * 0))), (2, .ref hm), (1, .ref hc), (0, .ref b)]) hx hb dL_law_17 rfl hl (by decide) rfl (fun ls hl => ?_)
  refine W.widen (k := 44 + 8 * 0) (n := 40591 + 519 * 0) (by decide) (by decide) ?_
  exact law_loop hL C0 (L + 1) 0 (by omega) (by omega) f H locs ls S W0 (lv_sub hl [3, 2, 1, 0] rfl)
