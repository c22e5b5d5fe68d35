/-! rows of the law -/
abbrev lA (s : State) : Nat → Prop := fun q : Nat => s.heap.size ≤ q
def lgv (a b : Int32) : Int64 := (a.toInt64 <<< ((32 : Int32).toInt64 &&& 63)) ||| (b.toInt64 &&& 4294967295)
section LAWR
variable {p : Program} {l : Launch} {e : Env} {s : State} {m : MethodId} {below : List Frame} {meth : Method} {c : Code} {b L : Nat} {xs : Nat → Int32} {G : fw_G} {f : fw_F} {H : Heap} {locs : List Loc} {cells slots t i hm hc : Nat} {Q : State → Prop} {ls : Array Slot} {rest : List Value} {pc : Nat}
theorem l_ld (C0 : lw_At p s m meth c b L xs) (hS : va_S (lA s) s.heap H locs) (h0 : ls[0]? = some (.val (.ref b))) (h3 : ls[3]? = some (.val (.int (nI i)))) {n : Int} (k : Nat) (hk : Int32.ofInt n = nI k) (hi : i + k < L) (hL : L ≤ 3072) (d0 : decode code pc = .ok (.aload_n 0, 1)) (d1 : decode code (pc + 1) = .ok (.iload_n 3, 1)) (d2 : decode code (pc + 2) = .ok (.iconst n, 1)) (d3 : decode code (pc + 3) = .ok (.iadd, 1)) (d4 : decode code (pc + 4) = .ok (.iaload, 1)) (kk : W p l e room_1 s m #[Value.ref b] below meth c H locs cells slots Q (F0 m (pc + 5) ls (.int (xs (i + k)) :: rest))) : W p l e room_1 s m #[Value.ref b] below meth c H locs cells slots Q (F0 m pc ls rest) := by
  obtain ⟨hx, hb, hr, hml, hown, hts, hX, hbl, hlocks, hgv⟩ := C0
  refine lv_aload_n hx hb d0 rfl h0 ?_
  refine lv_iload_n hx hb d1 rfl h3 ?_
  refine lv_iconst hx hb d2 hk ?_
  refine lv_iadd hx hb d3 ?_
  rw [nI_add]
  refine va_sld hx hb hX hbl (Nat.not_le.mpr hbl) hS (vp_in_nI hi (by omega)) d4 ?_
  rw [nI_clamp (by omega)]
  exact kk
theorem l_lg (C0 : lw_At p s m meth c b L xs) (hS : va_S (lA s) s.heap H locs) (h0 : ls[0]? = some (.val (.ref b))) (h3 : ls[3]? = some (.val (.int (nI i)))) {n n2 : Int} (k : Nat) (hk : Int32.ofInt n = nI k) (hk2 : Int32.ofInt n2 = nI (k + 1)) (hi : i + k + 1 < L) (hL : L ≤ 3072) (d0 : decode code pc = .ok (.aload_n 0, 1)) (d1 : decode code (pc + 1) = .ok (.iload_n 3, 1)) (d2 : decode code (pc + 2) = .ok (.iconst n, 1)) (d3 : decode code (pc + 3) = .ok (.iadd, 1)) (d4 : decode code (pc + 4) = .ok (.iaload, 1)) (d5 : decode code (pc + 5) = .ok (.i2l, 1)) (d6 : decode code (pc + 6) = .ok (.bipush 32, 2)) (d8 : decode code (pc + 8) = .ok (.lshl, 1)) (d9 : decode code (pc + 9) = .ok (.aload_n 0, 1)) (d10 : decode code (pc + 10) = .ok (.iload_n 3, 1)) (d11 : decode code (pc + 11) = .ok (.iconst n2, 1)) (d12 : decode code (pc + 12) = .ok (.iadd, 1)) (d13 : decode code (pc + 13) = .ok (.iaload, 1)) (d14 : decode code (pc + 14) = .ok (.i2l, 1)) (d15 : decode code (pc + 15) = .ok (.ldc2_w 18, 3)) (d18 : decode code (pc + 18) = .ok (.land, 1)) (d19 : decode code (pc + 19) = .ok (.lor, 1)) (kk : W p l e room_1 s m #[Value.ref b] below meth c H locs cells slots Q (F0 m (pc + 20) ls (.long (lgv (xs (i + k)) (xs (i + (k + 1)))) :: rest))) : W p l e room_1 s m #[Value.ref b] below meth c H locs cells slots Q (F0 m pc ls rest) := by
  refine l_ld C0 hS h0 h3 k hk (by omega) hL d0 d1 d2 d3 d4 ?_
  refine lv_i2l C0.1 C0.2.1 d5 rfl ?_
  refine lv_bipush (v := 32) C0.1 C0.2.1 d6 (by decide) ?_
  refine lv_lshl C0.1 C0.2.1 d8 rfl ?_
  refine l_ld C0 hS h0 h3 (k + 1) hk2 (by omega) hL d9 d10 d11 d12 d13 ?_
  refine lv_i2l C0.1 C0.2.1 d14 rfl ?_
  refine lv_ldc2 (own := RL) (v := 4294967295) C0.1 C0.2.1 C0.2.2.2.2.1 (C0.2.2.2.2.2.1 _ gw_6.1) d15 ?_
  refine lv_land C0.1 C0.2.1 d18 ?_
  exact lv_lor C0.1 C0.2.1 d19 kk
end LAWR
