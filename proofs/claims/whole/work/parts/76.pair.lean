/-! both sides of a call -/
def hsM (f : fw_F) (hm : Nat) : Prop := ∃ fs, f hm = some (2000, eB 6 fs)
def hsC (f : fw_F) (hc : Nat) : Prop := ∃ fs, f hc = some (3400, eB 5 fs)
def WR (G : fw_G) (f : fw_F) (hm hc t : Nat) : Prop := ∃ (a I : Nat → Nat) (N : Nat → Nat → Nat) (B : Nat → Nat → Bool) (J : Nat → Nat → Int64) (aC an ar as_ : Nat → Nat) (In : Nat → Nat) (Nn : Nat → Nat → Nat) (Bn : Nat → Nat → Bool) (Jn : Nat → Nat → Int64) (Ir : Nat → Nat) (Nr : Nat → Nat → Nat) (Br : Nat → Nat → Bool) (Jr : Nat → Nat → Int64) (Is : Nat → Nat) (Ns : Nat → Nat → Nat) (Bs : Nat → Nat → Bool) (Js : Nat → Nat → Int64) (Ic : Nat → Nat) (Nc : Nat → Nat → Nat) (kn : Nat) (K : Nat → kRT) (mn : Nat) (M : Nat → sNT),
  isO G dM f 2000 hm a I N B J ∧ CL G f f hc aC an ar as_ In Nn Bn Jn Ir Nr Br Jr Is Ns Bs Js Ic Nc kn K mn M ∧ REL In Nn Bn Jn Ir Nr Jr Is Ns Js Ic Nc kn K mn M I N B J ∧ I 6 ≤ t
section PAIRS
variable {G : fw_G} {f f0 f1 : fw_F} {hm hc t : Nat} {a I : Nat → Nat} {N : Nat → Nat → Nat} {B : Nat → Nat → Bool} {J : Nat → Nat → Int64} {aC an ar as_ : Nat → Nat} {In : Nat → Nat} {Nn : Nat → Nat → Nat} {Bn : Nat → Nat → Bool} {Jn : Nat → Nat → Int64} {Ir : Nat → Nat} {Nr : Nat → Nat → Nat} {Br : Nat → Nat → Bool} {Jr : Nat → Nat → Int64} {Is : Nat → Nat} {Ns : Nat → Nat → Nat} {Bs : Nat → Nat → Bool} {Js : Nat → Nat → Int64} {Ic : Nat → Nat} {Nc : Nat → Nat → Nat} {kn : Nat} {K : Nat → kRT} {mn : Nat} {M : Nat → sNT}
theorem W_hc (W : WR G f hm hc t) : hsC f hc := by
  obtain ⟨a, I, N, B, J, aC, an, ar, as_, In, Nn, Bn, Jn, Ir, Nr, Br, Jr, Is, Ns, Bs, Js, Ic, Nc, kn, K, mn, M, O, Z, R, ht⟩ := W
  exact ⟨_, Z.2.1.1⟩
theorem W_hm (W : WR G f hm hc t) : hsM f hm := by
  obtain ⟨a, I, N, B, J, aC, an, ar, as_, In, Nn, Bn, Jn, Ir, Nr, Br, Jr, Is, Ns, Bs, Js, Ic, Nc, kn, K, mn, M, O, Z, R, ht⟩ := W
  exact ⟨_, O.1⟩
theorem W_le {t' : Nat} (W : WR G f hm hc t) (h : t ≤ t') : WR G f hm hc t' := by
  obtain ⟨a, I, N, B, J, aC, an, ar, as_, In, Nn, Bn, Jn, Ir, Nr, Br, Jr, Is, Ns, Bs, Js, Ic, Nc, kn, K, mn, M, O, Z, R, ht⟩ := W
  exact ⟨a, I, N, B, J, aC, an, ar, as_, In, Nn, Bn, Jn, Ir, Nr, Br, Jr, Is, Ns, Bs, Js, Ic, Nc, kn, K, mn, M, O, Z, R, Nat.le_trans ht h⟩
theorem CL_lo (h : CL G f0 f hc aC an ar as_ In Nn Bn Jn Ir Nr Br Jr Is Ns Bs Js Ic Nc kn K mn M) (F1 : fw_fr f f1 2000 2035) : CL G f1 f1 hc aC an ar as_ In Nn Bn Jn Ir Nr Br Jr Is Ns Bs Js Ic Nc kn K mn M := by
  obtain ⟨h1, h2, h3, h4, h5, h6, h7⟩ := h
  exact ⟨fw_fr_rf _ _ _, o_fr h2 F1 (by decide), o_fr h3 F1 (by decide), o_fr h4 F1 (by decide), o_fr h5 F1 (by decide), KS_fr h6 F1 (by omega) (by omega), MS_fr h7 F1 (by omega) (by omega)⟩
theorem W_mk (O : isO G dM f1 2000 hm a I N B J) (Z : CL G f0 f hc aC an ar as_ In Nn Bn Jn Ir Nr Br Jr Is Ns Bs Js Ic Nc kn K mn M) (F1 : fw_fr f f1 2000 2035) (R : REL In Nn Bn Jn Ir Nr Jr Is Ns Js Ic Nc kn K mn M I N B J) (ht : I 6 ≤ t) : WR G f1 hm hc t :=
  ⟨a, I, N, B, J, aC, an, ar, as_, In, Nn, Bn, Jn, Ir, Nr, Br, Jr, Is, Ns, Bs, Js, Ic, Nc, kn, K, mn, M, O, CL_lo Z F1, R, ht⟩
theorem O_up (O : isO G dM f 2000 hm a I N B J) (Z : CL G f f1 hc aC an ar as_ In Nn Bn Jn Ir Nr Br Jr Is Ns Bs Js Ic Nc kn K mn M) : isO G dM f1 2000 hm a I N B J := o_fr O Z.1 (Or.inl (by decide))
theorem ixk {k n : Nat} (hk : k < n) (hn : n ≤ 300) : ix (nI k) n = true := by rw [ix_nI (by omega) (by omega)]; exact decide_eq_true hk
theorem nIk {k k' : Nat} (h : nI k = nI k') (hk : k < 300) (hk' : k' < 300) : k = k' := (nI_eq (by omega) (by omega)).mp h
theorem ixc {k n : Nat} {x : Int32} {p : Prop} (h : ix x n = false) (hx : x = nI k) (hk : k < n) (hn : n ≤ 300) : p := by rw [hx, ixk hk hn] at h; cases h
theorem C_name (W : WR G f hm hc t) : ∃ P1 : Int32 → fw_F → Prop, (∀ (l : Launch) (A : Nat → Prop), Met l yX4_name wsX4_name ({ frames := 1, cells := 0, slots := 0, locals := 21 }) (va_Pc [.ref hc] (fw_P G A f)) (va_Qi P1 (fw_B G A) A) 0 0 A) ∧ ∀ r1 f1, P1 r1 f1 → hsM f1 hm ∧ ∃ P2 : Int32 → fw_F → Prop, (∀ (l : Launch) (A : Nat → Prop), Met l yX5_name wsX5_name ({ frames := 3, cells := 0, slots := 0, locals := 70 }) (va_Pc [.ref hm] (fw_P G A f1)) (va_Qi P2 (fw_B G A) A) 0 0 A) ∧ ∀ r2 f2, P2 r2 f2 → r1 = r2 ∧ WR G f2 hm hc (t + 8) := by
  obtain ⟨a, I, N, B, J, aC, an, ar, as_, In, Nn, Bn, Jn, Ir, Nr, Br, Jr, Is, Ns, Bs, Js, Ic, Nc, kn, K, mn, M, O, Z, R, ht⟩ := W
  have hM := R.1.2.2.1
  have z0 : In 0 = I 0 := R.1.1.1
  have z9 : Ir 0 = I 9 := R.1.1.2.1
  have z15 : kn = I 15 := R.1.1.2.2.1
  have z19 : Ic 6 = I 19 := R.1.1.2.2.2.1
  have m0 : I 0 ≤ 64 := hM.1.1
  have m9 : I 9 ≤ 32 := hM.1.2.2.1
  have m19 : I 19 ≤ 40 := hM.1.2.2.2.2
  refine ⟨_, fun l A => p_name Z (by omega), fun r1 f1 P1 => ?_⟩
  have O1 : isO G dM f1 2000 hm a I N B J := by
    rcases P1 with ⟨_, _, Z1⟩ | ⟨_, _, Z1⟩ <;> exact O_up O Z1
  refine ⟨⟨_, O1.1⟩, _, fun l A => m_name O1 hM, fun r2 f2 P2 => ?_⟩
  obtain ⟨P2, F2⟩ := P2
  rcases P1 with ⟨a1, a2, Z1⟩ | ⟨a1, a2, Z1⟩ <;> rcases P2 with ⟨b1, b2, O2⟩ | ⟨b1, b2, N2, B2, J2, O2, Wk⟩
  · exact ⟨a2.trans b2.symm, W_mk O2 Z1 F2 R (by omega)⟩
  · omega
  · omega
  · exact ⟨by rw [a2, b2, z0], W_mk O2 Z1 F2 (E_name R b1 Wk) (show I 6 ≤ t + 8 by omega)⟩
theorem C_span (W : WR G f hm hc t) (x : Int32) (u v : Int64) (ht : t + 8 ≤ 6400) : ∃ P1 : Int32 → fw_F → Prop, (∀ (l : Launch) (A : Nat → Prop), Met l yX4_span wsX4_span ({ frames := 2, cells := 0, slots := 0, locals := 53 }) (va_Pc [.ref hc, .int x, .long u, .long v] (fw_P G A f)) (va_Qi P1 (fw_B G A) A) 0 0 A) ∧ ∀ r1 f1, P1 r1 f1 → hsM f1 hm ∧ ∃ P2 : Int32 → fw_F → Prop, (∀ (l : Launch) (A : Nat → Prop), Met l yX5_span wsX5_span ({ frames := 4, cells := 0, slots := 0, locals := 98 }) (va_Pc [.ref hm, .int x, .long u, .long v] (fw_P G A f1)) (va_Qi P2 (fw_B G A) A) 0 0 A) ∧ ∀ r2 f2, P2 r2 f2 → r1 = r2 ∧ WR G f2 hm hc (t + 8) := by
  obtain ⟨a, I, N, B, J, aC, an, ar, as_, In, Nn, Bn, Jn, Ir, Nr, Br, Jr, Is, Ns, Bs, Js, Ic, Nc, kn, K, mn, M, O, Z, R, ht2⟩ := W
  have hM := R.1.2.2.1
  have z0 : In 0 = I 0 := R.1.1.1
  have z9 : Ir 0 = I 9 := R.1.1.2.1
  have z15 : kn = I 15 := R.1.1.2.2.1
  have z19 : Ic 6 = I 19 := R.1.1.2.2.2.1
  have m0 : I 0 ≤ 64 := hM.1.1
  have m9 : I 9 ≤ 32 := hM.1.2.2.1
  have m19 : I 19 ≤ 40 := hM.1.2.2.2.2
  have m6 : I 6 < 6400 := by omega
  
  refine ⟨_, fun l A => p_span Z x u v (by omega) R.1.2.1.1, fun r1 f1 P1 => ?_⟩
  have O1 : isO G dM f1 2000 hm a I N B J := by
    rcases P1 with ⟨_, _, Z1⟩ | ⟨_, _, _, ⟨_, _, Z1⟩ | ⟨_, _, Z1⟩⟩ <;> exact O_up O Z1
  refine ⟨⟨_, O1.1⟩, _, fun l A => m_span O1 x u v hM m6, fun r2 f2 P2 => ?_⟩
  rcases P2 with ⟨b1, b2, O2, F2⟩ | ⟨k', b1, b2, F2, N2, B2, J2, Wk, b3, b4, b5⟩ <;> rcases P1 with ⟨a1, a2, Z1⟩ | ⟨k, a1, a2, a3⟩
  · exact ⟨a2.trans b2.symm, W_mk O2 Z1 F2 R (by omega)⟩
  · exact ixc b1 a2 (by omega) (by omega)
  · exact ixc a1 b2 (by omega) (by omega)
  · obtain rfl : k = k' := nIk (a2.symm.trans b2) (by omega) (by omega)
    obtain ⟨e1, e2⟩ := E_span R m6 b1 Wk
    rcases a3 with ⟨c1, c2, Z1⟩ | ⟨c1, c2, Z1⟩
    · rw [c1] at e1
      obtain ⟨N3, B3, J3, O2, W3⟩ := b5 e1
      exact ⟨by rw [c2, b3, e1], W_mk O2 Z1 F2 (E_fail R m6 (by omega) b1 b1 Wk W3 (fun _ _ => rfl) (fun _ _ => rfl)) (show I 6 + 1 - 1 ≤ t + 8 by omega)⟩
    · rw [c1] at e1
      exact ⟨by rw [c2, b3, e1], W_mk (b4 e1) Z1 F2 (e2 c1) (show I 6 + 1 ≤ t + 8 by omega)⟩
theorem C_give (W : WR G f hm hc t) (x : Int32) (u : Int64) (ht : t + 8 ≤ 6400) : ∃ P1 : Int32 → fw_F → Prop, (∀ (l : Launch) (A : Nat → Prop), Met l yX4_give wsX4_give ({ frames := 5, cells := 0, slots := 0, locals := 112 }) (va_Pc [.ref hc, .int x, .long u] (fw_P G A f)) (va_Qi P1 (fw_B G A) A) 0 0 A) ∧ ∀ r1 f1, P1 r1 f1 → hsM f1 hm ∧ ∃ P2 : Int32 → fw_F → Prop, (∀ (l : Launch) (A : Nat → Prop), Met l yX5_give wsX5_give ({ frames := 4, cells := 0, slots := 0, locals := 98 }) (va_Pc [.ref hm, .int x, .long u] (fw_P G A f1)) (va_Qi P2 (fw_B G A) A) 0 0 A) ∧ ∀ r2 f2, P2 r2 f2 → r1 = r2 ∧ WR G f2 hm hc (t + 8) := by
  obtain ⟨a, I, N, B, J, aC, an, ar, as_, In, Nn, Bn, Jn, Ir, Nr, Br, Jr, Is, Ns, Bs, Js, Ic, Nc, kn, K, mn, M, O, Z, R, ht2⟩ := W
  have hM := R.1.2.2.1
  have z0 : In 0 = I 0 := R.1.1.1
  have z9 : Ir 0 = I 9 := R.1.1.2.1
  have z15 : kn = I 15 := R.1.1.2.2.1
  have z19 : Ic 6 = I 19 := R.1.1.2.2.2.1
  have m0 : I 0 ≤ 64 := hM.1.1
  have m9 : I 9 ≤ 32 := hM.1.2.2.1
  have m19 : I 19 ≤ 40 := hM.1.2.2.2.2
  have m6 : I 6 < 6400 := by omega
  
  refine ⟨_, fun l A => p_give Z x u (by omega) R.1.2.1.1, fun r1 f1 P1 => ?_⟩
  have O1 : isO G dM f1 2000 hm a I N B J := by
    rcases P1 with ⟨_, _, Z1⟩ | ⟨_, _, _, a3⟩
    · exact O_up O Z1
    · obtain ⟨_, _, _, _, q, _⟩ := stP_out a3
      rcases q with ⟨_, Z1⟩ | ⟨_, Z1⟩ <;> exact O_up O Z1
  refine ⟨⟨_, O1.1⟩, _, fun l A => m_give O1 x u hM m6, fun r2 f2 P2 => ?_⟩
  rcases P2 with ⟨b1, b2, O2, F2⟩ | ⟨k', b1, b2, F2, N2, B2, J2, Wk, b3, b4, b5⟩ <;> rcases P1 with ⟨a1, a2, Z1⟩ | ⟨k, a1, a2, a3⟩
  · exact ⟨a2.trans b2.symm, W_mk O2 Z1 F2 R (by omega)⟩
  · exact ixc b1 a2 (by omega) (by omega)
  · exact ixc a1 b2 (by omega) (by omega)
  · obtain rfl : k = k' := nIk (a2.symm.trans b2) (by omega) (by omega)
    obtain ⟨e1, e2, e3⟩ := E_give R m6 b1 Wk a3
    refine ⟨e1.trans b3.symm, ?_⟩
    cases hc2 : wkC N2 B2 J2 (tlI I) (tlN N (I 6) 1 k k) B (tlJ J (I 6) u u) with
    | true =>
      obtain ⟨B', J', q, R2⟩ := e2 hc2
      rw [hc2] at e1
      rcases q with ⟨q, _⟩ | ⟨_, Z1⟩
      · rw [e1] at q; cases q
      · exact W_mk (b4 hc2) Z1 F2 R2 (show I 6 + 1 ≤ t + 8 by omega)
    | false =>
      obtain ⟨J', q, g1, g2⟩ := e3 hc2
      obtain ⟨N3, B3, J3, O2, W3⟩ := b5 hc2
      rw [hc2] at e1
      rcases q with ⟨_, Z1⟩ | ⟨q, _⟩
      · exact W_mk O2 Z1 F2 (E_fail R m6 (by omega) b1 b1 Wk W3 g1 g2) (show I 6 + 1 - 1 ≤ t + 8 by omega)
      · rw [e1] at q; cases q
theorem C_equal (W : WR G f hm hc t) (x y : Int32) (ht : t + 8 ≤ 6400) : ∃ P1 : Int32 → fw_F → Prop, (∀ (l : Launch) (A : Nat → Prop), Met l yX4_equal wsX4_equal ({ frames := 6, cells := 0, slots := 0, locals := 134 }) (va_Pc [.ref hc, .int x, .int y] (fw_P G A f)) (va_Qi P1 (fw_B G A) A) 0 0 A) ∧ ∀ r1 f1, P1 r1 f1 → hsM f1 hm ∧ ∃ P2 : Int32 → fw_F → Prop, (∀ (l : Launch) (A : Nat → Prop), Met l yX5_equal wsX5_equal ({ frames := 4, cells := 0, slots := 0, locals := 98 }) (va_Pc [.ref hm, .int x, .int y] (fw_P G A f1)) (va_Qi P2 (fw_B G A) A) 0 0 A) ∧ ∀ r2 f2, P2 r2 f2 → r1 = r2 ∧ WR G f2 hm hc (t + 8) := by
  obtain ⟨a, I, N, B, J, aC, an, ar, as_, In, Nn, Bn, Jn, Ir, Nr, Br, Jr, Is, Ns, Bs, Js, Ic, Nc, kn, K, mn, M, O, Z, R, ht2⟩ := W
  have hM := R.1.2.2.1
  have z0 : In 0 = I 0 := R.1.1.1
  have z9 : Ir 0 = I 9 := R.1.1.2.1
  have z15 : kn = I 15 := R.1.1.2.2.1
  have z19 : Ic 6 = I 19 := R.1.1.2.2.2.1
  have m0 : I 0 ≤ 64 := hM.1.1
  have m9 : I 9 ≤ 32 := hM.1.2.2.1
  have m19 : I 19 ≤ 40 := hM.1.2.2.2.2
  have m6 : I 6 < 6400 := by omega
  
  refine ⟨_, fun l A => p_equal Z x y (by omega) R.1.2.1.1, fun r1 f1 P1 => ?_⟩
  have O1 : isO G dM f1 2000 hm a I N B J := by
    rcases P1 with ⟨_, _, Z1⟩ | ⟨_, _, _, _, _, _, a3⟩
    · exact O_up O Z1
    · obtain ⟨_, _, _, _, q, _⟩ := agP_out a3
      rcases q with ⟨_, Z1⟩ | ⟨_, _, _, Z1⟩ <;> exact O_up O Z1
  refine ⟨⟨_, O1.1⟩, _, fun l A => m_equal O1 x y hM m6, fun r2 f2 P2 => ?_⟩
  rcases P2 with ⟨b1, b2, O2, F2⟩ | ⟨k', k2', b1, d1, b2, d2, F2, N2, B2, J2, Wk, b3, b4, b5⟩ <;> rcases P1 with ⟨a1, a2, Z1⟩ | ⟨k, k2, a1, c1, a2, c2, a3⟩
  · exact ⟨a2.trans b2.symm, W_mk O2 Z1 F2 R (by omega)⟩
  · rcases b1 with b1 | b1
    · exact ixc b1 a2 (by omega) (by omega)
    · exact ixc b1 c2 (by omega) (by omega)
  · rcases a1 with a1 | a1
    · exact ixc a1 b2 (by omega) (by omega)
    · exact ixc a1 d2 (by omega) (by omega)
  · obtain rfl : k = k' := nIk (a2.symm.trans b2) (by omega) (by omega)
    obtain rfl : k2 = k2' := nIk (c2.symm.trans d2) (by omega) (by omega)
    obtain ⟨e1, e2, e3⟩ := E_equal R m6 b1 d1 Wk a3
    refine ⟨e1.trans b3.symm, ?_⟩
    cases hc2 : wkC N2 B2 J2 (tlI I) (tlN N (I 6) 2 k k2) B (tlJ J (I 6) 0 0) with
    | true =>
      obtain ⟨B', J', q, R2⟩ := e2 hc2
      rw [hc2] at e1
      rcases q with ⟨q, _⟩ | ⟨_, N9, h9, Z1⟩
      · rw [e1] at q; cases q
      · exact W_mk (b4 hc2) Z1 F2 (R2 N9 h9) (show I 6 + 1 ≤ t + 8 by omega)
    | false =>
      obtain ⟨J', q, g1, g2⟩ := e3 hc2
      obtain ⟨N3, B3, J3, O2, W3⟩ := b5 hc2
      rw [hc2] at e1
      rcases q with ⟨_, Z1⟩ | ⟨q, _⟩
      · exact W_mk O2 Z1 F2 (E_fail R m6 (by omega) b1 d1 Wk W3 g1 g2) (show I 6 + 1 - 1 ≤ t + 8 by omega)
      · rw [e1] at q; cases q
theorem C_put (W : WR G f hm hc t) (x : Int32) (u : Int64) : ∃ P1 : Int32 → fw_F → Prop, (∀ (l : Launch) (A : Nat → Prop), Met l yX4_put wsX4_put ({ frames := 1, cells := 0, slots := 0, locals := 23 }) (va_Pc [.ref hc, .int x, .long u] (fw_P G A f)) (va_Qi P1 (fw_B G A) A) 0 0 A) ∧ ∀ r1 f1, P1 r1 f1 → hsM f1 hm ∧ ∃ P2 : Int32 → fw_F → Prop, (∀ (l : Launch) (A : Nat → Prop), Met l yX5_put wsX5_put ({ frames := 1, cells := 0, slots := 0, locals := 21 }) (va_Pc [.ref hm, .int x, .long u] (fw_P G A f1)) (va_Qi P2 (fw_B G A) A) 0 0 A) ∧ ∀ r2 f2, P2 r2 f2 → r1 = r2 ∧ WR G f2 hm hc (t + 8) := by
  obtain ⟨a, I, N, B, J, aC, an, ar, as_, In, Nn, Bn, Jn, Ir, Nr, Br, Jr, Is, Ns, Bs, Js, Ic, Nc, kn, K, mn, M, O, Z, R, ht⟩ := W
  have hM := R.1.2.2.1
  have z0 : In 0 = I 0 := R.1.1.1
  have z9 : Ir 0 = I 9 := R.1.1.2.1
  have z15 : kn = I 15 := R.1.1.2.2.1
  have z19 : Ic 6 = I 19 := R.1.1.2.2.2.1
  have m0 : I 0 ≤ 64 := hM.1.1
  have m9 : I 9 ≤ 32 := hM.1.2.2.1
  have m19 : I 19 ≤ 40 := hM.1.2.2.2.2
  refine ⟨_, fun l A => p_put Z x u (by omega) (by omega), fun r1 f1 P1 => ?_⟩
  have O1 : isO G dM f1 2000 hm a I N B J := by
    rcases P1 with ⟨_, _, Z1⟩ | ⟨_, _, _, _, _, Z1⟩ <;> exact O_up O Z1
  refine ⟨⟨_, O1.1⟩, _, fun l A => m_put O1 x u hM, fun r2 f2 P2 => ?_⟩
  obtain ⟨P2, F2⟩ := P2
  rcases P2 with ⟨b1, b2, O2⟩ | ⟨k', b1, b2, b3, b4, O2⟩ <;> rcases P1 with ⟨a1, a2, Z1⟩ | ⟨k, a1, a2, a3, a4, Z1⟩
  · exact ⟨a2.trans b2.symm, W_mk O2 Z1 F2 R (by omega)⟩
  · rcases b1 with b1 | b1
    · exact ixc b1 a2 (by omega) (by omega)
    · omega
  · rcases a1 with a1 | a1
    · exact ixc a1 b2 (by omega) (by omega)
    · omega
  · obtain rfl : k = k' := nIk (a2.symm.trans b2) (by omega) (by omega)
    exact ⟨by rw [a4, b4, z9], W_mk O2 Z1 F2 (E_put R u b1 b3) (show I 6 ≤ t + 8 by omega)⟩
theorem C_keep (W : WR G f hm hc t) (x : Int32) (u : Int64) : ∃ P1 : Int32 → fw_F → Prop, (∀ (l : Launch) (A : Nat → Prop), Met l yX4_keep wsX4_keep ({ frames := 8, cells := 4, slots := 196, locals := 211 }) (va_Pc [.ref hc, .int x, .long u] (fw_P G A f)) (va_Qi P1 (fw_B G A) A) 4 196 A) ∧ ∀ r1 f1, P1 r1 f1 → hsM f1 hm ∧ ∃ P2 : Int32 → fw_F → Prop, (∀ (l : Launch) (A : Nat → Prop), Met l yX5_keep wsX5_keep ({ frames := 2, cells := 0, slots := 0, locals := 46 }) (va_Pc [.ref hm, .int x, .long u] (fw_P G A f1)) (va_Qi P2 (fw_B G A) A) 0 0 A) ∧ ∀ r2 f2, P2 r2 f2 → r1 = r2 ∧ WR G f2 hm hc (t + 8) := by
  obtain ⟨a, I, N, B, J, aC, an, ar, as_, In, Nn, Bn, Jn, Ir, Nr, Br, Jr, Is, Ns, Bs, Js, Ic, Nc, kn, K, mn, M, O, Z, R, ht⟩ := W
  have hM := R.1.2.2.1
  have z0 : In 0 = I 0 := R.1.1.1
  have z9 : Ir 0 = I 9 := R.1.1.2.1
  have z15 : kn = I 15 := R.1.1.2.2.1
  have z19 : Ic 6 = I 19 := R.1.1.2.2.2.1
  have m0 : I 0 ≤ 64 := hM.1.1
  have m9 : I 9 ≤ 32 := hM.1.2.2.1
  have m19 : I 19 ≤ 40 := hM.1.2.2.2.2
  refine ⟨_, fun l A => p_keep Z x u R.1.2.1.1 (by omega) R.1.2.1.2.1, fun r1 f1 P1 => ?_⟩
  have O1 : isO G dM f1 2000 hm a I N B J := by
    rcases P1 with ⟨_, _, Z1⟩ | ⟨_, _, _, _, _, _, ⟨_, _, Z1⟩ | ⟨_, _, Z1⟩⟩ <;> exact O_up O Z1
  refine ⟨⟨_, O1.1⟩, _, fun l A => m_keep O1 x u hM, fun r2 f2 P2 => ?_⟩
  obtain ⟨P2, F2⟩ := P2
  rcases P2 with ⟨b1, b2, O2⟩ | ⟨w', b1, b2, b3, b4⟩ <;> rcases P1 with ⟨a1, a2, Z1⟩ | ⟨w, a1, a2, a3, k, a4, a5⟩
  · exact ⟨a2.trans b2.symm, W_mk O2 Z1 F2 (E_keep0 R) (show I 6 ≤ t + 8 by omega)⟩
  · rcases b1 with b1 | b1 | b1
    · exact absurd b1 (by rw [a2]; exact nI_pos (by omega))
    · exact absurd b1 (by rw [a2]; exact fun q => absurd ((nI_ltI (by omega) (by omega)).mp q) (by omega))
    · omega
  · rcases a1 with a1 | a1 | a1
    · exact absurd a1 (by rw [b2]; exact nI_pos (by omega))
    · exact absurd a1 (by rw [b2]; exact fun q => absurd ((nI_ltI (by omega) (by omega)).mp q) (by omega))
    · omega
  · obtain rfl : w = w' := nIk (a2.symm.trans b2) (by omega) (by omega)
    obtain ⟨e1, e2⟩ := E_kept R b3 b1 a4
    rcases a5 with ⟨c1, c2, Z1⟩ | ⟨c1, c2, Z1⟩ <;> rcases b4 with ⟨d1, d2, O2⟩ | ⟨d1, d2, O2⟩
    · exact ⟨c2.trans d2.symm, W_mk O2 Z1 F2 (E_keep1 R b1) (show I 6 ≤ t + 8 by omega)⟩
    · rw [d1, c1] at e2; cases e2
    · rw [d1, c1] at e2; cases e2
    · exact ⟨c2.trans d2.symm, W_mk O2 Z1 F2 (E_keep2 R b3 b1 a4 c1) (show I 6 ≤ t + 8 by omega)⟩
theorem C_label (W : WR G f hm hc t) : ∃ P1 : Int32 → fw_F → Prop, (∀ (l : Launch) (A : Nat → Prop), Met l yX4_label wsX4_label ({ frames := 13, cells := 0, slots := 0, locals := 355 }) (va_Pc [.ref hc] (fw_P G A f)) (va_Qi P1 (fw_B G A) A) 0 0 A) ∧ ∀ r1 f1, P1 r1 f1 → hsM f1 hm ∧ ∃ P2 : Int32 → fw_F → Prop, (∀ (l : Launch) (A : Nat → Prop), Met l yX5_label wsX5_label ({ frames := 3, cells := 0, slots := 0, locals := 72 }) (va_Pc [.ref hm] (fw_P G A f1)) (va_Qi P2 (fw_B G A) A) 0 0 A) ∧ ∀ r2 f2, P2 r2 f2 → r1 = r2 ∧ WR G f2 hm hc (t + 8) := by
  obtain ⟨a, I, N, B, J, aC, an, ar, as_, In, Nn, Bn, Jn, Ir, Nr, Br, Jr, Is, Ns, Bs, Js, Ic, Nc, kn, K, mn, M, O, Z, R, ht⟩ := W
  have hM := R.1.2.2.1
  have z0 : In 0 = I 0 := R.1.1.1
  have z9 : Ir 0 = I 9 := R.1.1.2.1
  have z15 : kn = I 15 := R.1.1.2.2.1
  have z19 : Ic 6 = I 19 := R.1.1.2.2.2.1
  have m0 : I 0 ≤ 64 := hM.1.1
  have m9 : I 9 ≤ 32 := hM.1.2.2.1
  have m19 : I 19 ≤ 40 := hM.1.2.2.2.2
  have ST := same_tab R.2.2.1.1 R.2.2.1.2.2 R.2.2.1.2.1
  refine ⟨_, fun l A => p_label Z R.1.2.1.1 (by omega) R.1.2.1.2.1 R.1.2.1.2.2 (fun i hi => ?_) (fun i hi => R.2.2.2.1.2 i (by omega)), fun r1 f1 P1 => ?_⟩
  · have := R.2.1 i (by omega)
    rw [this.1]
    exact (ST.1 _ this.2.1).2.2
  obtain ⟨J5, I5, N5, S5, th, Z1, hN5, hJ5, hJ53, hlb⟩ := P1
  have O1 : isO G dM f1 2000 hm a I N B J := O_up O Z1
  refine ⟨⟨_, O1.1⟩, _, fun l A => m_label O1 R.1.2.2.2 hM, fun r2 f2 P2 => ?_⟩
  obtain ⟨F2, I2, B2, J2, O2, hI, hI9, hB, hB26, hJ, hlm⟩ := P2
  obtain ⟨e1, e2⟩ := E_label R hN5 hJ5 hJ53 hlb hI hI9 hB hB26 hJ hlm
  exact ⟨e1, W_mk O2 Z1 F2 e2 (by rw [hI 6 (by decide) (by decide) (by decide) (by decide)]; omega)⟩
theorem C_take (W : WR G f hm hc t) (x : Int32) (ht : t + 8 ≤ 6400) : ∃ P1 : Int32 → fw_F → Prop, (∀ (l : Launch) (A : Nat → Prop), Met l yX4_take wsX4_take ({ frames := 1, cells := 0, slots := 0, locals := 23 }) (va_Pc [.ref hc, .int x] (fw_P G A f)) (va_Qi P1 (fw_B G A) A) 0 0 A) ∧ ∀ r1 f1, P1 r1 f1 → hsM f1 hm ∧ ∃ P2 : Int32 → fw_F → Prop, (∀ (l : Launch) (A : Nat → Prop), Met l yX5_take wsX5_take ({ frames := 3, cells := 0, slots := 0, locals := 70 }) (va_Pc [.ref hm, .int x] (fw_P G A f1)) (va_Qi P2 (fw_B G A) A) 0 0 A) ∧ ∀ r2 f2, P2 r2 f2 → r1 = r2 ∧ WR G f2 hm hc (t + 8) := by
  obtain ⟨a, I, N, B, J, aC, an, ar, as_, In, Nn, Bn, Jn, Ir, Nr, Br, Jr, Is, Ns, Bs, Js, Ic, Nc, kn, K, mn, M, O, Z, R, ht2⟩ := W
  have hM := R.1.2.2.1
  have z0 : In 0 = I 0 := R.1.1.1
  have z9 : Ir 0 = I 9 := R.1.1.2.1
  have z15 : kn = I 15 := R.1.1.2.2.1
  have z19 : Ic 6 = I 19 := R.1.1.2.2.2.1
  have m0 : I 0 ≤ 64 := hM.1.1
  have m9 : I 9 ≤ 32 := hM.1.2.2.1
  have m19 : I 19 ≤ 40 := hM.1.2.2.2.2
  obtain ⟨⟨y1, y2, y3, y4⟩, y5⟩ := R.2.2.2.2.2
  refine ⟨_, fun l A => p_take Z x (by omega) (by omega) R.1.2.1.2.2 R.1.2.1.1, fun r1 f1 P1 => ?_⟩
  have O1 : isO G dM f1 2000 hm a I N B J := by
    rcases P1 with ⟨_, _, Z1⟩ | ⟨_, _, _, _, Z1⟩ <;> exact O_up O Z1
  refine ⟨⟨_, O1.1⟩, _, fun l A => m_take O1 x hM y4 y3 (by omega), fun r2 f2 P2 => ?_⟩
  obtain ⟨P2, F2⟩ := P2
  rcases P2 with ⟨b1, b2, O2⟩ | ⟨k', b1, b2, b3, b4, N1, J1, N2, B2, J2, hT, O2, Wk⟩ <;> rcases P1 with ⟨a1, a2, Z1⟩ | ⟨k, a1, a2, a3, Z1⟩
  · exact ⟨a2.trans b2.symm, W_mk O2 Z1 F2 R (by omega)⟩
  · rcases y5 with ⟨q1, q2⟩ | ⟨q1, _⟩
    · omega
    · rw [q1, Bool.true_and] at b1
      exact ixc b1 a2 (by omega) (by omega)
  · exact ixc a1 b3 (by omega) (by omega)
  · obtain rfl : k = k' := nIk (a2.symm.trans b3) (by omega) (by omega)
    exact ⟨a3.trans b4.symm, W_mk O2 Z1 F2 (E_take R (by omega) b2 hT Wk) (show I 6 + I 29 ≤ t + 8 by omega)⟩
theorem C_mark (W : WR G f hm hc t) : ∃ P1 : Int32 → fw_F → Prop, (∀ (l : Launch) (A : Nat → Prop), Met l yX4_mark wsX4_mark ({ frames := 7, cells := 8, slots := 519, locals := 187 }) (va_Pc [.ref hc] (fw_P G A f)) (va_Qi P1 (fw_B G A) A) 8 519 A) ∧ ∀ r1 f1, P1 r1 f1 → hsM f1 hm ∧ ∃ P2 : Int32 → fw_F → Prop, (∀ (l : Launch) (A : Nat → Prop), Met l yX5_mark wsX5_mark ({ frames := 0, cells := 0, slots := 0, locals := 0 }) (va_Pc [.ref hm] (fw_P G A f1)) (va_Qi P2 (fw_B G A) A) 0 0 A) ∧ ∀ r2 f2, P2 r2 f2 → r1 = r2 ∧ WR G f2 hm hc (t + 8) := by
  obtain ⟨a, I, N, B, J, aC, an, ar, as_, In, Nn, Bn, Jn, Ir, Nr, Br, Jr, Is, Ns, Bs, Js, Ic, Nc, kn, K, mn, M, O, Z, R, ht⟩ := W
  have hM := R.1.2.2.1
  have z0 : In 0 = I 0 := R.1.1.1
  have z9 : Ir 0 = I 9 := R.1.1.2.1
  have z15 : kn = I 15 := R.1.1.2.2.1
  have z19 : Ic 6 = I 19 := R.1.1.2.2.2.1
  have m0 : I 0 ≤ 64 := hM.1.1
  have m9 : I 9 ≤ 32 := hM.1.2.2.1
  have m19 : I 19 ≤ 40 := hM.1.2.2.2.2
  refine ⟨_, fun l A => p_mark Z (by omega) R.1.2.1.1 (by omega) R.1.1.2.2.2.2.2, fun r1 f1 P1 => ?_⟩
  have O1 : isO G dM f1 2000 hm a I N B J := by
    rcases P1 with ⟨_, _, Z1⟩ | ⟨_, _, _, _, _, _, _, _, _, Z1⟩ <;> exact O_up O Z1
  refine ⟨⟨_, O1.1⟩, _, fun l A => m_mark O1 hM, fun r2 f2 P2 => ?_⟩
  obtain ⟨P2, F2⟩ := P2
  rcases P1 with ⟨a1, a2, Z1⟩ | ⟨a1, a2, mn2, M2, a3, a4, a5, a6, a7, Z1⟩ <;> rcases P2 with ⟨b1, b2, O2⟩ | ⟨b1, b2, O2⟩
  · exact ⟨a2.trans b2.symm, W_mk O2 Z1 F2 R (by omega)⟩
  · omega
  · omega
  · exact ⟨by rw [a2, b2, z19], W_mk O2 Z1 F2 (E_mark R b1 a3 a5 a6 a7) (show I 6 ≤ t + 8 by omega)⟩
theorem C_back (W : WR G f hm hc t) : ∃ P1 : Int32 → fw_F → Prop, (∀ (l : Launch) (A : Nat → Prop), Met l yX4_back wsX4_back ({ frames := 3, cells := 0, slots := 0, locals := 66 }) (va_Pc [.ref hc] (fw_P G A f)) (va_Qi P1 (fw_B G A) A) 0 0 A) ∧ ∀ r1 f1, P1 r1 f1 → hsM f1 hm ∧ ∃ P2 : Int32 → fw_F → Prop, (∀ (l : Launch) (A : Nat → Prop), Met l yX5_back wsX5_back ({ frames := 3, cells := 0, slots := 0, locals := 70 }) (va_Pc [.ref hm] (fw_P G A f1)) (va_Qi P2 (fw_B G A) A) 0 0 A) ∧ ∀ r2 f2, P2 r2 f2 → r1 = r2 ∧ WR G f2 hm hc (t + 8) := by
  obtain ⟨a, I, N, B, J, aC, an, ar, as_, In, Nn, Bn, Jn, Ir, Nr, Br, Jr, Is, Ns, Bs, Js, Ic, Nc, kn, K, mn, M, O, Z, R, ht⟩ := W
  have hM := R.1.2.2.1
  have z0 : In 0 = I 0 := R.1.1.1
  have z9 : Ir 0 = I 9 := R.1.1.2.1
  have z15 : kn = I 15 := R.1.1.2.2.1
  have z19 : Ic 6 = I 19 := R.1.1.2.2.2.1
  have m0 : I 0 ≤ 64 := hM.1.1
  have m9 : I 9 ≤ 32 := hM.1.2.2.1
  have m19 : I 19 ≤ 40 := hM.1.2.2.2.2
  have RM := R.2.2.2.2.1
  have m6 := hM.1.2.1
  have m15 := hM.1.2.2.2.1
  refine ⟨_, fun l A => p_back Z (by omega) R.1.2.1.1 (by omega) R.1.1.2.2.2.2.2 (fun j hj => ?_) (by omega) R.1.2.1.2.1, fun r1 f1 P1 => ?_⟩
  · have := (RM.1 j (by omega)).1
    omega
  have O1 : isO G dM f1 2000 hm a I N B J := by
    rcases P1 with ⟨_, _, Z1⟩ | ⟨_, _, _, _, _, _, _, _, _, _, _, Z1⟩ <;> exact O_up O Z1
  refine ⟨⟨_, O1.1⟩, _, fun l A => m_back O1 hM (fun j hj => ?_), fun r2 f2 P2 => ?_⟩
  · have := (RM.1 j hj).1
    exact ⟨by omega, by omega, by omega⟩
  obtain ⟨P2, F2⟩ := P2
  rcases P1 with ⟨a1, a2, Z1⟩ | ⟨a1, a2, N7, B7, J7, c, a3, a4, a5, a6, a7, Z1⟩ <;> rcases P2 with ⟨b1, b2, O2⟩ | ⟨b1, b2, c', b3, b4, b5, N2, B2, J2, O2, Wk⟩
  · exact ⟨a2.trans b2.symm, W_mk O2 Z1 F2 R (by omega)⟩
  · omega
  · omega
  · have h17 := (RM.1 (I 19 - 1) (by omega)).1.2.2.1
    exact ⟨by rw [a2, b2, z19], W_mk O2 Z1 F2 (E_back R b1 a3 a4 a5 a6 a7 b3 b4 b5 Wk) (show N 17 (I 19 - 1) ≤ t + 8 by omega)⟩
theorem C_way (W : WR G f hm hc t) (x y : Int32) : ∃ P1 : Int64 → Prop, (∀ (l : Launch) (A : Nat → Prop), Met l yX4_way wsX4_way ({ frames := 1, cells := 0, slots := 0, locals := 22 }) (va_Pc [.ref hc, .int x, .int y] (fw_P G A f)) (vp_Sl P1) 0 0 (fun _ => False)) ∧ ∃ P2 : Int64 → Prop, (∀ (l : Launch) (A : Nat → Prop), Met l yX5_way wsX5_way ({ frames := 1, cells := 0, slots := 0, locals := 21 }) (va_Pc [.ref hm, .int x, .int y] (fw_P G A f)) (vp_Sl P2) 0 0 (fun _ => False)) ∧ ∀ r1 r2, P1 r1 → P2 r2 → r1 = r2 := by
  obtain ⟨a, I, N, B, J, aC, an, ar, as_, In, Nn, Bn, Jn, Ir, Nr, Br, Jr, Is, Ns, Bs, Js, Ic, Nc, kn, K, mn, M, O, Z, R, ht⟩ := W
  have hM := R.1.2.2.1
  have z0 : In 0 = I 0 := R.1.1.1
  have z9 : Ir 0 = I 9 := R.1.1.2.1
  have z15 : kn = I 15 := R.1.1.2.2.1
  have z19 : Ic 6 = I 19 := R.1.1.2.2.2.1
  have z31 : Is 3 = I 31 := R.1.1.2.2.2.2.1
  have m0 : I 0 ≤ 64 := hM.1.1
  have m15 : I 15 ≤ 60 := hM.1.2.2.2.1
  obtain ⟨⟨y1, y2, y3, y4⟩, y5⟩ := R.2.2.2.2.2
  have ST := same_tab R.2.2.1.1 R.2.2.1.2.2 R.2.2.1.2.1
  refine ⟨_, fun l A => p_way Z x y (by omega) (by omega), _, fun l A => m_way O x y y4 y3, fun r1 r2 P1 P2 => ?_⟩
  rcases P1 with ⟨a1, a2⟩ | ⟨k, k2, a1, a2, a3, a4, a5⟩ <;> rcases P2 with ⟨b1, b2⟩ | ⟨k', k2', b0, b1, b2, b3, b4, b5⟩
  · exact a2.trans b2.symm
  · rw [b2, b4, ixk (by omega) (by omega), ixk (by omega) (by omega)] at a1; cases a1
  · rcases y5 with ⟨q1, q2⟩ | ⟨q1, _⟩
    · omega
    · rw [q1, a2, a4, ixk (by omega) (by omega), ixk (by omega) (by omega)] at b1; cases b1
  · obtain rfl : k = k' := nIk (a2.symm.trans b2) (by omega) (by omega)
    obtain rfl : k2 = k2' := nIk (a4.symm.trans b4) (by omega) (by omega)
    rcases y5 with ⟨q1, q2⟩ | ⟨q1, q2, q3, q4⟩
    · omega
    · rw [a5, b5]
      exact ((q4 k b1).1 k2 b3).1
theorem C_about (W : WR G f hm hc t) (x y : Int32) : ∃ P1 : Int32 → Prop, (∀ (l : Launch) (A : Nat → Prop), Met l yX4_about wsX4_about ({ frames := 4, cells := 0, slots := 0, locals := 87 }) (va_Pc [.ref hc, .int x, .int y] (fw_P G A f)) (vp_Si P1) 0 0 (fun _ => False)) ∧ ∃ P2 : Int32 → Prop, (∀ (l : Launch) (A : Nat → Prop), Met l yX5_about wsX5_about ({ frames := 1, cells := 0, slots := 0, locals := 21 }) (va_Pc [.ref hm, .int x, .int y] (fw_P G A f)) (vp_Si P2) 0 0 (fun _ => False)) ∧ ∀ r1 r2, P1 r1 → P2 r2 → r1 = r2 := by
  obtain ⟨a, I, N, B, J, aC, an, ar, as_, In, Nn, Bn, Jn, Ir, Nr, Br, Jr, Is, Ns, Bs, Js, Ic, Nc, kn, K, mn, M, O, Z, R, ht⟩ := W
  have hM := R.1.2.2.1
  have z0 : In 0 = I 0 := R.1.1.1
  have z9 : Ir 0 = I 9 := R.1.1.2.1
  have z15 : kn = I 15 := R.1.1.2.2.1
  have z19 : Ic 6 = I 19 := R.1.1.2.2.2.1
  have z31 : Is 3 = I 31 := R.1.1.2.2.2.2.1
  have m0 : I 0 ≤ 64 := hM.1.1
  have m15 : I 15 ≤ 60 := hM.1.2.2.2.1
  obtain ⟨⟨y1, y2, y3, y4⟩, y5⟩ := R.2.2.2.2.2
  have ST := same_tab R.2.2.1.1 R.2.2.1.2.2 R.2.2.1.2.1
  refine ⟨_, fun l A => p_about Z x y (by omega) R.1.2.1.1 R.1.2.1.2.2 (by omega), _, fun l A => m_about O x y hM y3, fun r1 r2 P1 P2 => ?_⟩
  rcases P1 with ⟨a1, a2⟩ | ⟨k, a1, a2, a3⟩ <;> rcases P2 with ⟨b1, b2⟩ | ⟨k', b1, b2, b3⟩
  · exact a2.trans b2.symm
  · exact ixc a1 b2 (by omega) (by omega)
  · exact ixc b1 a2 (by omega) (by omega)
  · obtain rfl : k = k' := nIk (a2.symm.trans b2) (by omega) (by omega)
    obtain ⟨s1, s2⟩ := ST
    obtain ⟨t1, t2, t3⟩ := s1 k b1
    obtain ⟨u1, u2, u3⟩ := s2 k b1
    have e1 : (if Bn 2 (Nn 1 k) = true then 2 else if Bn 4 (Nn 1 k) = true then 1 else 0 : Nat) = (if B 21 (N 20 k) = true then 2 else if B 22 (N 20 k) = true then 1 else 0) := by
      rw [t1, u1]
      cases hb : Bn 2 (Nn 1 k) with
      | true => rfl
      | false => rw [(u3 hb).1]
    have e3 : cnt (fun i => decide (Nn 1 i = Nn 1 k)) (In 0) = cnt (fun j => decide (N 20 j = N 20 k)) (I 0) := by
      rw [z0]
      refine cnt_congr fun i hi => ?_
      show decide (Nn 1 i = Nn 1 k) = decide (N 20 i = N 20 k)
      rw [t1, (s1 i hi).1]
    have e4 : cnt (fun i => krH (Nn 1) k (K i)) kn = cnt (fun i => anyb (fun j => decide (N 20 (N 12 (32 * i + j)) = N 20 k)) (N 11 i)) (I 15) := by
      rw [z15]
      refine cnt_congr fun i hi => ?_
      obtain ⟨w1, w2, w3, w4⟩ := R.2.2.2.1.1 i hi
      show krH (Nn 1) k (K i) = anyb (fun j => decide (N 20 (N 12 (32 * i + j)) = N 20 k)) (N 11 i)
      unfold krH
      rw [w1]
      refine anyb_congr fun j hj => ?_
      show decide (Nn 1 ((K i).2.2.2.2.1 j) = Nn 1 k) = decide (N 20 (N 12 (32 * i + j)) = N 20 k)
      rw [t1, (w4 j hj).1, (s1 _ (w4 j hj).2.2).1]
    have e5 : (if levF (Ns 0) (Is 1) (Nn 1 k) ≠ 0 then 1 else 0 : Nat) = (if (B 32 0 && anyb (fun j => decide (N 28 j = N 20 k)) (I 29)) = true then 1 else 0) := by
      rw [y1, t1]
      rcases y5 with ⟨q1, q2⟩ | ⟨q1, q2, q3, q4⟩
      · rw [q1]
        have : levF (Ns 0) 0 (Nn 1 k) = 0 := rfl
        rw [this]
        have : anyb (fun j => decide (N 28 j = Nn 1 k)) 0 = false := rfl
        rw [this, Bool.and_false]
        rfl
      · rw [q1, Bool.true_and]
        by_cases h : ∃ j, j < I 29 ∧ N 28 j = Nn 1 k
        · obtain ⟨j, h1, h2⟩ := h
          rw [if_pos, if_pos (anyb_t h1 (decide_eq_true h2))]
          intro q
          exact levF_iff.mp q j h1 (by rw [(q2 j h1).1, h2])
        · have n1 : levF (Ns 0) (I 29) (Nn 1 k) = 0 := levF_iff.mpr fun j hj q => h ⟨j, hj, by rw [← (q2 j hj).1, q]⟩
          have n2 : anyb (fun j => decide (N 28 j = Nn 1 k)) (I 29) = false := anyb_f fun j hj => decide_eq_false fun q => h ⟨j, hj, q⟩
          rw [n1, n2]
          rfl
    rw [a3, b3, e1, e3, e4, e5, t1]
theorem C_bound (W : WR G f hm hc t) (x : Int32) (hb : Bool) : ∃ P1 : Int64 → Prop, (∀ (l : Launch) (A : Nat → Prop), Met l yX4_bound wsX4_bound ({ frames := 1, cells := 0, slots := 0, locals := 21 }) (va_Pc [.ref hc, .int x, .int (bI hb)] (fw_P G A f)) (vp_Sl P1) 0 0 (fun _ => False)) ∧ ∃ P2 : Int64 → Prop, (∀ (l : Launch) (A : Nat → Prop), Met l yX5_bound wsX5_bound ({ frames := 1, cells := 0, slots := 0, locals := 21 }) (va_Pc [.ref hm, .int x, .int (bI hb)] (fw_P G A f)) (vp_Sl P2) 0 0 (fun _ => False)) ∧ ∀ r1 r2, P1 r1 → P2 r2 → r1 = r2 := by
  obtain ⟨a, I, N, B, J, aC, an, ar, as_, In, Nn, Bn, Jn, Ir, Nr, Br, Jr, Is, Ns, Bs, Js, Ic, Nc, kn, K, mn, M, O, Z, R, ht⟩ := W
  have hM := R.1.2.2.1
  have z0 : In 0 = I 0 := R.1.1.1
  have z9 : Ir 0 = I 9 := R.1.1.2.1
  have z15 : kn = I 15 := R.1.1.2.2.1
  have z19 : Ic 6 = I 19 := R.1.1.2.2.2.1
  have z31 : Is 3 = I 31 := R.1.1.2.2.2.2.1
  have m0 : I 0 ≤ 64 := hM.1.1
  have m15 : I 15 ≤ 60 := hM.1.2.2.2.1
  obtain ⟨⟨y1, y2, y3, y4⟩, y5⟩ := R.2.2.2.2.2
  have ST := same_tab R.2.2.1.1 R.2.2.1.2.2 R.2.2.1.2.1
  refine ⟨_, fun l A => p_bound Z x hb (by omega) R.1.2.1.1, _, fun l A => m_bound O x hb hM, fun r1 r2 P1 P2 => ?_⟩
  rcases P1 with ⟨a1, a2⟩ | ⟨k, a1, a2, a3⟩ <;> rcases P2 with ⟨b1, b2⟩ | ⟨k', b1, b2, b3⟩
  · exact a2.trans b2.symm
  · exact ixc a1 b2 (by omega) (by omega)
  · exact ixc b1 a2 (by omega) (by omega)
  · obtain rfl : k = k' := nIk (a2.symm.trans b2) (by omega) (by omega)
    obtain ⟨s1, s2⟩ := ST
    obtain ⟨t1, t2, t3⟩ := s1 k b1
    obtain ⟨u1, u2, u3⟩ := s2 k b1
    rw [a3, b3, t1]
    unfold bdF
    rw [u1]
    cases hk : Bn 2 (Nn 1 k) with
    | true => rw [if_pos rfl, if_pos rfl, u2 hk]
    | false =>
      obtain ⟨v1, v2, v3⟩ := u3 hk
      rw [v1]
      cases hs : Bn 4 (Nn 1 k) with
      | true =>
        cases hb
        · exact (v2 hs).1.symm
        · exact (v2 hs).2.symm
      | false =>
        cases hb
        · exact (v3 hs).1
        · exact (v3 hs).2
theorem C_kept (W : WR G f hm hc t) (x y : Int32) : ∃ P1 : Int32 → Prop, (∀ (l : Launch) (A : Nat → Prop), Met l yX4_kept wsX4_kept ({ frames := 3, cells := 0, slots := 0, locals := 64 }) (va_Pc [.ref hc, .int x, .int y] (fw_P G A f)) (vp_Si P1) 0 0 (fun _ => False)) ∧ ∃ P2 : Int32 → Prop, (∀ (l : Launch) (A : Nat → Prop), Met l yX5_kept wsX5_kept ({ frames := 0, cells := 0, slots := 0, locals := 0 }) (va_Pc [.ref hm, .int x, .int y] (fw_P G A f)) (vp_Si P2) 0 0 (fun _ => False)) ∧ ∀ r1 r2, P1 r1 → P2 r2 → r1 = r2 := by
  obtain ⟨a, I, N, B, J, aC, an, ar, as_, In, Nn, Bn, Jn, Ir, Nr, Br, Jr, Is, Ns, Bs, Js, Ic, Nc, kn, K, mn, M, O, Z, R, ht⟩ := W
  have hM := R.1.2.2.1
  have z0 : In 0 = I 0 := R.1.1.1
  have z9 : Ir 0 = I 9 := R.1.1.2.1
  have z15 : kn = I 15 := R.1.1.2.2.1
  have z19 : Ic 6 = I 19 := R.1.1.2.2.2.1
  have z31 : Is 3 = I 31 := R.1.1.2.2.2.2.1
  have m0 : I 0 ≤ 64 := hM.1.1
  have m15 : I 15 ≤ 60 := hM.1.2.2.2.1
  obtain ⟨⟨y1, y2, y3, y4⟩, y5⟩ := R.2.2.2.2.2
  have ST := same_tab R.2.2.1.1 R.2.2.1.2.2 R.2.2.1.2.1
  refine ⟨_, fun l A => p_kept Z x y R.1.2.1.1, _, fun l A => m_kept O x y hM, fun r1 r2 P1 P2 => ?_⟩
  rcases P1 with ⟨a1, a2⟩ | ⟨k, a1, a2, a3⟩ <;> rcases P2 with ⟨b1, b2⟩ | ⟨k', b1, b2, b3⟩
  · exact a2.trans b2.symm
  · exact ixc a1 b2 (by omega) (by omega)
  · exact ixc b1 a2 (by omega) (by omega)
  · obtain rfl : k = k' := nIk (a2.symm.trans b2) (by omega) (by omega)
    obtain ⟨s1, s2⟩ := ST
    obtain ⟨w1, w2, w3, w4⟩ := R.2.2.2.1.1 k b1
    have e : krF (Nn 1) (Bn 2) (K k) = cnt (fun j => !B 21 (N 20 (N 12 (32 * k + j)))) (N 11 k) := by
      unfold krF
      rw [w1]
      refine cnt_congr fun j hj => ?_
      obtain ⟨x1, x2, x3⟩ := w4 j hj
      show (!Bn 2 (Nn 1 ((K k).2.2.2.2.1 j))) = !B 21 (N 20 (N 12 (32 * k + j)))
      rw [x1, (s1 _ x3).1, (s2 _ x3).1]
    rw [a3, b3, e, w1, w2]
theorem C_count (W : WR G f hm hc t) (x : Int32) : ∃ P1 : Int32 → Prop, (∀ (l : Launch) (A : Nat → Prop), Met l yX4_count wsX4_count ({ frames := 1, cells := 0, slots := 0, locals := 20 }) (va_Pc [.ref hc, .int x] (fw_P G A f)) (vp_Si P1) 0 0 (fun _ => False)) ∧ ∃ P2 : Int32 → Prop, (∀ (l : Launch) (A : Nat → Prop), Met l yX5_count wsX5_count ({ frames := 0, cells := 0, slots := 0, locals := 0 }) (va_Pc [.ref hm, .int x] (fw_P G A f)) (vp_Si P2) 0 0 (fun _ => False)) ∧ ∀ r1 r2, P1 r1 → P2 r2 → r1 = r2 := by
  obtain ⟨a, I, N, B, J, aC, an, ar, as_, In, Nn, Bn, Jn, Ir, Nr, Br, Jr, Is, Ns, Bs, Js, Ic, Nc, kn, K, mn, M, O, Z, R, ht⟩ := W
  have hM := R.1.2.2.1
  have z0 : In 0 = I 0 := R.1.1.1
  have z9 : Ir 0 = I 9 := R.1.1.2.1
  have z15 : kn = I 15 := R.1.1.2.2.1
  have z19 : Ic 6 = I 19 := R.1.1.2.2.2.1
  have z31 : Is 3 = I 31 := R.1.1.2.2.2.2.1
  have m0 : I 0 ≤ 64 := hM.1.1
  have m15 : I 15 ≤ 60 := hM.1.2.2.2.1
  obtain ⟨⟨y1, y2, y3, y4⟩, y5⟩ := R.2.2.2.2.2
  have ST := same_tab R.2.2.1.1 R.2.2.1.2.2 R.2.2.1.2.1
  refine ⟨_, fun l A => p_count Z x, _, fun l A => m_count O x, fun r1 r2 P1 P2 => ?_⟩
  rw [P1, P2, z0, z15, z19, z9, y1, y2, z31]
end PAIRS
theorem REL_0 {K : Nat → kRT} {M : Nat → sNT} : REL (fun _ => 0) (fun _ _ => 0) (fun _ _ => false) (fun _ _ => 0) (fun _ => 0) (fun _ _ => 0) (fun _ _ => 0) (fun _ => 0) (fun _ _ => 0) (fun _ _ => 0) (fun _ => 0) (fun _ _ => 0) 0 K 0 M (fun _ => 0) (fun _ _ => 0) (fun _ _ => false) (fun _ _ => 0) := by
  refine ⟨⟨⟨rfl, rfl, rfl, rfl, rfl, Nat.le_refl _⟩, ⟨fun _ => (by decide : (0 : Nat) < 64), fun _ => (by decide : (0 : Nat) < 64), fun _ => (by decide : (0 : Nat) < 64)⟩, ⟨by decide, ⟨fun _ => (by decide : (0 : Nat) ≤ 2), fun _ => (by decide : (0 : Nat) < 64), fun _ => (by decide : (0 : Nat) < 64)⟩, ⟨fun _ => (by decide : (0 : Nat) < 64), fun _ => (by decide : (0 : Nat) ≤ 2), fun _ => (by decide : (0 : Nat) ≤ 32), fun _ => (by decide : (0 : Nat) < 64)⟩, fun _ => (by decide : (0 : Nat) < 64), fun _ => (by decide : (0 : Nat) < 64)⟩, fun _ => rfl⟩, fun i hi => absurd hi (Nat.not_lt_zero i), ⟨fun e he => absurd he (Nat.not_lt_zero e), ?_, ?_⟩, ⟨fun i hi => absurd hi (Nat.not_lt_zero i), fun i hi => absurd hi (Nat.not_lt_zero i)⟩, ⟨fun i hi => absurd hi (Nat.not_lt_zero i), fun i j _ hj => absurd hj (Nat.not_lt_zero j)⟩, rY_0 rfl rfl rfl rfl⟩
  · unfold refN
    exact ⟨fun i hi => absurd hi (Nat.not_lt_zero i), fun i hi => absurd hi (Nat.not_lt_zero i)⟩
  · unfold repN
    exact ⟨fun i hi => absurd hi (Nat.not_lt_zero i), fun i hi => absurd hi (Nat.not_lt_zero i)⟩
