/-! what is told: both answer alike and stay alike -/
theorem mOK_tell {I : Nat → Nat} {N : Nat → Nat → Nat} (h : mOK I N) {kd x y : Nat} (hk : kd ≤ 2) (hx : x < 64) (hy : y < 64) (h6 : I 6 < 6400) : mOK (tlI I) (tlN N (I 6) kd x y) := by
  obtain ⟨⟨a0, a1, a2, a3, a4⟩, ⟨b1, b2, b3⟩, ⟨c1, c2, c3, c4⟩, d, e⟩ := h
  exact ⟨⟨a0, h6, a2, a3, a4⟩, ⟨up_all (P := fun z => z ≤ 2) b1 hk, up_all (P := fun z => z < 64) b2 hx, up_all (P := fun z => z < 64) b3 hy⟩, ⟨c1, c2, c3, c4⟩, d, e⟩
theorem lgS_tell (N : Nat → Nat → Nat) (J : Nat → Nat → Int64) (t kd x y : Nat) (u v : Int64) : lgS t N (tlN N t kd x y) J (tlJ J t u v) := by
  intro e he
  refine ⟨?_, ?_, ?_, ?_, fun _ => ?_⟩
  · show N 1 e = va_up (N 1) t kd e; rw [up_n (by omega)]
  · show N 2 e = va_up (N 2) t x e; rw [up_n (by omega)]
  · show N 3 e = va_up (N 3) t y e; rw [up_n (by omega)]
  · show J 4 e = va_up (J 4) t u e; rw [up_n (by omega)]
  · show J 5 e = va_up (J 5) t v e; rw [up_n (by omega)]
theorem oth_tell (N : Nat → Nat → Nat) (B : Nat → Nat → Bool) (J : Nat → Nat → Int64) (t kd x y : Nat) (u v : Int64) : oth N (tlN N t kd x y) B B J (tlJ J t u v) := by
  refine ⟨fun k h1 h2 h3 _ => ?_, fun _ _ _ => rfl, fun k h4 h5 _ _ _ => ?_⟩
  · unfold tlN; rw [up_n h3, up_n h2, up_n h1]
  · unfold tlJ; rw [up_n h5, up_n h4]
theorem oth_wk {N' N : Nat → Nat → Nat} {B' B : Nat → Nat → Bool} {J' J : Nat → Nat → Int64} {I : Nat → Nat} (h : wkT N' B' J' I N B J) : oth N N' B B' J J' := ⟨fun k _ _ _ h20 => h.1.2.1 k h20, fun k h21 h22 => h.2.1.2.2 k h21 h22, fun k _ _ h23 h24 h25 => h.2.2.2.2.2 k h23 h24 h25⟩
theorem oth_tr {N N' N2 : Nat → Nat → Nat} {B B' B2 : Nat → Nat → Bool} {J J' J2 : Nat → Nat → Int64} (h : oth N N' B B' J J') (h2 : oth N' N2 B' B2 J' J2) : oth N N2 B B2 J J2 := ⟨fun k a b c d => (h2.1 k a b c d).trans (h.1 k a b c d), fun k a b => (h2.2.1 k a b).trans (h.2.1 k a b), fun k a b c d e => (h2.2.2 k a b c d e).trans (h.2.2 k a b c d e)⟩
theorem lgS_wk {N' N : Nat → Nat → Nat} {B' B : Nat → Nat → Bool} {J' J : Nat → Nat → Int64} {I : Nat → Nat} (h : wkT N' B' J' I N B J) (t : Nat) : lgS t N N' J J' := by
  intro e _
  rw [h.1.2.1 1 (by decide), h.1.2.1 2 (by decide), h.1.2.1 3 (by decide), h.2.2.2.2.2 4 (by decide) (by decide) (by decide), h.2.2.2.2.2 5 (by decide) (by decide) (by decide)]
  exact ⟨rfl, rfl, rfl, rfl, fun _ => rfl⟩
theorem lgS_tr {N N' N2 : Nat → Nat → Nat} {J J' J2 : Nat → Nat → Int64} {t : Nat} (h : lgS t N N' J J') (h2 : lgS t N' N2 J' J2) : lgS t N N2 J J2 := by
  intro e he
  obtain ⟨a, b, c, d, f⟩ := h e he
  obtain ⟨a', b', c', d', f'⟩ := h2 e he
  exact ⟨a.trans a', b.trans b', c.trans c', d.trans d', fun q => (f q).trans (f' (a ▸ q))⟩
theorem lgOK_S {N N' : Nat → Nat → Nat} {J J' : Nat → Nat → Int64} {n t : Nat} (h : lgS t N N' J J') (hl : lgOK n t (N 2) (N 3)) : lgOK n t (N' 2) (N' 3) := by
  intro e he
  obtain ⟨a, b, c, _⟩ := h e he
  rw [← b, ← c]; exact hl e he
section TELL
variable {In : Nat → Nat} {Nn : Nat → Nat → Nat} {Bn : Nat → Nat → Bool} {Jn : Nat → Nat → Int64} {Ir : Nat → Nat} {Nr : Nat → Nat → Nat} {Jr : Nat → Nat → Int64} {Is : Nat → Nat} {Ns : Nat → Nat → Nat} {Js : Nat → Nat → Int64} {Ic : Nat → Nat} {Nc : Nat → Nat → Nat} {kn : Nat} {K : Nat → kRT} {mn : Nat} {M : Nat → sNT} {I : Nat → Nat} {N : Nat → Nat → Nat} {B : Nat → Nat → Bool} {J : Nat → Nat → Int64}
/-- works() of the longer log: the log is no contradiction, and the rows hold by the class's own tables -/
theorem E_wk (R : REL In Nn Bn Jn Ir Nr Jr Is Ns Js Ic Nc kn K mn M I N B J) {kd x y : Nat} {u v : Int64} {N2 : Nat → Nat → Nat} {B2 : Nat → Nat → Bool} {J2 : Nat → Nat → Int64} (hx : x < I 0) (hy : y < I 0) (W : wkT N2 B2 J2 (tlI I) (tlN N (I 6) kd x y) B (tlJ J (I 6) u v)) {cond : Prop} {L' : Nat → Nat} {K' S' : Nat → Bool} {V' lo' hi' : Nat → Int64} (hc : conN (I 0) (I 6 + 1) (tlN N (I 6) kd x y 1) (tlN N (I 6) kd x y 2) (tlN N (I 6) kd x y 3) (tlJ J (I 6) u v 4) (tlJ J (I 6) u v 5) ↔ cond) (hr : cond → repN (I 0) (I 6 + 1) (tlN N (I 6) kd x y 1) (tlN N (I 6) kd x y 2) (tlN N (I 6) kd x y 3) (tlJ J (I 6) u v 4) (tlJ J (I 6) u v 5) L' K' S' V' lo' hi') : (wkC N2 B2 J2 (tlI I) (tlN N (I 6) kd x y) B (tlJ J (I 6) u v) = true ↔ cond ∧ allb (fun i => krC L' K' V' (K i)) (I 15) = true) := by
  obtain ⟨⟨_, _, hm, h26⟩, _, ⟨hl, _, _⟩, ⟨hrow, _⟩, _⟩ := R
  have hl' : lgOK (I 0) (I 6 + 1) (tlN N (I 6) kd x y 2) (tlN N (I 6) kd x y 3) := lgOK_tell (lgS_tell N J (I 6) kd x y u v) hl (by show va_up (N 2) (I 6) x (I 6) < I 0; rw [up_s]; exact hx) (by show va_up (N 3) (I 6) y (I 6) < I 0; rw [up_s]; exact hy)
  have C := wk_con W hl'
  have Rf := wk_ref W hl'
  have O := oth_tr (oth_tell N B J (I 6) kd x y u v) (oth_wk W)
  rw [C]
  have hc' : conN (tlI I 0) (tlI I 6) (tlN N (I 6) kd x y 1) (tlN N (I 6) kd x y 2) (tlN N (I 6) kd x y 3) (tlJ J (I 6) u v 4) (tlJ J (I 6) u v 5) ↔ cond := hc
  rw [hc']
  refine and_congr_right (fun q => ?_)
  have h26' : ∀ x, B2 26 x = false := by rw [O.2.1 26 (by decide) (by decide)]; exact h26
  have e := rows_same (Kr := K) (kn := I 15) hl' (hr q) Rf h26' (fun i hi => rows_oth O (Nat.le_refl _) (hrow i hi))
  rw [show allb (hoM N2 B2 J2) (tlI I 15) = allb (hoM N2 B2 J2) (I 15) from rfl, e]
/-- told, and it works -/
theorem E_tell (R : REL In Nn Bn Jn Ir Nr Jr Is Ns Js Ic Nc kn K mn M I N B J) {kd x y : Nat} {u v : Int64} {N2 : Nat → Nat → Nat} {B2 : Nat → Nat → Bool} {J2 : Nat → Nat → Int64} (h6 : I 6 < 6400) (hkd : kd ≤ 2) (hx : x < I 0) (hy : y < I 0) (W : wkT N2 B2 J2 (tlI I) (tlN N (I 6) kd x y) B (tlJ J (I 6) u v)) {Nn' : Nat → Nat → Nat} {Bn' : Nat → Nat → Bool} {Jn' : Nat → Nat → Int64} (hL : ∀ i, Nn' 1 i < 64) (hr : repN (I 0) (I 6 + 1) (tlN N (I 6) kd x y 1) (tlN N (I 6) kd x y 2) (tlN N (I 6) kd x y 3) (tlJ J (I 6) u v 4) (tlJ J (I 6) u v 5) (Nn' 1) (Bn' 2) (Bn' 4) (Jn' 3) (Jn' 5) (Jn' 6)) (hk : allb (fun i => krC (Nn' 1) (Bn' 2) (Jn' 3) (K i)) (I 15) = true) : REL In Nn' Bn' Jn' Ir Nr Jr (va_up (va_up Is 1 0) 2 0) Ns Js Ic Nc kn K mn M (fgI (tlI I)) N2 (fgB B2) J2 := by
  obtain ⟨⟨⟨z1, z2, z3, z4, z5, z6⟩, ⟨g1, g2, g3⟩, hm, h26⟩, rr, ⟨hl, _, _⟩, ⟨hrow, _⟩, rm, _⟩ := R
  have hl' : lgOK (I 0) (I 6 + 1) (tlN N (I 6) kd x y 2) (tlN N (I 6) kd x y 3) := lgOK_tell (lgS_tell N J (I 6) kd x y u v) hl (by show va_up (N 2) (I 6) x (I 6) < I 0; rw [up_s]; exact hx) (by show va_up (N 3) (I 6) y (I 6) < I 0; rw [up_s]; exact hy)
  have Rf := wk_ref W hl'
  have O := oth_tr (oth_tell N B J (I 6) kd x y u v) (oth_wk W)
  have S2 := lgS_wk W (I 6 + 1)
  have S1 := lgS_tr (lgS_tell N J (I 6) kd x y u v) (lgE_mono S2 (Nat.le_succ _))
  have hm0 := hm.1.1
  have hm2 : mOK (tlI I) N2 := mOK_20 (mOK_tell hm hkd (by omega) (by omega) h6) W.1.2.1 W.1.2.2
  have hm3 : mOK (fgI (tlI I)) N2 := mOK_I hm2 hm2.1.1 hm2.1.2.1 hm2.1.2.2.1 hm2.1.2.2.2.1 hm2.1.2.2.2.2
  refine ⟨⟨⟨z1, z2, z3, z4, z5, z6⟩, ⟨hL, g2, g3⟩, hm3, fun x => ?_⟩, rR_oth O rr (Nat.le_refl _), ⟨lgOK_S S2 hl', refN_log S2 Rf, repN_log S2 hr⟩, ⟨fun i hi => rows_oth O (Nat.le_refl _) (hrow i hi), allb_iff.mp hk⟩, rM_oth O S1 rm (Nat.le_refl _) (Nat.le_succ _) (Nat.le_refl _), rY_0 rfl rfl rfl rfl⟩
  show B2 26 x = false
  rw [O.2.1 26 (by decide) (by decide)]; exact h26 x
/-- told, and it doesn't work: all is as it was, but for numbers of names that have none -/
theorem E_fail (R : REL In Nn Bn Jn Ir Nr Jr Is Ns Js Ic Nc kn K mn M I N B J) {kd x y : Nat} {u v : Int64} {N2 N3 : Nat → Nat → Nat} {B2 B3 : Nat → Nat → Bool} {J2 J3 : Nat → Nat → Int64} (h6 : I 6 < 6400) (hkd : kd ≤ 2) (hx : x < I 0) (hy : y < I 0) (W : wkT N2 B2 J2 (tlI I) (tlN N (I 6) kd x y) B (tlJ J (I 6) u v)) (W3 : wkT N3 B3 J3 (va_up (tlI I) 6 (I 6 + 1 - 1)) N2 B2 J2) {Jn' : Nat → Nat → Int64} (hq : ∀ q, q ≠ 3 → Jn' q = Jn q) (h3 : ∀ i, Bn 2 i = true → Jn' 3 i = Jn 3 i) : REL In Nn Bn Jn' Ir Nr Jr Is Ns Js Ic Nc kn K mn M (va_up (tlI I) 6 (I 6 + 1 - 1)) N3 B3 J3 := by
  obtain ⟨⟨⟨z1, z2, z3, z4, z5, z6⟩, g, hm, h26⟩, rr, rt, rk, rm, ry⟩ := R
  have O := oth_tr (oth_tr (oth_tell N B J (I 6) kd x y u v) (oth_wk W)) (oth_wk W3)
  have S2 : lgS (I 6) N N2 J J2 := lgS_tr (lgS_tell N J (I 6) kd x y u v) (lgS_wk W (I 6))
  have S1 : lgS (I 6) N N3 J J3 := lgS_tr S2 (lgS_wk W3 (I 6))
  have hm0 := hm.1.1
  have hm2 : mOK (tlI I) N2 := mOK_20 (mOK_tell hm hkd (by omega) (by omega) h6) W.1.2.1 W.1.2.2
  have hm3 : mOK (va_up (tlI I) 6 (I 6 + 1 - 1)) N2 := mOK_I hm2 hm2.1.1 (by show I 6 + 1 - 1 ≤ 6400; omega) hm2.1.2.2.1 hm2.1.2.2.2.1 hm2.1.2.2.2.2
  have hm4 := mOK_20 hm3 W3.1.2.1 W3.1.2.2
  obtain ⟨tl, tf, tp⟩ := rT_V hq h3 rt
  have Rf : refN (I 0) (I 6) (N2 1) (N2 2) (N2 3) (J2 4) (J2 5) (N3 20) (B3 21) (B3 22) (J3 23) (J3 24) (J3 25) := wk_ref W3 (show lgOK (I 0) (I 6) (N2 2) (N2 3) from lgOK_S S2 tl)
  refine ⟨⟨⟨z1, z2, z3, z4, z5, z6⟩, g, hm4, fun x => ?_⟩, rR_oth O rr (Nat.le_refl _), ⟨lgOK_S S1 tl, refN_log (lgS_wk W3 (I 6)) Rf, repN_log S1 tp⟩, ⟨fun i hi => rows_oth O (Nat.le_refl _) (rk.1 i hi), (rK_V h3 rk).2⟩, rM_oth O S1 rm (Nat.le_refl _) (Nat.le_refl _) (Nat.le_refl _), ?_⟩
  · rw [O.2.1 26 (by decide) (by decide)]; exact h26 x
  · have ry' := rY_V hq h3 ry
    unfold rY at ry' ⊢
    rw [O.1 28 (by decide) (by decide) (by decide) (by decide), O.2.1 32 (by decide) (by decide), O.2.2 33 (by decide) (by decide) (by decide) (by decide) (by decide)]
    exact ry'
end TELL
