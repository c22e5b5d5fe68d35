/-! put, keep, mark, back: both stay alike -/
theorem krC_tab {L L' : Nat → Nat} {B B' : Nat → Bool} {V V' : Nat → Int64} {k : kRT} {n : Nat} (h : ∀ i, i < n → L' i = L i ∧ B' i = B i ∧ V' i = V i) (hL : ∀ i, i < n → L i < n) (hp : ∀ j, j < k.2.1 → k.2.2.2.2.1 j < n) : krC L' B' V' k = krC L B V k := by
  have eF : krF L' B' k = krF L B k := cnt_congr (fun j hj => by rw [(h _ (hp j hj)).1, (h _ (hL _ (hp j hj))).2.1])
  by_cases q : krF L B k = 0
  · rw [krC_z (eF.trans q), krC_z q]
    exact soF_congr (fun _ _ => rfl) (fun j hj => by rw [(h _ (hp j hj)).1, (h _ (hL _ (hp j hj))).2.2])
  · rw [krC_n (fun z => q (eF.symm.trans z)), krC_n q]
theorem row_pl {k : kRT} {N : Nat → Nat → Nat} {J : Nat → Nat → Int64} {i n : Nat} (h : rowR k N J i n) : ∀ j, j < k.2.1 → k.2.2.2.2.1 j < n := fun j hj => by
  rw [h.1] at hj
  rw [(h.2.2.2 j hj).1]; exact (h.2.2.2 j hj).2.2
theorem rep_lt {n t : Nat} {so ofa wi : Nat → Nat} {fr to : Nat → Int64} {L : Nat → Nat} {K S : Nat → Bool} {V lo hi : Nat → Int64} (hl : lgOK n t ofa wi) (R : repN n t so ofa wi fr to L K S V lo hi) : ∀ i, i < n → L i < n := fun i hi => by rw [R.1 i hi]; exact (gF_root hl hi).1
theorem cut_uniq {P : Nat → Nat} {m n c c' : Nat} (h1 : c ≤ m) (h2 : ∀ i, i < c → P i < n) (h3 : c < m → n ≤ P c) (g1 : c' ≤ m) (g2 : ∀ i, i < c' → P i < n) (g3 : c' < m → n ≤ P c') : c = c' := by
  rcases Nat.lt_trichotomy c c' with q | q | q
  · have := g2 c q; have := h3 (by omega); omega
  · exact q
  · have := h2 c' q; have := g3 (by omega); omega
section MORE
variable {In : Nat → Nat} {Nn : Nat → Nat → Nat} {Bn : Nat → Nat → Bool} {Jn : Nat → Nat → Int64} {Ir : Nat → Nat} {Nr : Nat → Nat → Nat} {Jr : Nat → Nat → Int64} {Is : Nat → Nat} {Ns : Nat → Nat → Nat} {Js : Nat → Nat → Int64} {Ic : Nat → Nat} {Nc : Nat → Nat → Nat} {kn : Nat} {K : Nat → kRT} {mn : Nat} {M : Nat → sNT} {I : Nat → Nat} {N : Nat → Nat → Nat} {B : Nat → Nat → Bool} {J : Nat → Nat → Int64}
theorem E_put (R : REL In Nn Bn Jn Ir Nr Jr Is Ns Js Ic Nc kn K mn M I N B J) {k : Nat} (u : Int64) (hk : k < I 0) (h9 : I 9 < 32) : REL In Nn Bn Jn (va_up Ir 0 (Ir 0 + 1)) (va_up Nr 1 (va_up (Nr 1) (Ir 0) k)) (va_up Jr 2 (va_up (Jr 2) (Ir 0) u)) Is Ns Js Ic Nc kn K mn M (va_up I 9 (I 9 + 1)) (va_up N 7 (va_up (N 7) (I 9) k)) B (va_up J 8 (va_up (J 8) (I 9) u)) := by
  obtain ⟨⟨⟨z1, z2, z3, z4, z5, z6⟩, ⟨g1, g2, g3⟩, hm, h26⟩, rr, rt, rk, rm, ry⟩ := R
  rw [z2]
  have hm0 := hm.1.1
  refine ⟨⟨⟨z1, rfl, z3, z4, z5, z6⟩, ⟨g1, up_all (P := fun z => z < 64) g2 (by omega), g3⟩, ?_, h26⟩, ?_, rt, rk, rm, ry⟩
  · obtain ⟨a, b, ⟨c1, c2⟩, d⟩ := hm
    exact ⟨⟨a.1, a.2.1, h9, a.2.2.2⟩, b, ⟨up_all (P := fun z => z < 64) c1 (by omega), c2⟩, d⟩
  · intro i hi
    have hi' : i < I 9 + 1 := hi
    show va_up (Nr 1) (I 9) k i = va_up (N 7) (I 9) k i ∧ va_up (N 7) (I 9) k i < I 0 ∧ va_up (Jr 2) (I 9) u i = va_up (J 8) (I 9) u i
    by_cases q : i = I 9
    · rw [q, up_s, up_s, up_s, up_s]; exact ⟨rfl, hk, rfl⟩
    · rw [up_n q, up_n q, up_n q, up_n q]; exact rr i (by omega)
theorem row_kp {k : kRT} {i u : Nat} {v : Int64} (hm : mOK I N) (hi : i < I 15) {n : Nat} (h : rowR k N J i n) : rowR k (kpN N (I 15) u (I 9)) (kpJ J (I 15) (I 9) v) i n := by
  obtain ⟨a, b, c, d⟩ := h
  have h32 := hm.2.2.1.2.2.1 i
  have e10 : kpN N (I 15) u (I 9) 10 i = N 10 i := up_n (by omega)
  have e11 : kpN N (I 15) u (I 9) 11 i = N 11 i := up_n (by omega)
  have e14 : kpJ J (I 15) (I 9) v 14 i = J 14 i := up_n (by omega)
  unfold rowR
  rw [e10, e11, e14]
  refine ⟨a, b, c, fun j hj => ?_⟩
  have e12 : kpN N (I 15) u (I 9) 12 (32 * i + j) = N 12 (32 * i + j) := if_neg (by omega)
  have e13 : kpJ J (I 15) (I 9) v 13 (32 * i + j) = J 13 (32 * i + j) := if_neg (by omega)
  rw [e12, e13]; exact d j hj
theorem E_kept (R : REL In Nn Bn Jn Ir Nr Jr Is Ns Js Ic Nc kn K mn M I N B J) {k : kRT} {u : Nat} {v : Int64} (h15 : I 15 < 60) (hu : u ≤ 2) (hk : kNew k u v (Ir 0) (Nr 1) (Jr 2)) : rowR k (kpN N (I 15) u (I 9)) (kpJ J (I 15) (I 9) v) (I 15) (I 0) ∧ hoM (kpN N (I 15) u (I 9)) (fgB B) (kpJ J (I 15) (I 9) v) (I 15) = krC (Nn 1) (Bn 2) (Jn 3) k := by
  obtain ⟨⟨⟨z1, z2, z3, z4, z5, z6⟩, ⟨g1, g2, g3⟩, hm, h26⟩, rr, ⟨hl, rf, rp⟩, rk, rm, ry⟩ := R
  obtain ⟨k1, k2, k3, k4, k5, k6⟩ := hk
  rw [z2] at k1 k4 k5
  have hrow : rowR k (kpN N (I 15) u (I 9)) (kpJ J (I 15) (I 9) v) (I 15) (I 0) := by
    have e10 : kpN N (I 15) u (I 9) 10 (I 15) = u := up_s _ _ _
    have e11 : kpN N (I 15) u (I 9) 11 (I 15) = I 9 := up_s _ _ _
    have e14 : kpJ J (I 15) (I 9) v 14 (I 15) = v := up_s _ _ _
    unfold rowR
    rw [e10, e11, e14]
    refine ⟨k1, k2, k3, fun j hj => ?_⟩
    have e12 : kpN N (I 15) u (I 9) 12 (32 * I 15 + j) = N 7 j := by
      show nset (N 12) (32 * I 15) (I 9) (N 7) (32 * I 15 + j) = N 7 j
      unfold nset; rw [if_pos (by omega), show 32 * I 15 + j - 32 * I 15 = j by omega]
    have e13 : kpJ J (I 15) (I 9) v 13 (32 * I 15 + j) = J 8 j := by
      show wset (J 13) (32 * I 15) (I 9) (J 8) (32 * I 15 + j) = J 8 j
      unfold wset; rw [if_pos (by omega), show 32 * I 15 + j - 32 * I 15 = j by omega]
    rw [e12, e13, k4 j hj, k5 j hj]
    exact ⟨(rr j hj).1, (rr j hj).2.2, (rr j hj).2.1⟩
  have ks := known_same (N := kpN N (I 15) u (I 9)) (B := fgB B) (J := kpJ J (I 15) (I 9) v) hl rp rf h26
  exact ⟨hrow, hoM_kr hrow ks.1 ks.2⟩
theorem mOK_kp (hm : mOK I N) {u : Nat} (hu : u ≤ 2) : mOK I (kpN N (I 15) u (I 9)) := by
  obtain ⟨a, b, ⟨c1, c2, c3, c4⟩, d⟩ := hm
  exact ⟨a, b, ⟨c1, up_all (P := fun z => z ≤ 2) c2 hu, up_all (P := fun z => z ≤ 32) c3 a.2.2.1, nset_all (P := fun z => z < 64) c4 c1⟩, d⟩
theorem E_keep0 (R : REL In Nn Bn Jn Ir Nr Jr Is Ns Js Ic Nc kn K mn M I N B J) : REL In Nn Bn Jn (va_up Ir 0 0) Nr Jr (va_up (va_up Is 1 0) 2 0) Ns Js Ic Nc kn K mn M (kpI I) N (fgB B) J := by
  obtain ⟨⟨⟨z1, z2, z3, z4, z5, z6⟩, g, hm, h26⟩, rr, rt, rk, rm, ry⟩ := R
  exact ⟨⟨⟨z1, rfl, z3, z4, z5, z6⟩, g, mOK_I hm hm.1.1 hm.1.2.1 (Nat.zero_le _) hm.1.2.2.2.1 hm.1.2.2.2.2, h26⟩, fun i hi => absurd hi (Nat.not_lt_zero i), rt, rk, rm, rY_0 rfl rfl rfl rfl⟩
theorem rM_kp (hm : mOK I N) {m u : Nat} {v : Int64} {K' : Nat → kRT} {k' : Nat} (hK : ∀ i, i < I 15 → K' i = K i) (hk : I 15 ≤ k') (h : rM m Nc K M (I 0) (I 6) (I 15) N J) : rM m Nc K' M (I 0) (I 6) k' (kpN N (I 15) u (I 9)) (kpJ J (I 15) (I 9) v) := by
  refine ⟨fun j hj => ?_, h.2⟩
  obtain ⟨⟨a1, a2, a3, a4, a5⟩, b, c, d⟩ := h.1 j hj
  refine ⟨⟨a1, a2, a3, Nat.le_trans a4 hk, a5⟩, b, c, fun i hi => ?_, fun i hi => ?_⟩
  · have hi' : i < N 18 j := hi
    rw [hK i (by omega)]
    exact row_kp hm (by omega) (d.1 i hi)
  · have hi' : i < N 18 j := hi
    rw [hK i (by omega)]; exact d.2 i hi
theorem E_keep1 (R : REL In Nn Bn Jn Ir Nr Jr Is Ns Js Ic Nc kn K mn M I N B J) {u : Nat} {v : Int64} (hu : u ≤ 2) : REL In Nn Bn Jn (va_up Ir 0 0) Nr Jr (va_up (va_up Is 1 0) 2 0) Ns Js Ic Nc kn K mn M (kpI I) (kpN N (I 15) u (I 9)) (fgB B) (kpJ J (I 15) (I 9) v) := by
  obtain ⟨⟨⟨z1, z2, z3, z4, z5, z6⟩, g, hm, h26⟩, rr, rt, rk, rm, ry⟩ := R
  have hm2 := mOK_kp hm hu
  exact ⟨⟨⟨z1, rfl, z3, z4, z5, z6⟩, g, mOK_I hm2 hm2.1.1 hm2.1.2.1 (Nat.zero_le _) hm2.1.2.2.2.1 hm2.1.2.2.2.2, h26⟩, fun i hi => absurd hi (Nat.not_lt_zero i), rt, ⟨fun i hi => row_kp hm hi (rk.1 i hi), rk.2⟩, rM_kp hm (fun _ _ => rfl) (Nat.le_refl _) rm, rY_0 rfl rfl rfl rfl⟩
theorem E_keep2 (R : REL In Nn Bn Jn Ir Nr Jr Is Ns Js Ic Nc kn K mn M I N B J) {k : kRT} {u : Nat} {v : Int64} (h15 : I 15 < 60) (hu : u ≤ 2) (hk : kNew k u v (Ir 0) (Nr 1) (Jr 2)) (hc : krC (Nn 1) (Bn 2) (Jn 3) k = true) : REL In Nn Bn Jn (va_up Ir 0 0) Nr Jr (va_up (va_up Is 1 0) 2 0) Ns Js Ic Nc (kn + 1) (va_up K kn k) mn M (va_up (kpI I) 15 (I 15 + 1)) (kpN N (I 15) u (I 9)) (fgB B) (kpJ J (I 15) (I 9) v) := by
  have E := E_kept R h15 hu hk
  obtain ⟨⟨⟨z1, z2, z3, z4, z5, z6⟩, g, hm, h26⟩, rr, rt, rk, rm, ry⟩ := R
  have hm2 := mOK_kp hm hu
  rw [z3]
  refine ⟨⟨⟨z1, rfl, rfl, z4, z5, z6⟩, g, mOK_I hm2 hm2.1.1 hm2.1.2.1 (Nat.zero_le _) h15 hm2.1.2.2.2.2, h26⟩, fun i hi => absurd hi (Nat.not_lt_zero i), rt, ⟨fun i hi => ?_, fun i hi => ?_⟩, rM_kp hm (fun i hi => up_n (by omega)) (Nat.le_succ _) rm, rY_0 rfl rfl rfl rfl⟩
  · have hi' : i < I 15 + 1 := hi
    by_cases q : i = I 15
    · rw [q, up_s]; exact E.1
    · rw [up_n q]; exact row_kp hm (by omega) (rk.1 i (by omega))
  · have hi' : i < I 15 + 1 := hi
    by_cases q : i = I 15
    · rw [q, up_s]; exact hc
    · rw [up_n q]; exact rk.2 i (by omega)
theorem E_mark (R : REL In Nn Bn Jn Ir Nr Jr Is Ns Js Ic Nc kn K mn M I N B J) {mn2 : Nat} {M2 : Nat → sNT} (h19 : I 19 < 40) (h1 : Ic 6 < mn2) (h3 : ∀ j, j < Ic 6 → M2 j = M j) (h4 : (M2 (Ic 6)).2.2.1 0 = In 0) (h5 : smN (In 0) (M2 (Ic 6)).2.2.2.1 (M2 (Ic 6)).2.2.2.2.1 (M2 (Ic 6)).2.2.2.2.2 Nn Bn Jn) : REL In Nn Bn Jn Ir Nr Jr Is Ns Js (va_up Ic 6 (Ic 6 + 1)) (va_up Nc 5 (va_up (Nc 5) (Ic 6) kn)) kn K mn2 M2 (va_up I 19 (I 19 + 1)) (va_up (va_up (va_up N 16 (va_up (N 16) (I 19) (I 0))) 17 (va_up (N 17) (I 19) (I 6))) 18 (va_up (N 18) (I 19) (I 15))) B J := by
  obtain ⟨⟨⟨z1, z2, z3, z4, z5, z6⟩, g, hm, h26⟩, rr, ⟨hl, rf, rp⟩, rk, rm, ry⟩ := R
  rw [z4] at h1 h3 h4 h5 ⊢
  rw [z1] at h4 h5
  rw [z3]
  rw [z3] at ry
  refine ⟨⟨⟨z1, z2, rfl, rfl, z5, h1⟩, g, ⟨⟨hm.1.1, hm.1.2.1, hm.1.2.2.1, hm.1.2.2.2.1, h19⟩, hm.2⟩, h26⟩, rr, ⟨hl, rf, rp⟩, rk, ⟨fun j hj => ?_, fun i j hij hj => ?_⟩, ry⟩
  · have hj' : j < I 19 + 1 := hj
    by_cases q : j = I 19
    · subst q
      show (((M2 (I 19)).2.2.1 0 = va_up (N 16) (I 19) (I 0) (I 19) ∧ va_up (N 16) (I 19) (I 0) (I 19) ≤ I 0 ∧ va_up (N 17) (I 19) (I 6) (I 19) ≤ I 6 ∧ va_up (N 18) (I 19) (I 15) (I 19) ≤ I 15 ∧ va_up (Nc 5) (I 19) (I 15) (I 19) = va_up (N 18) (I 19) (I 15) (I 19)) ∧ lgOK (va_up (N 16) (I 19) (I 0) (I 19)) (va_up (N 17) (I 19) (I 6) (I 19)) (N 2) (N 3) ∧ repN (va_up (N 16) (I 19) (I 0) (I 19)) (va_up (N 17) (I 19) (I 6) (I 19)) (N 1) (N 2) (N 3) (J 4) (J 5) _ _ _ _ _ _ ∧ rK (va_up (N 16) (I 19) (I 0) (I 19)) (va_up (N 18) (I 19) (I 15) (I 19)) _ _ _ K N J)
      rw [up_s, up_s, up_s, up_s]
      refine ⟨⟨h4, Nat.le_refl _, Nat.le_refl _, Nat.le_refl _, rfl⟩, hl, repN_tab (fun i hi => by obtain ⟨a, b, c, d, e, f⟩ := h5 i hi; exact ⟨a, b, d, e, f⟩) (fun i hi _ => (h5 i hi).2.2.1) rp, rk.1, fun i hi => ?_⟩
      rw [krC_tab (n := I 0) (fun i hi => ⟨(h5 i hi).1, (h5 i hi).2.1, (h5 i hi).2.2.1⟩) (rep_lt hl rp) (row_pl (rk.1 i hi))]
      exact rk.2 i hi
    · have hjl : j < I 19 := by omega
      have X := rm.1 j hjl
      unfold mkR at X ⊢
      rw [h3 j hjl]
      show (((M j).2.2.1 0 = va_up (N 16) (I 19) (I 0) j ∧ va_up (N 16) (I 19) (I 0) j ≤ I 0 ∧ va_up (N 17) (I 19) (I 6) j ≤ I 6 ∧ va_up (N 18) (I 19) (I 15) j ≤ I 15 ∧ va_up (Nc 5) (I 19) (I 15) j = va_up (N 18) (I 19) (I 15) j) ∧ lgOK (va_up (N 16) (I 19) (I 0) j) (va_up (N 17) (I 19) (I 6) j) (N 2) (N 3) ∧ repN (va_up (N 16) (I 19) (I 0) j) (va_up (N 17) (I 19) (I 6) j) (N 1) (N 2) (N 3) (J 4) (J 5) _ _ _ _ _ _ ∧ rK (va_up (N 16) (I 19) (I 0) j) (va_up (N 18) (I 19) (I 15) j) _ _ _ K N J)
      rw [up_n q, up_n q, up_n q, up_n q]
      exact X
  · have hj' : j < I 19 + 1 := hj
    show va_up (N 16) (I 19) (I 0) i ≤ va_up (N 16) (I 19) (I 0) j ∧ va_up (N 17) (I 19) (I 6) i ≤ va_up (N 17) (I 19) (I 6) j ∧ va_up (N 18) (I 19) (I 15) i ≤ va_up (N 18) (I 19) (I 15) j
    by_cases q : j = I 19
    · by_cases q2 : i = I 19
      · rw [q, q2]; exact ⟨Nat.le_refl _, Nat.le_refl _, Nat.le_refl _⟩
      · rw [q, up_s, up_s, up_s, up_n q2, up_n q2, up_n q2]
        obtain ⟨⟨a1, a2, a3, a4, a5⟩, _⟩ := rm.1 i (by omega)
        exact ⟨a2, a3, a4⟩
    · rw [up_n q, up_n q, up_n q, up_n (by omega), up_n (by omega), up_n (by omega)]
      exact rm.2 i j hij (by omega)
theorem E_back (R : REL In Nn Bn Jn Ir Nr Jr Is Ns Js Ic Nc kn K mn M I N B J) {N7 : Nat → Nat → Nat} {B7 : Nat → Nat → Bool} {J7 : Nat → Nat → Int64} {c c' : Nat} {N2 : Nat → Nat → Nat} {B2 : Nat → Nat → Bool} {J2 : Nat → Nat → Int64} (h19 : 0 < I 19) (h1 : smN ((M (Ic 6 - 1)).2.2.1 0) N7 B7 J7 (M (Ic 6 - 1)).2.2.2.1 (M (Ic 6 - 1)).2.2.2.2.1 (M (Ic 6 - 1)).2.2.2.2.2) (h2 : ∀ i, N7 1 i < 64) (c1 : c ≤ Ir 0) (c2 : ∀ i, i < c → Nr 1 i < (M (Ic 6 - 1)).2.2.1 0) (c3 : c < Ir 0 → (M (Ic 6 - 1)).2.2.1 0 ≤ Nr 1 c) (d1 : c' ≤ I 9) (d2 : ∀ i, i < c' → N 7 i < N 16 (I 19 - 1)) (d3 : c' < I 9 → N 16 (I 19 - 1) ≤ N 7 c') (W : wkT N2 B2 J2 (bkI I N c') N B J) : REL (va_up In 0 ((M (Ic 6 - 1)).2.2.1 0)) N7 B7 J7 (va_up Ir 0 c) Nr Jr (va_up (va_up Is 1 0) 2 0) Ns Js (va_up Ic 6 (Ic 6 - 1)) Nc (Nc 5 (Ic 6 - 1)) K mn M (fgI (bkI I N c')) N2 (fgB B2) J2 := by
  obtain ⟨⟨⟨z1, z2, z3, z4, z5, z6⟩, ⟨g1, g2, g3⟩, hm, h26⟩, rr, _, rk, rm, _⟩ := R
  have hz6 : I 19 ≤ mn := by omega
  rw [z4] at h1 c2 c3 ⊢
  rw [z2] at c1 c3
  obtain ⟨⟨a1, a2, a3, a4, a5⟩, hl, rp, rkm⟩ := rm.1 (I 19 - 1) (by omega)
  rw [a1] at h1 c2 c3 ⊢
  rw [a5]
  have O := oth_wk W
  have S2 : ∀ t, lgS t N N2 J J2 := lgS_wk W
  have ecc : c = c' := cut_uniq c1 (fun i hi => by rw [← (rr i (by omega)).1]; exact c2 i hi) (fun hi => by rw [← (rr c hi).1]; exact c3 hi) d1 d2 d3
  subst ecc
  have hl2 : lgOK (bkI I N c 0) (bkI I N c 6) (N 2) (N 3) := hl
  have Rf : refN (N 16 (I 19 - 1)) (N 17 (I 19 - 1)) (N 1) (N 2) (N 3) (J 4) (J 5) (N2 20) (B2 21) (B2 22) (J2 23) (J2 24) (J2 25) := wk_ref W hl2
  have hm1 : mOK (bkI I N c) N := mOK_I hm (Nat.le_trans a2 hm.1.1) (Nat.le_trans a3 hm.1.2.1) (Nat.le_trans d1 hm.1.2.2.1) (Nat.le_trans a4 hm.1.2.2.2.1) (by have := hm.1.2.2.2.2; show I 19 - 1 ≤ 40; omega)
  have hm2 := mOK_20 hm1 W.1.2.1 W.1.2.2
  have hm3 : mOK (fgI (bkI I N c)) N2 := mOK_I hm2 hm2.1.1 hm2.1.2.1 hm2.1.2.2.1 hm2.1.2.2.2.1 hm2.1.2.2.2.2
  have rp' : repN (N 16 (I 19 - 1)) (N 17 (I 19 - 1)) (N 1) (N 2) (N 3) (J 4) (J 5) (N7 1) (B7 2) (B7 4) (J7 3) (J7 5) (J7 6) := repN_tab (fun i hi => by obtain ⟨a, b, c, d, e, f⟩ := h1 i hi; exact ⟨a, b, d, e, f⟩) (fun i hi _ => (h1 i hi).2.2.1) rp
  refine ⟨⟨⟨rfl, rfl, rfl, rfl, z5, by show I 19 - 1 ≤ mn; omega⟩, ⟨h2, g2, g3⟩, hm3, fun x => ?_⟩, ?_, ⟨lgOK_S (S2 _) hl, refN_log (S2 _) Rf, repN_log (S2 _) rp'⟩, ⟨fun i hi => rows_oth O (Nat.le_refl _) (rkm.1 i hi), fun i hi => ?_⟩, ?_, rY_0 rfl rfl rfl rfl⟩
  · show B2 26 x = false
    rw [O.2.1 26 (by decide) (by decide)]; exact h26 x
  · intro i hi
    have hi' : i < c := hi
    rw [O.1 7 (by decide) (by decide) (by decide) (by decide), O.2.2 8 (by decide) (by decide) (by decide) (by decide) (by decide)]
    exact ⟨(rr i (by omega)).1, d2 i hi', (rr i (by omega)).2.2⟩
  · rw [krC_tab (n := N 16 (I 19 - 1)) (fun i hi => ⟨(h1 i hi).1, (h1 i hi).2.1, (h1 i hi).2.2.1⟩) (rep_lt hl rp) (row_pl (rkm.1 i hi))]
    exact rkm.2 i hi
  · have X : rM (I 19 - 1) Nc K M (N 16 (I 19 - 1)) (N 17 (I 19 - 1)) (N 18 (I 19 - 1)) N J := by
      refine ⟨fun j hj => ?_, fun i j hij hj => rm.2 i j hij (by omega)⟩
      obtain ⟨⟨b1, b2, b3, b4, b5⟩, hrest⟩ := rm.1 j (by omega)
      obtain ⟨m1, m2, m3⟩ := rm.2 j (I 19 - 1) (by omega) (by omega)
      exact ⟨⟨b1, m1, m2, m3, b5⟩, hrest⟩
    exact rM_oth O (S2 _) X (Nat.le_refl _) (Nat.le_refl _) (Nat.le_refl _)
end MORE
