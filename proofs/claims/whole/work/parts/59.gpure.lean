/-! the free names that a search gathers; how it ends -/
theorem gth_dst (pl L : Nat → Nat) (K : Nat → Bool) (fr0 : Nat → Nat) : ∀ n, dst (gth pl L K 0 fr0 n).2 (gth pl L K 0 fr0 n).1
  | 0 => fun i j hi => absurd hi (Nat.not_lt_zero i)
  | n + 1 => by
    have ih := gth_dst pl L K fr0 n
    by_cases h : K (L (L (pl n))) = false ∧ levF (gth pl L K 0 fr0 n).2 (gth pl L K 0 fr0 n).1 (L (pl n)) = 0
    · rw [gth_y h.1 h.2]
      have h2 := levF_iff.mp h.2
      intro i j hi hj
      show va_up _ _ _ i = va_up _ _ _ j → i = j
      intro q
      have hi' : i < (gth pl L K 0 fr0 n).1 + 1 := hi
      have hj' : j < (gth pl L K 0 fr0 n).1 + 1 := hj
      by_cases a : i = (gth pl L K 0 fr0 n).1
      · by_cases b : j = (gth pl L K 0 fr0 n).1
        · omega
        · rw [a, up_s, up_n b] at q
          exact absurd q.symm (h2 j (by omega))
      · by_cases b : j = (gth pl L K 0 fr0 n).1
        · rw [b, up_s, up_n a] at q
          exact absurd q (h2 i (by omega))
        · rw [up_n a, up_n b] at q
          exact ih i j (by omega) (by omega) q
    · have e : gth pl L K 0 fr0 (n + 1) = gth pl L K 0 fr0 n := if_neg h
      rw [e]; exact ih
theorem gth_lt {pl L : Nat → Nat} {K : Nat → Bool} {fr0 : Nat → Nat} (h0 : ∀ i, fr0 i < 64) (hL : ∀ i, L i < 64) : ∀ n i, (gth pl L K 0 fr0 n).2 i < 64
  | 0, i => h0 i
  | n + 1, i => by
    have ih := gth_lt (pl := pl) (K := K) h0 hL n
    by_cases h : K (L (L (pl n))) = false ∧ levF (gth pl L K 0 fr0 n).2 (gth pl L K 0 fr0 n).1 (L (pl n)) = 0
    · rw [gth_y h.1 h.2]; exact up_all (P := fun z => z < 64) ih (hL _) i
    · have e : gth pl L K 0 fr0 (n + 1) = gth pl L K 0 fr0 n := if_neg h
      rw [e]; exact ih i
theorem gth_le (pl L : Nat → Nat) (K : Nat → Bool) (fr0 : Nat → Nat) : ∀ n, (gth pl L K 0 fr0 n).1 ≤ n
  | 0 => Nat.le_refl 0
  | n + 1 => by
    have ih := gth_le pl L K fr0 n
    by_cases h : K (L (L (pl n))) = false ∧ levF (gth pl L K 0 fr0 n).2 (gth pl L K 0 fr0 n).1 (L (pl n)) = 0
    · rw [gth_y h.1 h.2]; show _ + 1 ≤ n + 1; omega
    · have e : gth pl L K 0 fr0 (n + 1) = gth pl L K 0 fr0 n := if_neg h
      rw [e]; omega
theorem gth_ok {pl L : Nat → Nat} {K : Nat → Bool} {fr0 : Nat → Nat} : ∀ n, (∀ i, i < n → L (L (pl i)) = L (pl i)) → ∀ j, j < (gth pl L K 0 fr0 n).1 → L ((gth pl L K 0 fr0 n).2 j) = (gth pl L K 0 fr0 n).2 j ∧ K ((gth pl L K 0 fr0 n).2 j) = false
  | 0, _ => fun j hj => absurd hj (Nat.not_lt_zero j)
  | n + 1, hr => by
    have ih := gth_ok (pl := pl) (L := L) (K := K) (fr0 := fr0) n (fun i hi => hr i (by omega))
    by_cases h : K (L (L (pl n))) = false ∧ levF (gth pl L K 0 fr0 n).2 (gth pl L K 0 fr0 n).1 (L (pl n)) = 0
    · rw [gth_y h.1 h.2]
      intro j hj
      have hj' : j < (gth pl L K 0 fr0 n).1 + 1 := hj
      show L (va_up _ _ _ j) = va_up _ _ _ j ∧ K (va_up _ _ _ j) = false
      by_cases a : j = (gth pl L K 0 fr0 n).1
      · rw [a, up_s]
        exact ⟨hr n (by omega), by rw [← hr n (by omega)]; exact h.1⟩
      · rw [up_n a]; exact ih j (by omega)
    · have e : gth pl L K 0 fr0 (n + 1) = gth pl L K 0 fr0 n := if_neg h
      rw [e]; exact ih
theorem cnt_0 {P : Nat → Bool} : ∀ {n : Nat}, (∀ i, i < n → P i = false) → cnt P n = 0
  | 0, _ => rfl
  | n + 1, h => by rw [cnt_f (h n (by omega))]; exact cnt_0 (fun i hi => h i (by omega))
theorem cnt_0i {P : Nat → Bool} : ∀ {n : Nat}, cnt P n = 0 → ∀ i, i < n → P i = false
  | 0, _, i, hi => absurd hi (Nat.not_lt_zero i)
  | n + 1, h, i, hi => by
    cases hp : P n with
    | true => rw [cnt_t hp] at h; cases h
    | false =>
      rw [cnt_f hp] at h
      rcases Nat.lt_or_ge i n with q | q
      · exact cnt_0i h i q
      · rw [show i = n by omega]; exact hp
theorem knL_0 (K : Nat → Bool) (fr : Nat → Nat) (r : Nat) : knL K fr 0 r = K r := by
  unfold knL
  show (K r || decide ((0 : Nat) ≠ 0)) = K r
  rw [decide_eq_false (fun q => q rfl), Bool.or_false]
theorem gd_0 {K : Nat → kRT} {kn : Nat} {L : Nat → Nat} {K0 : Nat → Bool} {V0 : Nat → Int64} {fr : Nat → Nat} {n : Nat} {cur : Nat → Int64} (h : ∀ i, i < kn → krC L K0 V0 (K i) = true) : gdC K kn L K0 V0 fr n 0 cur = true := by
  unfold gdC gdF
  refine allb_t fun i hi => ?_
  unfold hoF
  split
  · rename_i hk
    have hk : ∀ j, j < (K i).2.1 → K0 (L ((K i).2.2.2.2.1 j)) = true := fun j hj => by
      have := allb_iff.mp hk j hj
      exact (knL_0 K0 fr _).symm.trans this
    have h0 : krF L K0 (K i) = 0 := cnt_0 (fun j hj => by rw [hk j hj]; rfl)
    have := h i hi
    rw [krC_z h0] at this
    rw [← this]
    refine soF_congr (fun _ _ => rfl) (fun j hj => ?_)
    exact if_pos (hk j hj)
  · rfl
theorem tb_0 {B0 B5 : Nat → Nat → Bool} {fr : Nat → Nat} (h1 : ∀ q, q ≠ 2 → B5 q = B0 q) (h2 : ∀ r, B5 2 r = knL (B0 2) fr 0 r) : B5 = B0 := by
  funext q
  by_cases e : q = 2
  · subst e; funext r; rw [h2 r, knL_0]
  · exact h1 q e
def rsC (L : Nat → Nat) (B : Nat → Nat → Bool) (J : Nat → Nat → Int64) (fr : Nat → Nat) (n : Nat) (K : Nat → kRT) (kn : Nat) : Int32 × Nat × (Nat → Nat → Int64) := it n (loC J L fr) (hiC J L fr) (gdC K kn L (B 2) (J 3) fr n) 5000 0 (va_up (fun _ => 0) 0 (loC J L fr 0)) 0 (fun _ _ => 0)
theorem lb_ok {L : Nat → Nat} {B : Nat → Nat → Bool} {J : Nat → Nat → Int64} {fr : Nat → Nat} {n : Nat} {K : Nat → kRT} {kn k' wc' i3 : Nat} {cur' : Nat → Int64} {acc' W : Nat → Nat → Int64} (h8 : n ≤ 8) (h : tyR L B J fr n K kn 5000 0 (fun _ => 0) 0 (fun _ _ => 0) = tyB L B J fr n K kn k' 0 cur' wc' acc') (hk : i3 + k' = 5000) (hw : wc' ≤ 200) (hW : ∀ i j, i < wc' → j < n → W i j = acc' i j) : lbC true n (rsC L B J fr n K kn) (nI wc') n wc' i3 true W := by
  have hB : tyB L B J fr n K kn k' 0 cur' wc' acc' = (nI wc', 5000 - k', acc') := rfl
  rw [hB] at h
  by_cases h0 : n = 0
  · subst h0
    have e : tyR L B J fr 0 K kn 5000 0 (fun _ => 0) 0 (fun _ _ => 0) = (nI 1, 0, va_up (fun _ _ => 0) 0 (fun _ => 0)) := itA_way (Nat.lt_irrefl 0) (by decide)
    rw [e] at h
    have h1 : nI 1 = nI wc' := congrArg Prod.fst h
    have h2 : 0 = 5000 - k' := congrArg (fun x => x.2.1) h
    have h3 := (nI_eq (by decide) (by omega)).mp h1
    exact Or.inr (Or.inr (Or.inl ⟨rfl, rfl, h1.symm, rfl, h3.symm, by omega, rfl⟩))
  · have e : tyR L B J fr n K kn 5000 0 (fun _ => 0) 0 (fun _ _ => 0) = rsC L B J fr n K kn := itA_lt (by omega)
    rw [e] at h
    refine Or.inr (Or.inr (Or.inr (Or.inr ⟨rfl, by omega, h8, wc', hw, ?_, rfl, rfl, rfl, ?_, rfl, ?_⟩)))
    · rw [h]
    · rw [h]; show i3 = 5000 - k'; omega
    · intro i j hi hj; rw [h]; exact hW i j hi hj
theorem lb_bad {L : Nat → Nat} {B : Nat → Nat → Bool} {J : Nat → Nat → Int64} {fr : Nat → Nat} {n : Nat} {K : Nat → kRT} {kn k' i3 : Nat} {acc' W : Nat → Nat → Int64} {r : Int32} (h8 : n ≤ 8) (hr : r = -3 ∨ r = -4) (h : tyR L B J fr n K kn 5000 0 (fun _ => 0) 0 (fun _ _ => 0) = (r, 5000 - k', acc')) (hk : i3 + k' = 5000) : lbC true n (rsC L B J fr n K kn) r 0 0 i3 false W := by
  by_cases h0 : n = 0
  · subst h0
    have e : tyR L B J fr 0 K kn 5000 0 (fun _ => 0) 0 (fun _ _ => 0) = (nI 1, 0, va_up (fun _ _ => 0) 0 (fun _ => 0)) := itA_way (Nat.lt_irrefl 0) (by decide)
    rw [e] at h
    have h1 : nI 1 = r := congrArg Prod.fst h
    rcases hr with q | q <;> (rw [q] at h1; exact absurd h1 (by decide))
  · have e : tyR L B J fr n K kn 5000 0 (fun _ => 0) 0 (fun _ _ => 0) = rsC L B J fr n K kn := itA_lt (by omega)
    rw [e] at h
    refine Or.inr (Or.inr (Or.inr (Or.inl ⟨rfl, by omega, h8, by rw [h]; exact hr, by rw [h], rfl, rfl, ?_, rfl⟩)))
    rw [h]; show i3 = 5000 - k'; omega
