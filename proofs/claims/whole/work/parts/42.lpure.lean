/-! the free names of the row: each once; label's cases -/
theorem gtM_dst (pl L : Nat → Nat) (K : Nat → Bool) (fr0 : Nat → Nat) : ∀ n, dst (gtM pl L K fr0 n).2 (gtM pl L K fr0 n).1
  | 0 => fun i j hi => absurd hi (Nat.not_lt_zero i)
  | n + 1 => by
    have ih := gtM_dst pl L K fr0 n
    by_cases h : K (L (pl n)) = false ∧ levF (gtM pl L K fr0 n).2 (gtM pl L K fr0 n).1 (L (pl n)) = 0
    · rw [gtM_y h.1 h.2]
      have h2 := levF_iff.mp h.2
      intro i j hi hj
      show va_up _ _ _ i = va_up _ _ _ j → i = j
      intro q
      have hi' : i < (gtM pl L K fr0 n).1 + 1 := hi
      have hj' : j < (gtM pl L K fr0 n).1 + 1 := hj
      by_cases a : i = (gtM pl L K fr0 n).1
      · by_cases b : j = (gtM pl L K fr0 n).1
        · omega
        · rw [a, up_s, up_n b] at q
          exact absurd q.symm (h2 j (by omega))
      · by_cases b : j = (gtM pl L K fr0 n).1
        · rw [b, up_s, up_n a] at q
          exact absurd q (h2 i (by omega))
        · rw [up_n a, up_n b] at q
          exact ih i j (by omega) (by omega) q
    · have e : gtM pl L K fr0 (n + 1) = gtM pl L K fr0 n := if_neg h
      rw [e]; exact ih
theorem gtM_lt {pl L : Nat → Nat} {K : Nat → Bool} {fr0 : Nat → Nat} (h0 : ∀ i, fr0 i < 64) (hL : ∀ i, L i < 64) : ∀ n i, (gtM pl L K fr0 n).2 i < 64
  | 0, i => h0 i
  | n + 1, i => by
    have ih := gtM_lt (pl := pl) (K := K) h0 hL n
    by_cases h : K (L (pl n)) = false ∧ levF (gtM pl L K fr0 n).2 (gtM pl L K fr0 n).1 (L (pl n)) = 0
    · rw [gtM_y h.1 h.2]; exact up_all (P := fun z => z < 64) ih (hL _) i
    · have e : gtM pl L K fr0 (n + 1) = gtM pl L K fr0 n := if_neg h
      rw [e]; exact ih i
theorem gtM_le (pl L : Nat → Nat) (K : Nat → Bool) (fr0 : Nat → Nat) : ∀ n, (gtM pl L K fr0 n).1 ≤ n
  | 0 => Nat.le_refl 0
  | n + 1 => by
    have ih := gtM_le pl L K fr0 n
    by_cases h : K (L (pl n)) = false ∧ levF (gtM pl L K fr0 n).2 (gtM pl L K fr0 n).1 (L (pl n)) = 0
    · rw [gtM_y h.1 h.2]; show _ + 1 ≤ n + 1; omega
    · have e : gtM pl L K fr0 (n + 1) = gtM pl L K fr0 n := if_neg h
      rw [e]; omega
theorem nI_m1 {n : Nat} (h : n < 2 ^ 31) : ¬ nI n = -1 := by
  intro q
  have := congrArg Int32.toInt q
  rw [nI_toInt h, show (-1 : Int32).toInt = -1 from rfl] at this
  omega
/-- how a label() ends: its answer r, its free names n, how many ways wn, tried t, whether they are there th, the ways' numbers W -/
def lbC (ga : Bool) (n : Nat) (RS : Int32 × Nat × (Nat → Nat → Int64)) (r : Int32) (fn wn t : Nat) (th : Bool) (W : Nat → Nat → Int64) : Prop :=
  (ga = false ∧ r = -1 ∧ fn = 0 ∧ wn = 0 ∧ t = 0 ∧ th = false) ∨ (ga = true ∧ 8 < n ∧ r = -2 ∧ fn = 0 ∧ wn = 0 ∧ t = 0 ∧ th = false) ∨ (ga = true ∧ n = 0 ∧ r = nI 1 ∧ fn = 0 ∧ wn = 1 ∧ t = 0 ∧ th = true) ∨ (ga = true ∧ 1 ≤ n ∧ n ≤ 8 ∧ (RS.1 = -3 ∨ RS.1 = -4) ∧ r = RS.1 ∧ fn = 0 ∧ wn = 0 ∧ t = RS.2.1 ∧ th = false) ∨ (ga = true ∧ 1 ≤ n ∧ n ≤ 8 ∧ ∃ w, w ≤ 200 ∧ RS.1 = nI w ∧ r = nI w ∧ fn = n ∧ wn = w ∧ t = RS.2.1 ∧ th = true ∧ ∀ i j, i < w → j < n → W i j = RS.2.2 i j)
