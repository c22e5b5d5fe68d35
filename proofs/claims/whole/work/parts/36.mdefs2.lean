/-! more of what the reference's calls leave -/
def nset (W : Nat → Nat) (base m : Nat) (v : Nat → Nat) : Nat → Nat := fun i => if base ≤ i ∧ i < base + m then v (i - base) else W i
theorem nset_0 (W : Nat → Nat) (base : Nat) (v : Nat → Nat) : nset W base 0 v = W := by
  funext i; unfold nset; rw [if_neg (by omega)]
theorem nset_s (W : Nat → Nat) (base m : Nat) (v : Nat → Nat) : nset W base (m + 1) v = va_up (nset W base m v) (base + m) (v m) := by
  funext i
  unfold nset va_up
  by_cases hi : i = base + m
  · subst hi
    rw [if_pos (by omega), if_pos rfl, show base + m - base = m by omega]
  · rw [if_neg hi]
    dsimp only
    by_cases h : base ≤ i ∧ i < base + m
    · rw [if_pos h, if_pos (by omega)]
    · rw [if_neg h, if_neg (by omega)]
theorem nset_all {P : Nat → Prop} {W : Nat → Nat} {base m : Nat} {v : Nat → Nat} (hW : ∀ i, P (W i)) (hv : ∀ i, P (v i)) (i : Nat) : P (nset W base m v i) := by
  unfold nset; split
  · exact hv _
  · exact hW i
def bkI (I : Nat → Nat) (N : Nat → Nat → Nat) (c : Nat) : Nat → Nat := va_up (va_up (va_up (va_up (va_up I 19 (I 19 - 1)) 0 (N 16 (I 19 - 1))) 6 (N 17 (I 19 - 1))) 15 (N 18 (I 19 - 1))) 9 c
def kpN (N : Nat → Nat → Nat) (kp u n : Nat) : Nat → Nat → Nat := va_up (va_up (va_up N 10 (va_up (N 10) kp u)) 11 (va_up (N 11) kp n)) 12 (nset (N 12) (32 * kp) n (N 7))
def kpJ (J : Nat → Nat → Int64) (kp n : Nat) (k : Int64) : Nat → Nat → Int64 := va_up (va_up J 14 (va_up (J 14) kp k)) 13 (wset (J 13) (32 * kp) n (J 8))
def kpI (I : Nat → Nat) : Nat → Nat := va_up (fgI I) 9 0
/-- the log behind take: n numbers are told from place t on -/
def tkL (N1 : Nat → Nat → Nat) (J1 : Nat → Nat → Int64) (N : Nat → Nat → Nat) (J : Nat → Nat → Int64) (t n k : Nat) : Prop := (N1 1 = nset (N 1) t n (fun _ => 1) ∧ N1 2 = nset (N 2) t n (N 28) ∧ N1 3 = nset (N 3) t n (N 28) ∧ ∀ q, q ≠ 1 → q ≠ 2 → q ≠ 3 → N1 q = N q) ∧ J1 4 = wset (J 4) t n (fun j => J 33 (8 * k + j)) ∧ ∀ q, q ≠ 4 → J1 q = J q
/-- the free names of the row, as the reference gathers them -/
def gtM (pl L : Nat → Nat) (K : Nat → Bool) (fr0 : Nat → Nat) : Nat → Nat × (Nat → Nat)
  | 0 => (0, fr0)
  | n + 1 => if K (L (pl n)) = false ∧ levF (gtM pl L K fr0 n).2 (gtM pl L K fr0 n).1 (L (pl n)) = 0 then ((gtM pl L K fr0 n).1 + 1, va_up (gtM pl L K fr0 n).2 (gtM pl L K fr0 n).1 (L (pl n))) else gtM pl L K fr0 n
theorem gtM_y {pl L : Nat → Nat} {K : Nat → Bool} {fr0 : Nat → Nat} {n : Nat} (h1 : K (L (pl n)) = false) (h2 : levF (gtM pl L K fr0 n).2 (gtM pl L K fr0 n).1 (L (pl n)) = 0) : gtM pl L K fr0 (n + 1) = ((gtM pl L K fr0 n).1 + 1, va_up (gtM pl L K fr0 n).2 (gtM pl L K fr0 n).1 (L (pl n))) := if_pos ⟨h1, h2⟩
theorem gtM_n {pl L : Nat → Nat} {K : Nat → Bool} {fr0 : Nat → Nat} {n : Nat} (h : K (L (pl n)) = true ∨ levF (gtM pl L K fr0 n).2 (gtM pl L K fr0 n).1 (L (pl n)) ≠ 0) : gtM pl L K fr0 (n + 1) = gtM pl L K fr0 n := if_neg (fun q => by rcases h with h | h; exact absurd (h.symm.trans q.1) (by decide); exact h q.2)
/-- 'all' of collect: every gathered one has a span -/
def gtA (pl L : Nat → Nat) (K S : Nat → Bool) (fr0 : Nat → Nat) : Nat → Bool
  | 0 => true
  | n + 1 => if K (L (pl n)) = false ∧ levF (gtM pl L K fr0 n).2 (gtM pl L K fr0 n).1 (L (pl n)) = 0 then gtA pl L K S fr0 n && S (L (pl n)) else gtA pl L K S fr0 n
theorem gtA_y {pl L : Nat → Nat} {K S : Nat → Bool} {fr0 : Nat → Nat} {n : Nat} (h1 : K (L (pl n)) = false) (h2 : levF (gtM pl L K fr0 n).2 (gtM pl L K fr0 n).1 (L (pl n)) = 0) : gtA pl L K S fr0 (n + 1) = (gtA pl L K S fr0 n && S (L (pl n))) := if_pos ⟨h1, h2⟩
theorem gtA_n {pl L : Nat → Nat} {K S : Nat → Bool} {fr0 : Nat → Nat} {n : Nat} (h : K (L (pl n)) = true ∨ levF (gtM pl L K fr0 n).2 (gtM pl L K fr0 n).1 (L (pl n)) ≠ 0) : gtA pl L K S fr0 (n + 1) = gtA pl L K S fr0 n := if_neg (fun q => by rcases h with h | h; exact absurd (h.symm.trans q.1) (by decide); exact h q.2)
theorem ix_f {x : Int32} {n : Nat} (h : x < 0 ∨ nI n ≤ x) : ix x n = false := by
  unfold ix
  rcases h with h | h
  · rw [decide_eq_false (not_not_intro h)]; rfl
  · rw [decide_eq_false (Int32.not_lt.mpr h), Bool.and_false]
theorem kpV_no {x : Int32} {a b c : Nat} (h : ∀ j, j ≤ 2 → x ≠ nI j) : kpV x a b c = -1 := by
  unfold kpV; rw [if_neg (h 0 (by decide)), if_neg (h 1 (by decide)), if_neg (h 2 (by decide))]
theorem kpV_lo {x : Int32} {a b c : Nat} (h : x < 0) : kpV x a b c = -1 := kpV_no (fun j hj q => by subst q; exact absurd h (nI_pos (by omega)))
theorem kpV_hi {x : Int32} {a b c : Nat} (h : nI 2 < x) : kpV x a b c = -1 := kpV_no (fun j hj q => by subst q; exact absurd ((nI_ltI (by decide) (by omega)).mp h) (by omega))
