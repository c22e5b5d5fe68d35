/-! the folds of the reference, a step each; what works() leaves -/
theorem hnF_1 {F so ofa : Nat → Nat} {h0 : Nat → Bool} {e : Nat} (h : so e = 1) : hnF F so ofa h0 (e + 1) = va_up (hnF F so ofa h0 e) (F (ofa e)) true := if_pos h
theorem hnF_n {F so ofa : Nat → Nat} {h0 : Nat → Bool} {e : Nat} (h : so e ≠ 1) : hnF F so ofa h0 (e + 1) = hnF F so ofa h0 e := if_neg h
theorem nuF_1 {F so ofa : Nat → Nat} {fr h0 : Nat → Int64} {e : Nat} (h : so e = 1) : nuF F so ofa fr h0 (e + 1) = va_up (nuF F so ofa fr h0 e) (F (ofa e)) (fr e) := if_pos h
theorem nuF_n {F so ofa : Nat → Nat} {fr h0 : Nat → Int64} {e : Nat} (h : so e ≠ 1) : nuF F so ofa fr h0 (e + 1) = nuF F so ofa fr h0 e := if_neg h
theorem canF_1 {F so ofa : Nat → Nat} {fr : Nat → Int64} {h0 : Nat → Bool} {n0 : Nat → Int64} {e : Nat} (h : so e = 1) : canF F so ofa fr h0 n0 (e + 1) = (canF F so ofa fr h0 n0 e && !(hnF F so ofa h0 e (F (ofa e)) && !decide (nuF F so ofa fr n0 e (F (ofa e)) = fr e))) := if_pos h
theorem canF_n {F so ofa : Nat → Nat} {fr : Nat → Int64} {h0 : Nat → Bool} {n0 : Nat → Int64} {e : Nat} (h : so e ≠ 1) : canF F so ofa fr h0 n0 (e + 1) = canF F so ofa fr h0 n0 e := if_neg h
theorem hsF_1 {F so ofa : Nat → Nat} {h0 : Nat → Bool} {e : Nat} (h : so e = 0) : hsF F so ofa h0 (e + 1) = va_up (hsF F so ofa h0 e) (F (ofa e)) true := if_pos h
theorem hsF_n {F so ofa : Nat → Nat} {h0 : Nat → Bool} {e : Nat} (h : so e ≠ 0) : hsF F so ofa h0 (e + 1) = hsF F so ofa h0 e := if_neg h
theorem loF_1 {F so ofa : Nat → Nat} {fr : Nat → Int64} {h0 : Nat → Bool} {l0 : Nat → Int64} {e : Nat} (h : so e = 0) : loF F so ofa fr h0 l0 (e + 1) = va_up (loF F so ofa fr h0 l0 e) (F (ofa e)) (if hsF F so ofa h0 e (F (ofa e)) = true then lmax (loF F so ofa fr h0 l0 e (F (ofa e))) (fr e) else fr e) := if_pos h
theorem loF_n {F so ofa : Nat → Nat} {fr : Nat → Int64} {h0 : Nat → Bool} {l0 : Nat → Int64} {e : Nat} (h : so e ≠ 0) : loF F so ofa fr h0 l0 (e + 1) = loF F so ofa fr h0 l0 e := if_neg h
theorem hiF_1 {F so ofa : Nat → Nat} {to : Nat → Int64} {h0 : Nat → Bool} {l0 : Nat → Int64} {e : Nat} (h : so e = 0) : hiF F so ofa to h0 l0 (e + 1) = va_up (hiF F so ofa to h0 l0 e) (F (ofa e)) (if hsF F so ofa h0 e (F (ofa e)) = true then lmin (hiF F so ofa to h0 l0 e (F (ofa e))) (to e) else to e) := if_pos h
theorem hiF_n {F so ofa : Nat → Nat} {to : Nat → Int64} {h0 : Nat → Bool} {l0 : Nat → Int64} {e : Nat} (h : so e ≠ 0) : hiF F so ofa to h0 l0 (e + 1) = hiF F so ofa to h0 l0 e := if_neg h
theorem allb_s (P : Nat → Bool) (n : Nat) : allb P (n + 1) = (allb P n && P n) := rfl
/-- what works() answers, of the tables that it leaves (N' B' J') -/
def wkC (N' : Nat → Nat → Nat) (B' : Nat → Nat → Bool) (J' : Nat → Nat → Int64) (I : Nat → Nat) (N : Nat → Nat → Nat) (B : Nat → Nat → Bool) (J : Nat → Nat → Int64) : Bool := canF (N' 20) (N 1) (N 2) (J 4) (initB (B 21) (I 0)) (J 23) (I 6) && allb (spOk (B' 21) (B' 22) (J' 23) (J' 24) (J' 25)) (I 0) && allb (hoM N' B' J') (I 15)
/-- the tables that works() leaves -/
def wkT (N' : Nat → Nat → Nat) (B' : Nat → Nat → Bool) (J' : Nat → Nat → Int64) (I : Nat → Nat) (N : Nat → Nat → Nat) (B : Nat → Nat → Bool) (J : Nat → Nat → Int64) : Prop :=
  (N' 20 = wF (I 0) (N 1) (N 2) (N 3) (N 20) (I 6) ∧ (∀ k, k ≠ 20 → N' k = N k) ∧ ∀ i, N' 20 i < 64) ∧ (B' 21 = hnF (N' 20) (N 1) (N 2) (initB (B 21) (I 0)) (I 6) ∧ B' 22 = hsF (N' 20) (N 1) (N 2) (initB (B 22) (I 0)) (I 6) ∧ ∀ k, k ≠ 21 → k ≠ 22 → B' k = B k) ∧ (J' 23 = nuF (N' 20) (N 1) (N 2) (J 4) (J 23) (I 6) ∧ J' 24 = loF (N' 20) (N 1) (N 2) (J 4) (initB (B 22) (I 0)) (J 24) (I 6) ∧ J' 25 = hiF (N' 20) (N 1) (N 2) (J 5) (initB (B 22) (I 0)) (J 25) (I 6) ∧ ∀ k, k ≠ 23 → k ≠ 24 → k ≠ 25 → J' k = J k)
theorem mOK_20 {I : Nat → Nat} {N N' : Nat → Nat → Nat} (h : mOK I N) (hk : ∀ k, k ≠ 20 → N' k = N k) (hL : ∀ i, N' 20 i < 64) : mOK I N' := by
  obtain ⟨a, ⟨b1, b2, b3⟩, ⟨c1, c2, c3, c4⟩, d, e⟩ := h
  refine ⟨a, ⟨?_, ?_, ?_⟩, ⟨?_, ?_, ?_, ?_⟩, hL, ?_⟩
  · rw [hk 1 (by decide)]; exact b1
  · rw [hk 2 (by decide)]; exact b2
  · rw [hk 3 (by decide)]; exact b3
  · rw [hk 7 (by decide)]; exact c1
  · rw [hk 10 (by decide)]; exact c2
  · rw [hk 11 (by decide)]; exact c3
  · rw [hk 12 (by decide)]; exact c4
  · rw [hk 28 (by decide)]; exact e
