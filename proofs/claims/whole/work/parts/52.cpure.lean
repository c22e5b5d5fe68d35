/-! pure words over kept rows of the class -/
def krF (L : Nat → Nat) (B : Nat → Bool) (k : kRT) : Nat := cnt (fun j => !B (L (k.2.2.2.2.1 j))) k.2.1
def krS (L : Nat → Nat) (V : Nat → Int64) (k : kRT) : Bool := soF k.2.2.1 k.2.2.2.1 k.2.2.2.2.2 (fun j => V (L (k.2.2.2.2.1 j))) k.2.1
def krH (L : Nat → Nat) (x : Nat) (k : kRT) : Bool := anyb (fun j => decide (L (k.2.2.2.2.1 j) = L x)) k.2.1
def krC (L : Nat → Nat) (B : Nat → Bool) (V : Nat → Int64) (k : kRT) : Bool := !decide (krF L B k = 0) || krS L V k
theorem krC_n {L : Nat → Nat} {B : Nat → Bool} {V : Nat → Int64} {k : kRT} (h : krF L B k ≠ 0) : krC L B V k = true := by
  unfold krC; rw [decide_eq_false h]; rfl
theorem krC_z {L : Nat → Nat} {B : Nat → Bool} {V : Nat → Int64} {k : kRT} (h : krF L B k = 0) : krC L B V k = krS L V k := by
  unfold krC; rw [decide_eq_true h]; rfl
def krG (L : Nat → Nat) (V : Nat → Int64) (lk : Nat) (a : Nat) (k : kRT) : Bool := !decide (lk = a + 1) || krS L V k
theorem krG_n {L : Nat → Nat} {V : Nat → Int64} {lk a : Nat} {k : kRT} (h : lk ≠ a + 1) : krG L V lk a k = true := by
  unfold krG; rw [decide_eq_false h]; rfl
theorem krG_z {L : Nat → Nat} {V : Nat → Int64} {lk a : Nat} {k : kRT} (h : lk = a + 1) : krG L V lk a k = krS L V k := by
  unfold krG; rw [decide_eq_true h]; rfl
theorem krF_le {L : Nat → Nat} {B : Nat → Bool} {k : kRT} : krF L B k ≤ k.2.1 := cnt_le _ _
