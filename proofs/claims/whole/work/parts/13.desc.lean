/-! the shapes of the objects -/
def kdM : Nat → Nat := fun k => match k with
  | 0 => 0
  | 1 => 1
  | 2 => 1
  | 3 => 1
  | 4 => 3
  | 5 => 3
  | 6 => 0
  | 7 => 1
  | 8 => 3
  | 9 => 0
  | 10 => 1
  | 11 => 1
  | 12 => 1
  | 13 => 3
  | 14 => 3
  | 15 => 0
  | 16 => 1
  | 17 => 1
  | 18 => 1
  | 19 => 0
  | 20 => 1
  | 21 => 2
  | 22 => 2
  | 23 => 3
  | 24 => 3
  | 25 => 3
  | 26 => 2
  | 27 => 3
  | 28 => 1
  | 29 => 0
  | 30 => 0
  | 31 => 0
  | 32 => 4
  | _ => 3
def ldM : Nat → Nat := fun k => match k with
  | 1 => 6400
  | 2 => 6400
  | 3 => 6400
  | 4 => 6400
  | 5 => 6400
  | 7 => 32
  | 8 => 32
  | 10 => 60
  | 11 => 60
  | 12 => 1920
  | 13 => 1920
  | 14 => 60
  | 16 => 40
  | 17 => 40
  | 18 => 40
  | 20 => 64
  | 21 => 64
  | 22 => 64
  | 23 => 64
  | 24 => 64
  | 25 => 64
  | 26 => 64
  | 27 => 64
  | 28 => 32
  | 33 => 1600
  | _ => 0
def dM : o_D := (6, 34, kdM, ldM)
def kdN : Nat → Nat := fun k => match k with
  | 0 => 0
  | 1 => 1
  | 2 => 2
  | 3 => 3
  | 4 => 2
  | 5 => 3
  | _ => 3
def ldN : Nat → Nat := fun k => match k with
  | 1 => 64
  | 2 => 64
  | 3 => 64
  | 4 => 64
  | 5 => 64
  | 6 => 64
  | _ => 0
def dN : o_D := (2, 7, kdN, ldN)
def kdR : Nat → Nat := fun k => match k with
  | 0 => 0
  | 1 => 1
  | _ => 3
def ldR : Nat → Nat := fun k => match k with
  | 1 => 32
  | 2 => 32
  | _ => 0
def dR : o_D := (3, 3, kdR, ldR)
def kdS : Nat → Nat := fun k => match k with
  | 0 => 1
  | 1 => 0
  | 2 => 0
  | 3 => 0
  | 4 => 3
  | _ => 5
def ldS : Nat → Nat := fun k => match k with
  | 0 => 32
  | 4 => 1600
  | 5 => 60
  | _ => 0
def dS : o_D := (4, 6, kdS, ldS)
def kdK : Nat → Nat := fun k => match k with
  | 0 => 0
  | 1 => 1
  | 2 => 6
  | _ => 3
abbrev dK (w : Nat) : o_D := (1, 4, kdK, fun _ => w)
def kdC : Nat → Nat := fun k => match k with
  | 0 => 9
  | 1 => 9
  | 2 => 9
  | 3 => 9
  | 4 => 9
  | 5 => 1
  | _ => 0
def ldC : Nat → Nat := fun k => match k with
  | 5 => 40
  | _ => 0
def dC : o_D := (5, 7, kdC, ldC)
def kdA : Nat → Nat := fun k => match k with
  | 0 => 0
  | 1 => 9
  | _ => 0
def ldA : Nat → Nat := fun k => match k with
  | _ => 0
def dA : o_D := (0, 3, kdA, ldA)
theorem ix_of {x : Int32} {n : Nat} (hn : n < 2 ^ 31) (h0 : ¬ x < 0) (h1 : x < nI n) : ∃ k : Nat, k < n ∧ x = nI k := by
  obtain ⟨j, hj, rfl⟩ := nI_of h0
  exact ⟨j, (nI_ltI hj hn).mp h1, rfl⟩
def ix (x : Int32) (n : Nat) : Bool := decide (¬ x < 0) && decide (x < nI n)
theorem ix_t {x : Int32} {n : Nat} (hn : n < 2 ^ 31) (h : ix x n = true) : ∃ k : Nat, k < n ∧ x = nI k := by
  unfold ix at h
  rw [Bool.and_eq_true, decide_eq_true_eq, decide_eq_true_eq] at h
  exact ix_of hn h.1 h.2
theorem ix_nI {k n : Nat} (hk : k < 2 ^ 31) (hn : n < 2 ^ 31) : ix (nI k) n = decide (k < n) := by
  unfold ix
  rw [decide_eq_true (nI_pos hk), Bool.true_and]
  exact decide_eq_decide.mpr (nI_ltI hk hn)
