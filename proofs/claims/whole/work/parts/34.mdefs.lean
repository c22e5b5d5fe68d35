/-! what the reference's calls leave -/
theorem up_all {α : Type} {P : α → Prop} {g : Nat → α} {k : Nat} {x : α} (hg : ∀ e, P (g e)) (hx : P x) : ∀ e, P (va_up g k x e) := by
  intro e
  by_cases h : e = k
  · subst h; rw [up_s]; exact hx
  · rw [up_n h]; exact hg e
def tlI (I : Nat → Nat) : Nat → Nat := va_up I 6 (I 6 + 1)
def tlN (N : Nat → Nat → Nat) (t kind x y : Nat) : Nat → Nat → Nat := va_up (va_up (va_up N 1 (va_up (N 1) t kind)) 2 (va_up (N 2) t x)) 3 (va_up (N 3) t y)
def tlJ (J : Nat → Nat → Int64) (t : Nat) (u v : Int64) : Nat → Nat → Int64 := va_up (va_up J 4 (va_up (J 4) t u)) 5 (va_up (J 5) t v)
def fgI (I : Nat → Nat) : Nat → Nat := va_up (va_up I 30 0) 29 0
def fgB (B : Nat → Nat → Bool) : Nat → Nat → Bool := va_up B 32 (fun _ => false)
/-- what tells leaves -/
def tlP (G : fw_G) (f0 : fw_F) (h : Nat) (a I : Nat → Nat) (N : Nat → Nat → Nat) (B : Nat → Nat → Bool) (J : Nat → Nat → Int64) (kind x y : Nat) (u v : Int64) (r : Int32) (f1 : fw_F) : Prop :=
  fw_fr f0 f1 2000 2035 ∧ ∃ N2 B2 J2, wkT N2 B2 J2 (tlI I) (tlN N (I 6) kind x y) B (tlJ J (I 6) u v) ∧ r = bI (wkC N2 B2 J2 (tlI I) (tlN N (I 6) kind x y) B (tlJ J (I 6) u v)) ∧ (wkC N2 B2 J2 (tlI I) (tlN N (I 6) kind x y) B (tlJ J (I 6) u v) = true → isO G dM f1 2000 h a (fgI (tlI I)) N2 (fgB B2) J2) ∧ (wkC N2 B2 J2 (tlI I) (tlN N (I 6) kind x y) B (tlJ J (I 6) u v) = false → ∃ N3 B3 J3, isO G dM f1 2000 h a (va_up (tlI I) 6 (I 6 + 1 - 1)) N3 B3 J3 ∧ wkT N3 B3 J3 (va_up (tlI I) 6 (I 6 + 1 - 1)) N2 B2 J2)
def bdF (hn hs : Bool) (nu lo hi : Int64) (hb : Bool) : Int64 := if hn = true then nu else if hs = true then (if hb = true then hi else lo) else (if hb = true then 9223372036854775807 else -9223372036854775808)
def ctF (x : Int32) (a b c d e f g : Nat) : Int32 := if x = nI 0 then nI a else if x = nI 1 then nI b else if x = nI 2 then nI c else if x = nI 3 then nI d else if x = nI 4 then nI e else if x = nI 5 then nI f else if x = nI 6 then nI g else -1
def kpV (x : Int32) (a b c : Nat) : Int32 := if x = nI 0 then nI a else if x = nI 1 then nI b else if x = nI 2 then nI c else -1
def abV (x : Int32) (a b c d e : Nat) : Int32 := if x = nI 0 then nI a else if x = nI 1 then nI b else if x = nI 2 then nI c else if x = nI 3 then nI d else if x = nI 4 then nI e else -1
theorem tb_out {x : Int32} {n : Nat} (hn : n < 2 ^ 31) (h : ∀ j, j ≤ n → x ≠ nI j) : x.toInt < 0 ∨ (n : Int) < x.toInt := by
  by_cases h0 : x < 0
  · exact Or.inl (by rw [Int32.lt_iff_toInt_lt] at h0; exact h0)
  · obtain ⟨j, hj, rfl⟩ := nI_of h0
    rw [nI_toInt hj]
    rcases Nat.lt_or_ge n j with q | q
    · exact Or.inr (by omega)
    · exact absurd rfl (h j q)
theorem mOK_I {I I' : Nat → Nat} {N : Nat → Nat → Nat} (h : mOK I N) (h0 : I' 0 ≤ 64) (h6 : I' 6 ≤ 6400) (h9 : I' 9 ≤ 32) (h15 : I' 15 ≤ 60) (h19 : I' 19 ≤ 40) : mOK I' N := ⟨⟨h0, h6, h9, h15, h19⟩, h.2⟩
