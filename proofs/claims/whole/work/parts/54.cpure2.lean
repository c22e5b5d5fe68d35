/-! what settle and agree leave; the looks of a search -/
def setB (B : Nat → Nat → Bool) (R : Nat) : Nat → Nat → Bool := va_up B 2 (va_up (B 2) R true)
def setJ (J : Nat → Nat → Int64) (R : Nat) (v : Int64) : Nat → Nat → Int64 := va_up J 3 (va_up (J 3) R v)
def inS (J : Nat → Nat → Int64) (R : Nat) (v : Int64) : Bool := decide (J 5 R ≤ v) && decide (v ≤ J 6 R)
theorem unset_B {B : Nat → Nat → Bool} {R : Nat} (h : B 2 R = false) : va_up (setB B R) 2 (va_up (setB B R 2) R false) = B := by
  funext k
  by_cases hk : k = 2
  · subst hk
    rw [up_s]
    funext i
    by_cases hi : i = R
    · subst hi; rw [up_s, h]
    · rw [up_n hi]; unfold setB; rw [up_s, up_n hi]
  · rw [up_n hk]; unfold setB; rw [up_n hk]
def stP (L : Nat → Nat) (B : Nat → Nat → Bool) (J : Nat → Nat → Int64) (K : Nat → kRT) (kn R : Nat) (v : Int64) (r : Int32) (Q : (Nat → Nat → Bool) → (Nat → Nat → Int64) → Prop) : Prop :=
  (B 2 R = true ∧ r = bI (decide (J 3 R = v)) ∧ Q B J) ∨ (B 2 R = false ∧ inS J R v = false ∧ r = bI false ∧ Q B J) ∨ (B 2 R = false ∧ inS J R v = true ∧ allb (fun i => krC L (setB B R 2) (setJ J R v 3) (K i)) kn = true ∧ r = bI true ∧ Q (setB B R) (setJ J R v)) ∨ (B 2 R = false ∧ inS J R v = true ∧ allb (fun i => krC L (setB B R 2) (setJ J R v 3) (K i)) kn = false ∧ r = bI false ∧ Q B (setJ J R v))
theorem stP_out {L : Nat → Nat} {B : Nat → Nat → Bool} {J : Nat → Nat → Int64} {K : Nat → kRT} {kn R : Nat} {v : Int64} {r : Int32} {Q : (Nat → Nat → Bool) → (Nat → Nat → Int64) → Prop} (h : stP L B J K kn R v r Q) : ∃ b B' J', r = bI b ∧ Q B' J' ∧ ∀ Q' : (Nat → Nat → Bool) → (Nat → Nat → Int64) → Prop, Q' B' J' → stP L B J K kn R v r Q' := by
  rcases h with ⟨h1, h2, h3⟩ | ⟨h1, h2, h3, h4⟩ | ⟨h1, h2, h3, h4, h5⟩ | ⟨h1, h2, h3, h4, h5⟩
  · exact ⟨_, _, _, h2, h3, fun Q' q => Or.inl ⟨h1, h2, q⟩⟩
  · exact ⟨_, _, _, h3, h4, fun Q' q => Or.inr (Or.inl ⟨h1, h2, h3, q⟩)⟩
  · exact ⟨_, _, _, h4, h5, fun Q' q => Or.inr (Or.inr (Or.inl ⟨h1, h2, h3, h4, q⟩))⟩
  · exact ⟨_, _, _, h4, h5, fun Q' q => Or.inr (Or.inr (Or.inr ⟨h1, h2, h3, h4, q⟩))⟩
def agP (L : Nat → Nat) (B : Nat → Nat → Bool) (J : Nat → Nat → Int64) (K : Nat → kRT) (kn x y : Nat) (r : Int32) (Q : (Nat → Nat → Bool) → (Nat → Nat → Int64) → Prop) : Prop :=
  (B 2 (L x) = true ∧ stP L B J K kn (L y) (J 3 (L x)) r Q) ∨ (B 2 (L x) = false ∧ B 2 (L y) = true ∧ stP L B J K kn (L x) (J 3 (L y)) r Q) ∨ (B 2 (L x) = false ∧ B 2 (L y) = false ∧ r = bI (shOk B J (L x) (L y)) ∧ Q (shB B J (L x) (L y)) (shJ B J (L x) (L y)))
theorem agP_out {L : Nat → Nat} {B : Nat → Nat → Bool} {J : Nat → Nat → Int64} {K : Nat → kRT} {kn x y : Nat} {r : Int32} {Q : (Nat → Nat → Bool) → (Nat → Nat → Int64) → Prop} (h : agP L B J K kn x y r Q) : ∃ b B' J', r = bI b ∧ Q B' J' ∧ ∀ Q' : (Nat → Nat → Bool) → (Nat → Nat → Int64) → Prop, Q' B' J' → agP L B J K kn x y r Q' := by
  rcases h with ⟨h1, h2⟩ | ⟨h1, h2, h3⟩ | ⟨h1, h2, h3, h4⟩
  · obtain ⟨b, B', J', a1, a2, a3⟩ := stP_out h2
    exact ⟨b, B', J', a1, a2, fun Q' q => Or.inl ⟨h1, a3 Q' q⟩⟩
  · obtain ⟨b, B', J', a1, a2, a3⟩ := stP_out h3
    exact ⟨b, B', J', a1, a2, fun Q' q => Or.inr (Or.inl ⟨h1, h2, a3 Q' q⟩)⟩
  · exact ⟨_, _, _, h3, h4, fun Q' q => Or.inr (Or.inr ⟨h1, h2, h3, q⟩)⟩
/-- the level plus one at which a kept row is looked at -/
def lkC (L : Nat → Nat) (B : Nat → Bool) (fr : Nat → Nat) (c : Nat) (k : kRT) : Nat := lastF k.2.2.2.2.1 L B fr c k.2.1
theorem lkC_le {L : Nat → Nat} {B : Nat → Bool} {fr : Nat → Nat} {c : Nat} {k : kRT} : lkC L B fr c k ≤ max 9 c := lastF_le
/-- a row that is made of the row put together -/
def kNew (k : kRT) (u : Nat) (v : Int64) (n : Nat) (pl : Nat → Nat) (fa : Nat → Int64) : Prop := k.2.1 = n ∧ k.2.2.1 = u ∧ k.2.2.2.1 = v ∧ (∀ i, i < n → k.2.2.2.2.1 i = pl i) ∧ (∀ i, i < n → k.2.2.2.2.2 i = fa i) ∧ kOK k
