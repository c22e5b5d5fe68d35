/-! what take, mark and back leave of the class -/
def tkB (B : Nat → Nat → Bool) (R : Nat → Nat) : Nat → Nat → Nat → Bool
  | 0 => B
  | n + 1 => setB (tkB B R n) (R n)
def tkJ (J : Nat → Nat → Int64) (R : Nat → Nat) (v : Nat → Int64) : Nat → Nat → Nat → Int64
  | 0 => J
  | n + 1 => setJ (tkJ J R v n) (R n) (v n)
theorem nI_sub1 (b : Nat) : nI b - nI 1 = mI b := by
  cases b with
  | zero => rfl
  | succ b => rw [mI_s]; have := pk_m1 b; rw [← this]; rw [Int32.sub_eq_add_neg]; rfl
/-- names that are as other names, of the first n -/
def smN (n : Nat) (N : Nat → Nat → Nat) (B : Nat → Nat → Bool) (J : Nat → Nat → Int64) (N2 : Nat → Nat → Nat) (B2 : Nat → Nat → Bool) (J2 : Nat → Nat → Int64) : Prop := ∀ i, i < n → N 1 i = N2 1 i ∧ B 2 i = B2 2 i ∧ J 3 i = J2 3 i ∧ B 4 i = B2 4 i ∧ J 5 i = J2 5 i ∧ J 6 i = J2 6 i
theorem mI_ltn {z n : Nat} (hz : z < 2 ^ 31) (hn : n < 2 ^ 31) : mI z < nI n ↔ z ≤ n := by
  rw [Int32.lt_iff_toInt_lt, mI_int hz, nI_toInt hn]; omega
theorem KS_rm {G : fw_G} {f f1 : fw_F} {hl n : Nat} {K : Nat → kRT} (H : KS G f hl (n + 1) K) (F1 : fw_fr f f1 3500 (3500 + 3)) (L : isL G f1 3500 hl n (fun i => (K i).1)) : KS G f1 hl n K := by
  obtain ⟨h1, h2, h3⟩ := H
  exact ⟨L, fun i hi => ⟨isKR_fr (h2 i (by omega)).1 F1 (by omega), (h2 i (by omega)).2⟩, by omega⟩
