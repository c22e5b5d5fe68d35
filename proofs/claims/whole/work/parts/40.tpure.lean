/-! the reference's search: what it is held against -/
def loM (N : Nat → Nat → Nat) (J : Nat → Nat → Int64) : Nat → Int64 := fun j => J 24 (N 28 j)
def hiM (N : Nat → Nat → Nat) (J : Nat → Nat → Int64) : Nat → Int64 := fun j => J 25 (N 28 j)
def gdM (I : Nat → Nat) (N : Nat → Nat → Nat) (B : Nat → Nat → Bool) (J : Nat → Nat → Int64) (n : Nat) : Nat → (Nat → Int64) → Bool := gdF (I 15) (N 10) (N 11) (fun i k => N 12 (32 * i + k)) (fun i k => J 13 (32 * i + k)) (J 14) (N 20) (B 21) (J 23) (N 28) n
def rsM (I : Nat → Nat) (N : Nat → Nat → Nat) (B : Nat → Nat → Bool) (J : Nat → Nat → Int64) (n : Nat) : Int32 × Nat × (Nat → Nat → Int64) := it n (loM N J) (hiM N J) (gdM I N B J n) 5000 0 (va_up (fun _ => 0) 0 (loM N J 0)) 0 (fun _ _ => 0)
theorem lev_z {fr : Nat → Nat} {n b : Nat} (h : dst fr n) (hb : b < n) : levF fr b (fr b) = 0 := levF_iff.mpr (fun i hi q => absurd (h i b (by omega) hb q) (by omega))
theorem tb_set {fr : Nat → Nat} {n a : Nat} {T : Nat → Bool} (hd : dst fr n) (ha : a < n) (h : ∀ x, x ≠ fr a → T x = decide (levF fr a x ≠ 0)) (x : Nat) : va_up T (fr a) true x = decide (levF fr (a + 1) x ≠ 0) := by
  rw [lev_s hd ha]
  by_cases q : x = fr a
  · rw [q, up_s, decide_eq_true (rfl : fr a = fr a), Bool.or_true]
  · rw [up_n q, h x q, decide_eq_false q, Bool.or_false]
theorem tb_clr {fr : Nat → Nat} {n b : Nat} {T : Nat → Bool} (hd : dst fr n) (hb : b < n) (h : ∀ x, T x = decide (levF fr (b + 1) x ≠ 0)) (x : Nat) : va_up T (fr b) false x = decide (levF fr b x ≠ 0) := by
  by_cases q : x = fr b
  · rw [q, up_s, lev_z hd hb]; rfl
  · rw [up_n q, h x, lev_s hd hb, decide_eq_false q, Bool.or_false]
theorem tb_lev {fr : Nat → Nat} {n b : Nat} {T : Nat → Bool} (hd : dst fr n) (hb : b < n) (h : ∀ x, T x = decide (levF fr (b + 1) x ≠ 0)) (x : Nat) (q : x ≠ fr b) : T x = decide (levF fr b x ≠ 0) := by
  rw [h x, lev_s hd hb, decide_eq_false q, Bool.or_false]
theorem tj_up {fr : Nat → Nat} {n b : Nat} {T cur : Nat → Int64} {v : Int64} (hd : dst fr n) (hb : b < n) (h : ∀ j, j < b → T (fr j) = cur j) (j : Nat) (hj : j < b + 1) : va_up T (fr b) v (fr j) = va_up cur b v j := by
  by_cases q : j = b
  · rw [q, up_s, up_s]
  · rw [up_n q, up_n (fun z => q (hd j b (by omega) hb z))]; exact h j (by omega)
theorem allb_mono {P : Nat → Bool} {n m : Nat} (h : n ≤ m) (hf : allb P n = false) : allb P m = false := by
  cases hb : allb P m with
  | false => rfl
  | true => rw [allb_t (fun i hi => allb_iff.mp hb i (by omega))] at hf; cases hf
