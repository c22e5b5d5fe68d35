/-! the search, as one function: both sides are held against it -/
def nxt (hi cur : Nat → Int64) : Nat → Nat
  | 0 => 0
  | m + 1 => if cur m = hi m then nxt hi cur m else m + 1
def it (n : Nat) (lo hi : Nat → Int64) (gd : Nat → (Nat → Int64) → Bool) : Nat → Nat → (Nat → Int64) → Nat → (Nat → Nat → Int64) → Int32 × Nat × (Nat → Nat → Int64)
  | 0, _, _, _, acc => (-3, 5000, acc)
  | k + 1, a, cur, wc, acc =>
    if gd (a + 1) cur = true ∧ a + 1 < n then it n lo hi gd k (a + 1) (va_up cur (a + 1) (lo (a + 1))) wc acc
    else if gd (a + 1) cur = true ∧ wc = 200 then (-4, 5000 - k, acc)
    else match nxt hi cur (a + 1) with
      | 0 => (nI (if gd (a + 1) cur = true then wc + 1 else wc), 5000 - k, if gd (a + 1) cur = true then va_up acc wc cur else acc)
      | j + 1 => it n lo hi gd k j (va_up cur j (cur j + 1)) (if gd (a + 1) cur = true then wc + 1 else wc) (if gd (a + 1) cur = true then va_up acc wc cur else acc)
/-- the search goes back: the levels from m on are through -/
def itB (n : Nat) (lo hi : Nat → Int64) (gd : Nat → (Nat → Int64) → Bool) (k m : Nat) (cur : Nat → Int64) (wc : Nat) (acc : Nat → Nat → Int64) : Int32 × Nat × (Nat → Nat → Int64) := match nxt hi cur m with
  | 0 => (nI wc, 5000 - k, acc)
  | j + 1 => it n lo hi gd k j (va_up cur j (cur j + 1)) wc acc
section IT
variable {n : Nat} {lo hi : Nat → Int64} {gd : Nat → (Nat → Int64) → Bool} {k a wc m : Nat} {cur : Nat → Int64} {acc : Nat → Nat → Int64}
theorem it_0 : it n lo hi gd 0 a cur wc acc = (-3, 5000, acc) := rfl
theorem it_down (h1 : gd (a + 1) cur = true) (h2 : a + 1 < n) : it n lo hi gd (k + 1) a cur wc acc = it n lo hi gd k (a + 1) (va_up cur (a + 1) (lo (a + 1))) wc acc := if_pos ⟨h1, h2⟩
theorem it_full (h1 : gd (a + 1) cur = true) (h2 : ¬ a + 1 < n) (h3 : wc = 200) : it n lo hi gd (k + 1) a cur wc acc = (-4, 5000 - k, acc) := by
  show (if _ then _ else _) = _
  rw [if_neg (fun q => h2 q.2), if_pos ⟨h1, h3⟩]
theorem it_way (h1 : gd (a + 1) cur = true) (h2 : ¬ a + 1 < n) (h3 : wc ≠ 200) : it n lo hi gd (k + 1) a cur wc acc = itB n lo hi gd k (a + 1) cur (wc + 1) (va_up acc wc cur) := by
  show (if _ then _ else _) = _
  rw [if_neg (fun q => h2 q.2), if_neg (fun q => h3 q.2)]
  simp only [if_pos h1]
  rfl
theorem it_bad (h1 : gd (a + 1) cur = false) : it n lo hi gd (k + 1) a cur wc acc = itB n lo hi gd k (a + 1) cur wc acc := by
  have h : ¬ gd (a + 1) cur = true := by rw [h1]; decide
  show (if _ then _ else _) = _
  rw [if_neg (fun q => h q.1), if_neg (fun q => h q.1)]
  simp only [if_neg h]
  rfl
theorem itB_0 : itB n lo hi gd k 0 cur wc acc = (nI wc, 5000 - k, acc) := rfl
theorem itB_eq (h : cur m = hi m) : itB n lo hi gd k (m + 1) cur wc acc = itB n lo hi gd k m cur wc acc := by
  unfold itB
  rw [show nxt hi cur (m + 1) = nxt hi cur m from if_pos h]
theorem itB_ne (h : cur m ≠ hi m) : itB n lo hi gd k (m + 1) cur wc acc = it n lo hi gd k m (va_up cur m (cur m + 1)) wc acc := by
  unfold itB
  rw [show nxt hi cur (m + 1) = m + 1 from if_neg h]
end IT
def knL (K : Nat → Bool) (fr : Nat → Nat) (m : Nat) (r : Nat) : Bool := K r || decide (levF fr m r ≠ 0)
def nuL (K : Nat → Bool) (V : Nat → Int64) (fr : Nat → Nat) (n : Nat) (cur : Nat → Int64) (r : Nat) : Int64 := if K r = true then V r else cur (levF fr n r - 1)
/-- a number is good: what is kept, and known by the first m levels, is so -/
def gdF (nk : Nat) (kd mn : Nat → Nat) (pl : Nat → Nat → Nat) (bf : Nat → Nat → Int64) (ks : Nat → Int64) (L : Nat → Nat) (K : Nat → Bool) (V : Nat → Int64) (fr : Nat → Nat) (n m : Nat) (cur : Nat → Int64) : Bool := allb (fun i => hoF (kd i) (mn i) (pl i) (bf i) (ks i) (fun x => knL K fr m (L x)) (fun x => nuL K V fr n cur (L x))) nk
theorem hoF_congr {kind many : Nat} {pl : Nat → Nat} {bf : Nat → Int64} {k : Int64} {kn kn' : Nat → Bool} {nu nu' : Nat → Int64} (h1 : ∀ j, j < many → kn (pl j) = kn' (pl j)) (h2 : ∀ j, j < many → kn (pl j) = true → nu (pl j) = nu' (pl j)) : hoF kind many pl bf k kn nu = hoF kind many pl bf k kn' nu' := by
  unfold hoF
  rw [allb_congr (P := fun j => kn (pl j)) (Q := fun j => kn' (pl j)) h1]
  by_cases h : allb (fun j => kn' (pl j)) many = true
  · rw [if_pos h, if_pos h]
    exact soF_congr (fun _ _ => rfl) (fun j hj => h2 j hj (by rw [h1 j hj]; exact allb_iff.mp h j hj))
  · rw [if_neg h, if_neg h]
/-- free names: each stands once -/
def dst (fr : Nat → Nat) (n : Nat) : Prop := ∀ i j, i < n → j < n → fr i = fr j → i = j
theorem lev_dst {fr : Nat → Nat} {n j m : Nat} (h : dst fr n) (hj : j < m) (hm : m ≤ n) : levF fr m (fr j) = j + 1 := levF_at rfl (fun i hi q => absurd (h i j (by omega) (by omega) q) (by omega)) hj
theorem lev_of {fr : Nat → Nat} {n m r : Nat} (h : dst fr n) (hm : m ≤ n) (hr : levF fr m r ≠ 0) : levF fr n r = levF fr m r := by
  obtain ⟨k, h1, h2, h3⟩ := levF_ne0 hr
  rw [h3, ← h2]
  exact lev_dst h (by omega) (Nat.le_refl n)
theorem lev_s {fr : Nat → Nat} {n m x : Nat} (h : dst fr n) (hm : m < n) : decide (levF fr (m + 1) x ≠ 0) = (decide (levF fr m x ≠ 0) || decide (x = fr m)) := by
  by_cases h1 : levF fr m x ≠ 0
  · rw [decide_eq_true h1, Bool.true_or, decide_eq_true]
    show (if levF fr m x ≠ 0 then levF fr m x else if fr m = x then m + 1 else 0) ≠ 0
    rw [if_pos h1]; exact h1
  · rw [decide_eq_false h1, Bool.false_or]
    by_cases h2 : x = fr m
    · rw [decide_eq_true h2, decide_eq_true]
      show (if levF fr m x ≠ 0 then levF fr m x else if fr m = x then m + 1 else 0) ≠ 0
      rw [if_neg h1, if_pos h2.symm]; omega
    · rw [decide_eq_false h2, decide_eq_false]
      show ¬ (if levF fr m x ≠ 0 then levF fr m x else if fr m = x then m + 1 else 0) ≠ 0
      rw [if_neg h1, if_neg (fun q => h2 q.symm)]; exact fun q => q rfl
theorem mI_dec (b : Nat) : nI b + Int32.ofInt (-1) = mI b := by
  cases b with
  | zero => rfl
  | succ b => rw [mI_s, show Int32.ofInt (-1) = -1 from rfl]; exact pk_m1 b
theorem mI_lt {m : Nat} (hm : m < 2 ^ 31) : mI m < 0 ↔ m = 0 := by
  rw [Int32.lt_iff_toInt_lt, mI_int hm, show (0 : Int32).toInt = 0 from rfl]
  omega
/-- the tables of the reference with the first m free names tried, against the search's own words -/
theorem gd_M {N : Nat → Nat → Nat} {B B' : Nat → Nat → Bool} {J J' : Nat → Nat → Int64} {n m nk : Nat} {cur : Nat → Int64} (hd : dst (N 28) n) (hm : m ≤ n) (h21 : B' 21 = B 21) (h26 : ∀ x, B' 26 x = decide (levF (N 28) m x ≠ 0)) (h13 : J' 13 = J 13) (h14 : J' 14 = J 14) (h23 : J' 23 = J 23) (h27 : ∀ j, j < m → J' 27 (N 28 j) = cur j) : allb (hoM N B' J') nk = gdF nk (N 10) (N 11) (fun i k => N 12 (32 * i + k)) (fun i k => J 13 (32 * i + k)) (J 14) (N 20) (B 21) (J 23) (N 28) n m cur := by
  unfold gdF
  refine allb_congr fun i _ => ?_
  unfold hoM
  rw [h13, h14]
  refine hoF_congr (fun j _ => ?_) (fun j _ hk => ?_)
  · unfold knM knL; rw [h21, h26]
  · unfold knM at hk
    unfold nuM nuL
    rw [h21] at hk ⊢
    by_cases hB : B 21 (N 20 (N 12 (32 * i + j))) = true
    · rw [if_pos hB, if_pos hB, h23]
    · rw [if_neg hB, if_neg hB]
      have h0 : levF (N 28) m (N 20 (N 12 (32 * i + j))) ≠ 0 := by
        rw [h26] at hk
        rcases Bool.or_eq_true_iff.mp hk with q | q
        · exact absurd q hB
        · exact of_decide_eq_true q
      obtain ⟨k, h1, h2, h3⟩ := levF_ne0 h0
      rw [lev_of hd hm h0, h3, ← h2]
      exact h27 k h1
