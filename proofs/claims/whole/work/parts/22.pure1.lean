/-! pure words for rows, kept rows and the search -/
theorem sh_a {B : Nat → Nat → Bool} {J : Nat → Nat → Int64} {x y : Nat} (h5 : B 4 y = false) (h33 : B 4 x = false) : shOk B J x y = true ∧ shB B J x y = B ∧ shJ B J x y = J := by
  have n5 : ¬ B 4 y = true := by rw [h5]; decide
  have n33 : ¬ B 4 x = true := by rw [h33]; decide
  simp only [shOk, shB, shJ, sh1, shB1, shJ1, if_neg n5, if_neg n33]
  exact ⟨rfl, rfl, rfl⟩
theorem sh_b {B : Nat → Nat → Bool} {J : Nat → Nat → Int64} {x y : Nat} (h5 : B 4 y = false) (h33 : B 4 x = true) : shOk B J x y = nrOk B J y (J 5 x) (J 6 x) ∧ shB B J x y = nrB B J y (J 5 x) (J 6 x) ∧ shJ B J x y = nrJ B J y (J 5 x) (J 6 x) := by
  have n5 : ¬ B 4 y = true := by rw [h5]; decide
  simp only [shOk, shB, shJ, sh1, shB1, shJ1, if_neg n5, if_pos h33]
  exact ⟨by rw [Bool.true_and], rfl, rfl⟩
theorem sh_c {B : Nat → Nat → Bool} {J : Nat → Nat → Int64} {x y : Nat} (h5 : B 4 y = true) (h : nrOk B J x (J 5 y) (J 6 y) = false) : shOk B J x y = false ∧ shB B J x y = B ∧ shJ B J x y = J := by
  have n : ¬ nrOk B J x (J 5 y) (J 6 y) = true := by rw [h]; decide
  simp only [shOk, shB, shJ, sh1, if_pos h5, if_neg n]
  exact ⟨by rw [h, Bool.false_and], trivial, trivial⟩
theorem sh_d {B : Nat → Nat → Bool} {J : Nat → Nat → Int64} {x y : Nat} (h5 : B 4 y = true) (h : nrOk B J x (J 5 y) (J 6 y) = true) (h33 : nrB B J x (J 5 y) (J 6 y) 4 x = false) : shOk B J x y = true ∧ shB B J x y = nrB B J x (J 5 y) (J 6 y) ∧ shJ B J x y = nrJ B J x (J 5 y) (J 6 y) := by
  have n : ¬ nrB B J x (J 5 y) (J 6 y) 4 x = true := by rw [h33]; decide
  simp only [shOk, shB, shJ, sh1, shB1, shJ1, if_pos h5, if_pos h, if_neg n]
  exact ⟨by rw [h, Bool.true_and], trivial, trivial⟩
theorem sh_e {B : Nat → Nat → Bool} {J : Nat → Nat → Int64} {x y : Nat} (h5 : B 4 y = true) (h : nrOk B J x (J 5 y) (J 6 y) = true) (h33 : nrB B J x (J 5 y) (J 6 y) 4 x = true) : shOk B J x y = nrOk (nrB B J x (J 5 y) (J 6 y)) (nrJ B J x (J 5 y) (J 6 y)) y (nrJ B J x (J 5 y) (J 6 y) 5 x) (nrJ B J x (J 5 y) (J 6 y) 6 x) ∧ shB B J x y = nrB (nrB B J x (J 5 y) (J 6 y)) (nrJ B J x (J 5 y) (J 6 y)) y (nrJ B J x (J 5 y) (J 6 y) 5 x) (nrJ B J x (J 5 y) (J 6 y) 6 x) ∧ shJ B J x y = nrJ (nrB B J x (J 5 y) (J 6 y)) (nrJ B J x (J 5 y) (J 6 y)) y (nrJ B J x (J 5 y) (J 6 y) 5 x) (nrJ B J x (J 5 y) (J 6 y) 6 x) := by
  simp only [shOk, shB, shJ, sh1, shB1, shJ1, if_pos h5, if_pos h, if_pos h33]
  exact ⟨by rw [h, Bool.true_and], trivial, trivial⟩
def allb (P : Nat → Bool) : Nat → Bool
  | 0 => true
  | n + 1 => allb P n && P n
theorem allb_iff {P : Nat → Bool} : ∀ {n : Nat}, allb P n = true ↔ ∀ i, i < n → P i = true
  | 0 => ⟨fun _ i h => absurd h (Nat.not_lt_zero i), fun _ => rfl⟩
  | n + 1 => by
    show (allb P n && P n) = true ↔ _
    rw [Bool.and_eq_true, allb_iff (n := n)]
    refine ⟨fun h i hi => ?_, fun h => ⟨fun i hi => h i (by omega), h n (by omega)⟩⟩
    rcases Nat.lt_or_ge i n with q | q
    · exact h.1 i q
    · rw [show i = n by omega]; exact h.2
theorem allb_t {P : Nat → Bool} {n : Nat} (h : ∀ i, i < n → P i = true) : allb P n = true := allb_iff.mpr h
theorem allb_f {P : Nat → Bool} {n i : Nat} (hi : i < n) (h : P i = false) : allb P n = false := by
  cases hb : allb P n with
  | false => rfl
  | true => rw [allb_iff.mp hb i hi] at h; cases h
def anyb (P : Nat → Bool) : Nat → Bool
  | 0 => false
  | n + 1 => anyb P n || P n
theorem anyb_iff {P : Nat → Bool} : ∀ {n : Nat}, anyb P n = true ↔ ∃ i, i < n ∧ P i = true
  | 0 => ⟨fun h => (by cases h), fun ⟨i, h, _⟩ => absurd h (Nat.not_lt_zero i)⟩
  | n + 1 => by
    show (anyb P n || P n) = true ↔ _
    rw [Bool.or_eq_true, anyb_iff (n := n)]
    constructor
    · rintro (⟨i, h1, h2⟩ | h)
      · exact ⟨i, by omega, h2⟩
      · exact ⟨n, by omega, h⟩
    · rintro ⟨i, h1, h2⟩
      rcases Nat.lt_or_ge i n with q | q
      · exact Or.inl ⟨i, q, h2⟩
      · rw [show i = n by omega] at h2; exact Or.inr h2
theorem anyb_t {P : Nat → Bool} {n i : Nat} (hi : i < n) (h : P i = true) : anyb P n = true := anyb_iff.mpr ⟨i, hi, h⟩
theorem anyb_f {P : Nat → Bool} {n : Nat} (h : ∀ i, i < n → P i = false) : anyb P n = false := by
  cases hb : anyb P n with
  | false => rfl
  | true =>
    obtain ⟨i, h1, h2⟩ := anyb_iff.mp hb
    rw [h i h1] at h2; cases h2
theorem anyb_congr {P Q : Nat → Bool} {n : Nat} (h : ∀ i, i < n → P i = Q i) : anyb P n = anyb Q n := by
  induction n with
  | zero => rfl
  | succ n ih =>
    show (anyb P n || P n) = (anyb Q n || Q n)
    rw [ih (fun i hi => h i (by omega)), h n (by omega)]
theorem allb_congr {P Q : Nat → Bool} {n : Nat} (h : ∀ i, i < n → P i = Q i) : allb P n = allb Q n := by
  induction n with
  | zero => rfl
  | succ n ih =>
    show (allb P n && P n) = (allb Q n && Q n)
    rw [ih (fun i hi => h i (by omega)), h n (by omega)]
theorem cnt_congr {P Q : Nat → Bool} {n : Nat} (h : ∀ i, i < n → P i = Q i) : cnt P n = cnt Q n := by
  induction n with
  | zero => rfl
  | succ n ih =>
    show cnt P n + (if P n = true then 1 else 0) = cnt Q n + (if Q n = true then 1 else 0)
    rw [ih (fun i hi => h i (by omega)), h n (by omega)]
def sumL (g : Nat → Int64) : Nat → Int64
  | 0 => 0
  | n + 1 => sumL g n + g n
theorem sumL_congr {g k : Nat → Int64} {n : Nat} (h : ∀ i, i < n → g i = k i) : sumL g n = sumL k n := by
  induction n with
  | zero => rfl
  | succ n ih =>
    show sumL g n + g n = sumL k n + k n
    rw [ih (fun i hi => h i (by omega)), h n (by omega)]
def unl (v : Nat → Int64) (n : Nat) : Bool := allb (fun i => allb (fun j => !decide (v j = v i)) i) n
theorem unl_iff {v : Nat → Int64} {n : Nat} : unl v n = true ↔ ∀ i j, i < n → j < i → v j ≠ v i := by
  unfold unl
  rw [allb_iff]
  constructor
  · intro h i j hi hj
    have := allb_iff.mp (h i hi) j hj
    simpa using this
  · intro h i hi
    rw [allb_iff]
    intro j hj
    have := h i j hi hj
    simpa using this
theorem unl_f {v : Nat → Int64} {n i j : Nat} (hi : i < n) (hj : j < i) (h : v j = v i) : unl v n = false := by
  cases hb : unl v n with
  | false => rfl
  | true => exact absurd h (unl_iff.mp hb i j hi hj)
theorem unl_congr {v u : Nat → Int64} {n : Nat} (h : ∀ i, i < n → v i = u i) : unl v n = unl u n := by
  unfold unl
  refine allb_congr fun i hi => allb_congr fun j hj => ?_
  rw [h i hi, h j (by omega)]
/-- a row's own check: kind, k, factors, numbers, how many -/
def soF (kind : Nat) (k : Int64) (g v : Nat → Int64) (n : Nat) : Bool := if kind = 0 then decide (sumL (fun i => g i * v i) n ≤ k) else if kind = 1 then decide (sumL (fun i => g i * v i) n = k) else unl v n
theorem soF_congr {kind : Nat} {k : Int64} {g g' v v' : Nat → Int64} {n : Nat} (hg : ∀ i, i < n → g i = g' i) (hv : ∀ i, i < n → v i = v' i) : soF kind k g v n = soF kind k g' v' n := by
  unfold soF
  rw [sumL_congr (g := fun i => g i * v i) (k := fun i => g' i * v' i) (fun i hi => by rw [hg i hi, hv i hi]), unl_congr hv]
def mI (k : Nat) : Int32 := if k = 0 then -1 else nI (k - 1)
theorem mI_0 : mI 0 = -1 := rfl
theorem mI_s (k : Nat) : mI (k + 1) = nI k := by unfold mI; rw [if_neg (by omega)]; rfl
theorem mI_int {k : Nat} (h : k < 2 ^ 31) : (mI k).toInt = (k : Int) - 1 := by
  cases k with
  | zero => rfl
  | succ k => rw [mI_s, nI_toInt (by omega)]; omega
theorem mI_ne {k : Nat} (h : k < 2 ^ 31) : mI k = -1 ↔ k = 0 := by
  constructor
  · intro q
    have := congrArg Int32.toInt q
    rw [mI_int h, show (-1 : Int32).toInt = -1 from rfl] at this
    omega
  · intro q; subst q; rfl
theorem mI_mx {a b : Nat} (ha : a < 2 ^ 31) (hb : b < 2 ^ 31) : (if mI a < mI b then mI b else mI a) = mI (max a b) := by
  by_cases h : a < b
  · rw [if_pos (by rw [Int32.lt_iff_toInt_lt, mI_int ha, mI_int hb]; omega), Nat.max_eq_right (by omega)]
  · rw [if_neg (by rw [Int32.lt_iff_toInt_lt, mI_int ha, mI_int hb]; omega), Nat.max_eq_left (by omega)]
theorem mI_eq {a b : Nat} (ha : a < 2 ^ 31) (hb : b < 2 ^ 31) : mI a = nI b ↔ a = b + 1 := by
  constructor
  · intro q
    have := congrArg Int32.toInt q
    rw [mI_int ha, nI_toInt hb] at this
    omega
  · intro q; subst q; exact mI_s b
/-- the place of x among the first n, plus one; 0 if it isn't there -/
def levF (fr : Nat → Nat) : Nat → Nat → Nat
  | 0, _ => 0
  | n + 1, x => if levF fr n x ≠ 0 then levF fr n x else if fr n = x then n + 1 else 0
theorem levF_0 {fr : Nat → Nat} {x : Nat} : ∀ {n : Nat}, (∀ i, i < n → fr i ≠ x) → levF fr n x = 0
  | 0, _ => rfl
  | n + 1, h => by
    show (if levF fr n x ≠ 0 then levF fr n x else if fr n = x then n + 1 else 0) = 0
    rw [levF_0 (fun i hi => h i (by omega)), if_neg (fun q => q rfl), if_neg (h n (by omega))]
theorem levF_at {fr : Nat → Nat} {x k : Nat} (hx : fr k = x) (hb : ∀ i, i < k → fr i ≠ x) : ∀ {n : Nat}, k < n → levF fr n x = k + 1
  | 0, h => absurd h (Nat.not_lt_zero k)
  | n + 1, h => by
    show (if levF fr n x ≠ 0 then levF fr n x else if fr n = x then n + 1 else 0) = k + 1
    rcases Nat.lt_or_ge k n with q | q
    · rw [levF_at hx hb q, if_pos (by omega)]
    · have hk : k = n := by omega
      subst hk
      rw [levF_0 hb, if_neg (fun q => q rfl), if_pos hx]
theorem levF_le {fr : Nat → Nat} {x : Nat} : ∀ {n : Nat}, levF fr n x ≤ n
  | 0 => Nat.le_refl 0
  | n + 1 => by
    have := levF_le (fr := fr) (x := x) (n := n)
    show (if levF fr n x ≠ 0 then levF fr n x else if fr n = x then n + 1 else 0) ≤ n + 1
    split
    · omega
    · split <;> omega
theorem levF_ne0 {fr : Nat → Nat} {x : Nat} : ∀ {n : Nat}, levF fr n x ≠ 0 → ∃ k, k < n ∧ fr k = x ∧ levF fr n x = k + 1
  | 0, h => absurd rfl h
  | n + 1, h => by
    by_cases h1 : levF fr n x ≠ 0
    · obtain ⟨k, a, b, c⟩ := levF_ne0 h1
      exact ⟨k, by omega, b, by show (if levF fr n x ≠ 0 then levF fr n x else if fr n = x then n + 1 else 0) = _; rw [if_pos h1, c]⟩
    · by_cases h2 : fr n = x
      · exact ⟨n, by omega, h2, by show (if levF fr n x ≠ 0 then levF fr n x else if fr n = x then n + 1 else 0) = _; rw [if_neg h1, if_pos h2]⟩
      · exact absurd (by show (if levF fr n x ≠ 0 then levF fr n x else if fr n = x then n + 1 else 0) = _; rw [if_neg h1, if_neg h2]) h
theorem levF_iff {fr : Nat → Nat} {x n : Nat} : levF fr n x = 0 ↔ ∀ i, i < n → fr i ≠ x := by
  constructor
  · intro h i hi q
    obtain ⟨k, hk, hb⟩ := pk_least (fun j => fr j = x) ⟨i, q⟩
    have hki : k ≤ i := by
      rcases Nat.lt_or_ge i k with z | z
      · exact absurd q (hb i z)
      · exact z
    rw [levF_at hk hb (by omega)] at h
    omega
  · exact levF_0
/-- the greatest level plus one of the unknown places of a row; 9 for one that is no free name -/
def lastF (pl : Nat → Nat) (L : Nat → Nat) (K : Nat → Bool) (fr : Nat → Nat) (c : Nat) : Nat → Nat
  | 0 => 0
  | n + 1 => if K (L (pl n)) = true then lastF pl L K fr c n else max (lastF pl L K fr c n) (if levF fr c (L (pl n)) = 0 then 9 else levF fr c (L (pl n)))
theorem lastF_le {pl L : Nat → Nat} {K : Nat → Bool} {fr : Nat → Nat} {c : Nat} : ∀ {n : Nat}, lastF pl L K fr c n ≤ max 9 c
  | 0 => Nat.zero_le _
  | n + 1 => by
    have h1 := lastF_le (pl := pl) (L := L) (K := K) (fr := fr) (c := c) (n := n)
    have h2 := levF_le (fr := fr) (x := L (pl n)) (n := c)
    show (if K (L (pl n)) = true then lastF pl L K fr c n else max (lastF pl L K fr c n) (if levF fr c (L (pl n)) = 0 then 9 else levF fr c (L (pl n)))) ≤ max 9 c
    split
    · exact h1
    · split <;> omega
theorem up_id {α : Type} (g : Nat → α) (k : Nat) : va_up g k (g k) = g := by
  funext j; unfold va_up; split
  · rename_i h; rw [h]
  · rfl
theorem lastF_k {pl L : Nat → Nat} {K : Nat → Bool} {fr : Nat → Nat} {c n : Nat} (h : K (L (pl n)) = true) : lastF pl L K fr c (n + 1) = lastF pl L K fr c n := if_pos h
theorem lastF_u {pl L : Nat → Nat} {K : Nat → Bool} {fr : Nat → Nat} {c n : Nat} (h : K (L (pl n)) = false) : lastF pl L K fr c (n + 1) = max (lastF pl L K fr c n) (if levF fr c (L (pl n)) = 0 then 9 else levF fr c (L (pl n))) := if_neg (by rw [h]; decide)
/-- the free names of a row: how many, and which -/
def gth (pl L : Nat → Nat) (K : Nat → Bool) (c0 : Nat) (fr0 : Nat → Nat) : Nat → Nat × (Nat → Nat)
  | 0 => (c0, fr0)
  | n + 1 => if K (L (L (pl n))) = false ∧ levF (gth pl L K c0 fr0 n).2 (gth pl L K c0 fr0 n).1 (L (pl n)) = 0 then ((gth pl L K c0 fr0 n).1 + 1, va_up (gth pl L K c0 fr0 n).2 (gth pl L K c0 fr0 n).1 (L (pl n))) else gth pl L K c0 fr0 n
theorem gth_y {pl L : Nat → Nat} {K : Nat → Bool} {c0 : Nat} {fr0 : Nat → Nat} {n : Nat} (h1 : K (L (L (pl n))) = false) (h2 : levF (gth pl L K c0 fr0 n).2 (gth pl L K c0 fr0 n).1 (L (pl n)) = 0) : gth pl L K c0 fr0 (n + 1) = ((gth pl L K c0 fr0 n).1 + 1, va_up (gth pl L K c0 fr0 n).2 (gth pl L K c0 fr0 n).1 (L (pl n))) := if_pos ⟨h1, h2⟩
theorem gth_k {pl L : Nat → Nat} {K : Nat → Bool} {c0 : Nat} {fr0 : Nat → Nat} {n : Nat} (h1 : K (L (L (pl n))) = true) : gth pl L K c0 fr0 (n + 1) = gth pl L K c0 fr0 n := if_neg (fun q => by rw [h1] at q; exact absurd q.1 (by decide))
theorem gth_o {pl L : Nat → Nat} {K : Nat → Bool} {c0 : Nat} {fr0 : Nat → Nat} {n : Nat} (h2 : levF (gth pl L K c0 fr0 n).2 (gth pl L K c0 fr0 n).1 (L (pl n)) ≠ 0) : gth pl L K c0 fr0 (n + 1) = gth pl L K c0 fr0 n := if_neg (fun q => h2 q.2)
def wset (W : Nat → Int64) (base m : Nat) (v : Nat → Int64) : Nat → Int64 := fun i => if base ≤ i ∧ i < base + m then v (i - base) else W i
theorem wset_0 (W : Nat → Int64) (base : Nat) (v : Nat → Int64) : wset W base 0 v = W := by
  funext i; unfold wset; rw [if_neg (by omega)]
theorem wset_s (W : Nat → Int64) (base m : Nat) (v : Nat → Int64) : wset W base (m + 1) v = va_up (wset W base m v) (base + m) (v m) := by
  funext i
  unfold wset va_up
  by_cases hi : i = base + m
  · subst hi
    rw [if_pos (by omega), if_pos rfl, show base + m - base = m by omega]
  · rw [if_neg hi]
    dsimp only
    by_cases h : base ≤ i ∧ i < base + m
    · rw [if_pos h, if_pos (by omega)]
    · rw [if_neg h, if_neg (by omega)]
