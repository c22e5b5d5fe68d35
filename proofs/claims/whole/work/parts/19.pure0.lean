/-! pure words for the Names object -/
def lmax (x y : Int64) : Int64 := if y < x then x else y
def lmin (x y : Int64) : Int64 := if y < x then y else x
def cnt (P : Nat → Bool) : Nat → Nat
  | 0 => 0
  | n + 1 => cnt P n + (if P n = true then 1 else 0)
theorem cnt_t {P : Nat → Bool} {n : Nat} (h : P n = true) : cnt P (n + 1) = cnt P n + 1 := by
  show cnt P n + (if P n = true then 1 else 0) = _
  rw [if_pos h]
theorem cnt_f {P : Nat → Bool} {n : Nat} (h : P n = false) : cnt P (n + 1) = cnt P n := by
  show cnt P n + (if P n = true then 1 else 0) = _
  rw [if_neg (by rw [h]; decide)]; rfl
theorem cnt_le (P : Nat → Bool) : ∀ n, cnt P n ≤ n
  | 0 => Nat.le_refl 0
  | n + 1 => by
    have := cnt_le P n
    show cnt P n + (if P n = true then 1 else 0) ≤ n + 1
    split <;> omega
def jn (L : Nat → Nat) (n s g : Nat) : Nat → Nat := fun z => if z < n ∧ L z = g then s else L z
theorem jn_0 (L : Nat → Nat) (s g : Nat) : jn L 0 s g = L := by
  funext z; unfold jn; rw [if_neg (by omega)]
theorem jn_at (L : Nat → Nat) (z s g : Nat) : jn L z s g z = L z := by
  unfold jn; rw [if_neg (by omega)]
theorem jn_eq {L : Nat → Nat} {z s g : Nat} (h : L z = g) : jn L (z + 1) s g = va_up (jn L z s g) z s := by
  funext i
  unfold jn va_up
  by_cases hi : i = z
  · subst hi
    rw [if_pos ⟨by omega, h⟩, if_pos rfl]
  · rw [if_neg hi]
    dsimp only
    by_cases hz : i < z ∧ L i = g
    · rw [if_pos hz, if_pos ⟨by omega, hz.2⟩]
    · rw [if_neg hz, if_neg (fun q => hz ⟨by omega, q.2⟩)]
theorem jn_ne {L : Nat → Nat} {z s g : Nat} (h : L z ≠ g) : jn L (z + 1) s g = jn L z s g := by
  funext i
  unfold jn
  by_cases hz : i < z ∧ L i = g
  · rw [if_pos hz, if_pos ⟨by omega, hz.2⟩]
  · rw [if_neg hz, if_neg (fun q => hz ⟨by have := q.1; rcases Nat.lt_or_ge i z with a | a; exact a; exact absurd (by rw [show i = z by omega] at q; exact q.2) h, q.2⟩)]
theorem jn_lt {L : Nat → Nat} {n s g b : Nat} (h : ∀ i, L i < b) (hs : s < b) (i : Nat) : jn L n s g i < b := by
  unfold jn; split
  · exact hs
  · exact h i
def nrOk (B : Nat → Nat → Bool) (J : Nat → Nat → Int64) (r : Nat) (lo hi : Int64) : Bool := decide (lo ≤ hi) && (if B 2 r = true then decide (lo ≤ J 3 r) && decide (J 3 r ≤ hi) else decide (lmax lo (J 5 r) ≤ lmin hi (J 6 r)))
def nrB (B : Nat → Nat → Bool) (J : Nat → Nat → Int64) (r : Nat) (lo hi : Int64) : Nat → Nat → Bool := if B 2 r = false ∧ nrOk B J r lo hi = true then va_up B 4 (va_up (B 4) r true) else B
def nrJ (B : Nat → Nat → Bool) (J : Nat → Nat → Int64) (r : Nat) (lo hi : Int64) : Nat → Nat → Int64 := if B 2 r = false ∧ nrOk B J r lo hi = true then va_up (va_up J 5 (va_up (J 5) r (lmax lo (J 5 r)))) 6 (va_up (J 6) r (lmin hi (J 6 r))) else J
theorem nrOk_b {B : Nat → Nat → Bool} {J : Nat → Nat → Int64} {r : Nat} {lo hi : Int64} (h : ¬ lo ≤ hi) : nrOk B J r lo hi = false := by
  unfold nrOk; rw [decide_eq_false h]; rfl
theorem nrOk_k1 {B : Nat → Nat → Bool} {J : Nat → Nat → Int64} {r : Nat} {lo hi : Int64} (hk : B 2 r = true) (h : ¬ lo ≤ J 3 r) : nrOk B J r lo hi = false := by
  unfold nrOk; rw [if_pos hk, decide_eq_false h, Bool.false_and, Bool.and_false]
theorem nrOk_k2 {B : Nat → Nat → Bool} {J : Nat → Nat → Int64} {r : Nat} {lo hi : Int64} (hk : B 2 r = true) (h : ¬ J 3 r ≤ hi) : nrOk B J r lo hi = false := by
  unfold nrOk; rw [if_pos hk, decide_eq_false h, Bool.and_false, Bool.and_false]
theorem nrOk_k {B : Nat → Nat → Bool} {J : Nat → Nat → Int64} {r : Nat} {lo hi : Int64} (h0 : lo ≤ hi) (hk : B 2 r = true) (h1 : lo ≤ J 3 r) (h2 : J 3 r ≤ hi) : nrOk B J r lo hi = true := by
  unfold nrOk; rw [if_pos hk, decide_eq_true h0, decide_eq_true h1, decide_eq_true h2]; rfl
theorem nrOk_n {B : Nat → Nat → Bool} {J : Nat → Nat → Int64} {r : Nat} {lo hi : Int64} (hk : B 2 r = false) (h : ¬ lmax lo (J 5 r) ≤ lmin hi (J 6 r)) : nrOk B J r lo hi = false := by
  unfold nrOk; rw [if_neg (by rw [hk]; decide), decide_eq_false h, Bool.and_false]
theorem nrOk_y {B : Nat → Nat → Bool} {J : Nat → Nat → Int64} {r : Nat} {lo hi : Int64} (h0 : lo ≤ hi) (hk : B 2 r = false) (h : lmax lo (J 5 r) ≤ lmin hi (J 6 r)) : nrOk B J r lo hi = true := by
  unfold nrOk; rw [if_neg (by rw [hk]; decide), decide_eq_true h0, decide_eq_true h]; rfl
theorem nrB_f {B : Nat → Nat → Bool} {J : Nat → Nat → Int64} {r : Nat} {lo hi : Int64} (h : nrOk B J r lo hi = false) : nrB B J r lo hi = B := if_neg (fun q => by rw [h] at q; exact absurd q.2 (by decide))
theorem nrJ_f {B : Nat → Nat → Bool} {J : Nat → Nat → Int64} {r : Nat} {lo hi : Int64} (h : nrOk B J r lo hi = false) : nrJ B J r lo hi = J := if_neg (fun q => by rw [h] at q; exact absurd q.2 (by decide))
theorem nrB_k {B : Nat → Nat → Bool} {J : Nat → Nat → Int64} {r : Nat} {lo hi : Int64} (h : B 2 r = true) : nrB B J r lo hi = B := if_neg (fun q => by rw [h] at q; exact absurd q.1 (by decide))
theorem nrJ_k {B : Nat → Nat → Bool} {J : Nat → Nat → Int64} {r : Nat} {lo hi : Int64} (h : B 2 r = true) : nrJ B J r lo hi = J := if_neg (fun q => by rw [h] at q; exact absurd q.1 (by decide))
theorem nrB_y {B : Nat → Nat → Bool} {J : Nat → Nat → Int64} {r : Nat} {lo hi : Int64} (hk : B 2 r = false) (h : nrOk B J r lo hi = true) : nrB B J r lo hi = va_up B 4 (va_up (B 4) r true) := if_pos ⟨hk, h⟩
theorem nrJ_y {B : Nat → Nat → Bool} {J : Nat → Nat → Int64} {r : Nat} {lo hi : Int64} (hk : B 2 r = false) (h : nrOk B J r lo hi = true) : nrJ B J r lo hi = va_up (va_up J 5 (va_up (J 5) r (lmax lo (J 5 r)))) 6 (va_up (J 6) r (lmin hi (J 6 r))) := if_pos ⟨hk, h⟩
def sh1 (B : Nat → Nat → Bool) (J : Nat → Nat → Int64) (x y : Nat) : Bool := if B 4 y = true then nrOk B J x (J 5 y) (J 6 y) else true
def shB1 (B : Nat → Nat → Bool) (J : Nat → Nat → Int64) (x y : Nat) : Nat → Nat → Bool := if B 4 y = true then nrB B J x (J 5 y) (J 6 y) else B
def shJ1 (B : Nat → Nat → Bool) (J : Nat → Nat → Int64) (x y : Nat) : Nat → Nat → Int64 := if B 4 y = true then nrJ B J x (J 5 y) (J 6 y) else J
def shOk (B : Nat → Nat → Bool) (J : Nat → Nat → Int64) (x y : Nat) : Bool := sh1 B J x y && sh1 (shB1 B J x y) (shJ1 B J x y) y x
def shB (B : Nat → Nat → Bool) (J : Nat → Nat → Int64) (x y : Nat) : Nat → Nat → Bool := if sh1 B J x y = true then shB1 (shB1 B J x y) (shJ1 B J x y) y x else B
def shJ (B : Nat → Nat → Bool) (J : Nat → Nat → Int64) (x y : Nat) : Nat → Nat → Int64 := if sh1 B J x y = true then shJ1 (shB1 B J x y) (shJ1 B J x y) y x else J
