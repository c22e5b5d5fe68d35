/-! what a level of the search leaves -/
theorem gdC_cur {K : Nat → kRT} {kn : Nat} {L : Nat → Nat} {K0 : Nat → Bool} {V0 : Nat → Int64} {fr : Nat → Nat} {n a : Nat} {cur cur' : Nat → Int64} (hd : dst fr n) (ha : a ≤ n) (h : ∀ j, j < a → cur' j = cur j) : gdC K kn L K0 V0 fr n a cur' = gdC K kn L K0 V0 fr n a cur := by
  unfold gdC gdF
  refine allb_congr fun i _ => hoF_congr (fun _ _ => rfl) (fun j _ hk => ?_)
  unfold nuL
  split
  · rfl
  · rename_i hb
    have hlv : levF fr a (L ((K i).2.2.2.2.1 j)) ≠ 0 := by
      unfold knL at hk
      rcases Bool.or_eq_true_iff.mp hk with q | q
      · exact absurd q hb
      · exact of_decide_eq_true q
    obtain ⟨j2, q1, q2, q3⟩ := levF_ne0 hlv
    rw [lev_of hd ha hlv, q3]
    exact h j2 q1
theorem tv_ne {n : Nat} {lo hi : Nat → Int64} {gd : Nat → (Nat → Int64) → Bool} {k a wc : Nat} {cu : Nat → Int64} {acc : Nat → Nat → Int64} {uv : Int64} (e : cu a = uv) (h : uv ≠ hi a) : itB n lo hi gd k (a + 1) cu wc acc = it n lo hi gd k a (va_up cu a (uv + 1)) wc acc := by
  rw [itB_ne (by rw [e]; exact h), e]
theorem tv_eq {n : Nat} {lo hi : Nat → Int64} {gd : Nat → (Nat → Int64) → Bool} {k a wc : Nat} {cu : Nat → Int64} {acc : Nat → Nat → Int64} {uv : Int64} (e : cu a = uv) (h : uv = hi a) : itB n lo hi gd k (a + 1) cu wc acc = itB n lo hi gd k a cu wc acc := itB_eq (by rw [e]; exact h)
def tyR (L : Nat → Nat) (B0 : Nat → Nat → Bool) (J0 : Nat → Nat → Int64) (fr : Nat → Nat) (n : Nat) (K : Nat → kRT) (kn : Nat) (k a : Nat) (cur : Nat → Int64) (wc : Nat) (acc : Nat → Nat → Int64) : Int32 × Nat × (Nat → Nat → Int64) := itA n (loC J0 L fr) (hiC J0 L fr) (gdC K kn L (B0 2) (J0 3) fr n) k a cur wc acc
def tyT (L : Nat → Nat) (B0 : Nat → Nat → Bool) (J0 : Nat → Nat → Int64) (fr : Nat → Nat) (n : Nat) (K : Nat → kRT) (kn : Nat) (k a : Nat) (cur : Nat → Int64) (wc : Nat) (acc : Nat → Nat → Int64) : Int32 × Nat × (Nat → Nat → Int64) := it n (loC J0 L fr) (hiC J0 L fr) (gdC K kn L (B0 2) (J0 3) fr n) k a cur wc acc
def tyB (L : Nat → Nat) (B0 : Nat → Nat → Bool) (J0 : Nat → Nat → Int64) (fr : Nat → Nat) (n : Nat) (K : Nat → kRT) (kn : Nat) (k a : Nat) (cur : Nat → Int64) (wc : Nat) (acc : Nat → Nat → Int64) : Int32 × Nat × (Nat → Nat → Int64) := itB n (loC J0 L fr) (hiC J0 L fr) (gdC K kn L (B0 2) (J0 3) fr n) k a cur wc acc
def tyP (L : Nat → Nat) (B0 : Nat → Nat → Bool) (J0 : Nat → Nat → Int64) (I0 : Nat → Nat) (S0 : Nat → Nat → Int64) (fr : Nat → Nat) (K : Nat → kRT) (kn : Nat) (a : Nat) (cur : Nat → Int64) (k wc : Nat) (acc : Nat → Nat → Int64) (r : Int32) (Q : (Nat → Nat → Bool) → (Nat → Nat → Int64) → (Nat → Nat) → (Nat → Nat → Int64) → Prop) : Prop :=
  ∃ B' J' I' S' cur' k' wc' acc', Q B' J' I' S' ∧ (∀ r, B' 2 r = knL (B0 2) fr a r) ∧ tvR B0 J0 I0 S0 fr a cur' k' wc' acc' B' J' I' S' ∧ (∀ j, j < a → cur' j = cur j) ∧ k' ≤ k ∧ ((r = 0 ∧ tyR L B0 J0 fr (I0 1) K kn k a cur wc acc = tyB L B0 J0 fr (I0 1) K kn k' a cur' wc' acc') ∨ ((r = -3 ∨ r = -4) ∧ tyR L B0 J0 fr (I0 1) K kn k a cur wc acc = (r, 5000 - k', acc')))
