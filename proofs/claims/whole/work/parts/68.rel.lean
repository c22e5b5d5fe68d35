/-! the class and the reference are alike -/
def rR (n m : Nat) (Nr : Nat → Nat → Nat) (Jr : Nat → Nat → Int64) (N : Nat → Nat → Nat) (J : Nat → Nat → Int64) : Prop := ∀ i, i < m → Nr 1 i = N 7 i ∧ N 7 i < n ∧ Jr 2 i = J 8 i
def rT (n t : Nat) (Nn : Nat → Nat → Nat) (Bn : Nat → Nat → Bool) (Jn : Nat → Nat → Int64) (N : Nat → Nat → Nat) (B : Nat → Nat → Bool) (J : Nat → Nat → Int64) : Prop := lgOK n t (N 2) (N 3) ∧ refN n t (N 1) (N 2) (N 3) (J 4) (J 5) (N 20) (B 21) (B 22) (J 23) (J 24) (J 25) ∧ repN n t (N 1) (N 2) (N 3) (J 4) (J 5) (Nn 1) (Bn 2) (Bn 4) (Jn 3) (Jn 5) (Jn 6)
def rK (n k : Nat) (Nn : Nat → Nat → Nat) (Bn : Nat → Nat → Bool) (Jn : Nat → Nat → Int64) (K : Nat → kRT) (N : Nat → Nat → Nat) (J : Nat → Nat → Int64) : Prop := (∀ i, i < k → rowR (K i) N J i n) ∧ ∀ i, i < k → krC (Nn 1) (Bn 2) (Jn 3) (K i) = true
/-- one mark -/
def mkR (j : Nat) (Nc : Nat → Nat → Nat) (K : Nat → kRT) (M : Nat → sNT) (n t k : Nat) (N : Nat → Nat → Nat) (J : Nat → Nat → Int64) : Prop :=
  ((M j).2.2.1 0 = N 16 j ∧ N 16 j ≤ n ∧ N 17 j ≤ t ∧ N 18 j ≤ k ∧ Nc 5 j = N 18 j) ∧ lgOK (N 16 j) (N 17 j) (N 2) (N 3) ∧ repN (N 16 j) (N 17 j) (N 1) (N 2) (N 3) (J 4) (J 5) ((M j).2.2.2.1 1) ((M j).2.2.2.2.1 2) ((M j).2.2.2.2.1 4) ((M j).2.2.2.2.2 3) ((M j).2.2.2.2.2 5) ((M j).2.2.2.2.2 6) ∧ rK (N 16 j) (N 18 j) (M j).2.2.2.1 (M j).2.2.2.2.1 (M j).2.2.2.2.2 K N J
def rM (m : Nat) (Nc : Nat → Nat → Nat) (K : Nat → kRT) (M : Nat → sNT) (n t k : Nat) (N : Nat → Nat → Nat) (J : Nat → Nat → Int64) : Prop := (∀ j, j < m → mkR j Nc K M n t k N J) ∧ ∀ i j, i ≤ j → j < m → N 16 i ≤ N 16 j ∧ N 17 i ≤ N 17 j ∧ N 18 i ≤ N 18 j
/-- the ways -/
def rY (n kn : Nat) (Nn : Nat → Nat → Nat) (Bn : Nat → Nat → Bool) (Jn : Nat → Nat → Int64) (Is : Nat → Nat) (Ns : Nat → Nat → Nat) (Js : Nat → Nat → Int64) (K : Nat → kRT) (I : Nat → Nat) (N : Nat → Nat → Nat) (B : Nat → Nat → Bool) (J : Nat → Nat → Int64) : Prop :=
  (Is 1 = I 29 ∧ Is 2 = I 30 ∧ I 29 ≤ 8 ∧ I 30 ≤ 200) ∧ ((I 29 = 0 ∧ I 30 = 0) ∨ (B 32 0 = true ∧ (∀ j, j < I 29 → Ns 0 j = N 28 j ∧ N 28 j < n ∧ Nn 1 (N 28 j) = N 28 j ∧ Bn 2 (N 28 j) = false) ∧ dst (N 28) (I 29) ∧ ∀ i, i < I 30 → (∀ j, j < I 29 → Js 4 (i * 8 + j) = J 33 (8 * i + j) ∧ Jn 5 (N 28 j) ≤ Js 4 (i * 8 + j) ∧ Js 4 (i * 8 + j) ≤ Jn 6 (N 28 j)) ∧ gdC K kn (Nn 1) (Bn 2) (Jn 3) (N 28) (I 29) (I 29) (fun j => Js 4 (i * 8 + j)) = true))
def rZ (In Ir Is Ic : Nat → Nat) (kn mn : Nat) (Nn Nr Ns : Nat → Nat → Nat) (I : Nat → Nat) (N : Nat → Nat → Nat) (B : Nat → Nat → Bool) : Prop := (In 0 = I 0 ∧ Ir 0 = I 9 ∧ kn = I 15 ∧ Ic 6 = I 19 ∧ Is 3 = I 31 ∧ Ic 6 ≤ mn) ∧ ((∀ i, Nn 1 i < 64) ∧ (∀ i, Nr 1 i < 64) ∧ (∀ i, Ns 0 i < 64)) ∧ mOK I N ∧ ∀ x, B 26 x = false
def REL (In : Nat → Nat) (Nn : Nat → Nat → Nat) (Bn : Nat → Nat → Bool) (Jn : Nat → Nat → Int64) (Ir : Nat → Nat) (Nr : Nat → Nat → Nat) (Jr : Nat → Nat → Int64) (Is : Nat → Nat) (Ns : Nat → Nat → Nat) (Js : Nat → Nat → Int64) (Ic : Nat → Nat) (Nc : Nat → Nat → Nat) (kn : Nat) (K : Nat → kRT) (mn : Nat) (M : Nat → sNT) (I : Nat → Nat) (N : Nat → Nat → Nat) (B : Nat → Nat → Bool) (J : Nat → Nat → Int64) : Prop :=
  rZ In Ir Is Ic kn mn Nn Nr Ns I N B ∧ rR (I 0) (I 9) Nr Jr N J ∧ rT (I 0) (I 6) Nn Bn Jn N B J ∧ rK (I 0) (I 15) Nn Bn Jn K N J ∧ rM (I 19) Nc K M (I 0) (I 6) (I 15) N J ∧ rY (I 0) kn Nn Bn Jn Is Ns Js K I N B J
theorem krC_V {L : Nat → Nat} {B : Nat → Bool} {V V' : Nat → Int64} {k : kRT} (h : ∀ i, B i = true → V' i = V i) : krC L B V' k = krC L B V k := by
  by_cases q : krF L B k = 0
  · rw [krC_z q, krC_z q]
    unfold krS
    refine soF_congr (fun _ _ => rfl) (fun j hj => h _ ?_)
    exact allb_iff.mp (krF_0.mp q) j hj
  · rw [krC_n q, krC_n q]
theorem gdC_V {K : Nat → kRT} {kn : Nat} {L : Nat → Nat} {B : Nat → Bool} {V V' : Nat → Int64} {fr : Nat → Nat} {n m : Nat} {cur : Nat → Int64} (h : ∀ i, B i = true → V' i = V i) : gdC K kn L B V' fr n m cur = gdC K kn L B V fr n m cur := by
  unfold gdC gdF
  refine allb_congr fun i _ => hoF_congr (fun _ _ => rfl) (fun j _ hk => ?_)
  unfold nuL
  split
  · rename_i hb; exact h _ hb
  · rfl
theorem rowR_congr {k : kRT} {N N' : Nat → Nat → Nat} {J J' : Nat → Nat → Int64} {i n n' : Nat} (h10 : N' 10 = N 10) (h11 : N' 11 = N 11) (h12 : N' 12 = N 12) (h13 : J' 13 = J 13) (h14 : J' 14 = J 14) (hn : n ≤ n') (h : rowR k N J i n) : rowR k N' J' i n' := by
  obtain ⟨a, b, c, d⟩ := h
  unfold rowR
  rw [h10, h11, h12, h13, h14]
  exact ⟨a, b, c, fun j hj => ⟨(d j hj).1, (d j hj).2.1, Nat.lt_of_lt_of_le (d j hj).2.2 hn⟩⟩
/-- what isn't the log nor made of it, is as it was -/
def oth (N N' : Nat → Nat → Nat) (B B' : Nat → Nat → Bool) (J J' : Nat → Nat → Int64) : Prop := (∀ k, k ≠ 1 → k ≠ 2 → k ≠ 3 → k ≠ 20 → N' k = N k) ∧ (∀ k, k ≠ 21 → k ≠ 22 → B' k = B k) ∧ (∀ k, k ≠ 4 → k ≠ 5 → k ≠ 23 → k ≠ 24 → k ≠ 25 → J' k = J k)
def lgS (t : Nat) (N N' : Nat → Nat → Nat) (J J' : Nat → Nat → Int64) : Prop := lgE t (N 1) (N 2) (N 3) (J 4) (J 5) (N' 1) (N' 2) (N' 3) (J' 4) (J' 5)
section RELS
variable {Nn : Nat → Nat → Nat} {Bn : Nat → Nat → Bool} {Jn : Nat → Nat → Int64} {Nr : Nat → Nat → Nat} {Jr : Nat → Nat → Int64} {Is : Nat → Nat} {Ns : Nat → Nat → Nat} {Js : Nat → Nat → Int64} {Nc : Nat → Nat → Nat} {kn : Nat} {K : Nat → kRT} {M : Nat → sNT} {I : Nat → Nat} {N N' : Nat → Nat → Nat} {B B' : Nat → Nat → Bool} {J J' : Nat → Nat → Int64} {n n' t t' k k' m : Nat}
theorem rR_oth (O : oth N N' B B' J J') (h : rR n m Nr Jr N J) (hn : n ≤ n') : rR n' m Nr Jr N' J' := by
  intro i hi
  rw [O.1 7 (by decide) (by decide) (by decide) (by decide), O.2.2 8 (by decide) (by decide) (by decide) (by decide) (by decide)]
  exact ⟨(h i hi).1, Nat.lt_of_lt_of_le (h i hi).2.1 hn, (h i hi).2.2⟩
theorem rows_oth (O : oth N N' B B' J J') {i : Nat} {kr : kRT} (hn : n ≤ n') (h : rowR kr N J i n) : rowR kr N' J' i n' :=
  rowR_congr (O.1 10 (by decide) (by decide) (by decide) (by decide)) (O.1 11 (by decide) (by decide) (by decide) (by decide)) (O.1 12 (by decide) (by decide) (by decide) (by decide)) (O.2.2 13 (by decide) (by decide) (by decide) (by decide) (by decide)) (O.2.2 14 (by decide) (by decide) (by decide) (by decide) (by decide)) hn h
theorem rM_oth (O : oth N N' B B' J J') (hl : lgS t N N' J J') (h : rM m Nc K M n t k N J) (hn : n ≤ n') (ht : t ≤ t') (hk : k ≤ k') : rM m Nc K M n' t' k' N' J' := by
  have e16 : N' 16 = N 16 := O.1 16 (by decide) (by decide) (by decide) (by decide)
  have e17 : N' 17 = N 17 := O.1 17 (by decide) (by decide) (by decide) (by decide)
  have e18 : N' 18 = N 18 := O.1 18 (by decide) (by decide) (by decide) (by decide)
  refine ⟨fun j hj => ?_, by rw [e16, e17, e18]; exact h.2⟩
  obtain ⟨⟨a1, a2, a3, a4, a5⟩, b, c, d⟩ := h.1 j hj
  have hl' := lgE_mono hl a3
  unfold mkR
  rw [e16, e17, e18]
  refine ⟨⟨a1, by omega, by omega, by omega, a5⟩, ?_, repN_log hl' c, fun i hi => rows_oth O (Nat.le_refl _) (d.1 i hi), d.2⟩
  intro e he
  obtain ⟨q1, q2, q3, _⟩ := hl' e he
  rw [← q2, ← q3]; exact b e he
theorem rY_0 (h1 : Is 1 = 0) (h2 : Is 2 = 0) (h3 : I 29 = 0) (h4 : I 30 = 0) : rY n kn Nn Bn Jn Is Ns Js K I N B J := ⟨⟨by omega, by omega, by omega, by omega⟩, Or.inl ⟨h3, h4⟩⟩
theorem rT_V {Jn' : Nat → Nat → Int64} (hq : ∀ q, q ≠ 3 → Jn' q = Jn q) (h3 : ∀ i, Bn 2 i = true → Jn' 3 i = Jn 3 i) (h : rT n t Nn Bn Jn N B J) : rT n t Nn Bn Jn' N B J := by
  obtain ⟨a, b, c⟩ := h
  exact ⟨a, b, repN_tab (fun i _ => ⟨rfl, rfl, rfl, by rw [hq 5 (by decide)], by rw [hq 6 (by decide)]⟩) (fun i _ hk => h3 i hk) c⟩
theorem rK_V {Jn' : Nat → Nat → Int64} (h3 : ∀ i, Bn 2 i = true → Jn' 3 i = Jn 3 i) (h : rK n k Nn Bn Jn K N J) : rK n k Nn Bn Jn' K N J := ⟨h.1, fun i hi => by rw [krC_V h3]; exact h.2 i hi⟩
theorem rY_V {Jn' : Nat → Nat → Int64} (hq : ∀ q, q ≠ 3 → Jn' q = Jn q) (h3 : ∀ i, Bn 2 i = true → Jn' 3 i = Jn 3 i) (h : rY n kn Nn Bn Jn Is Ns Js K I N B J) : rY n kn Nn Bn Jn' Is Ns Js K I N B J := by
  refine ⟨h.1, h.2.imp id (fun q => ?_)⟩
  obtain ⟨q1, q2, q3, q4⟩ := q
  refine ⟨q1, q2, q3, fun i hi => ?_⟩
  obtain ⟨z1, z2⟩ := q4 i hi
  rw [hq 5 (by decide), hq 6 (by decide), gdC_V h3]
  exact ⟨z1, z2⟩
end RELS
