/-! works() against the log; kept rows of both -/
theorem wk_ref {N' N : Nat → Nat → Nat} {B' B : Nat → Nat → Bool} {J' J : Nat → Nat → Int64} {I : Nat → Nat} (h : wkT N' B' J' I N B J) (hl : lgOK (I 0) (I 6) (N 2) (N 3)) : refN (I 0) (I 6) (N 1) (N 2) (N 3) (J 4) (J 5) (N' 20) (B' 21) (B' 22) (J' 23) (J' 24) (J' 25) := by
  obtain ⟨⟨h1, _, _⟩, ⟨h2, h3, _⟩, h4, h5, h6, _⟩ := h
  have e : ∀ i, i < I 0 → N' 20 i = gF (I 0) (N 1) (N 2) (N 3) (I 6) i := fun i hi => by rw [h1]; exact wF_L0 hl i hi
  refine ⟨e, fun r hr => ?_⟩
  have eA : gA (N' 20) (I 6) (N 1) (N 2) (J 4) r = gA (gF (I 0) (N 1) (N 2) (N 3) (I 6)) (I 6) (N 1) (N 2) (J 4) r := funext fun v => propext (gA_congr (fun e' he => ⟨rfl, e _ (hl e' he).1, rfl⟩) v)
  have eP : gP (N' 20) (I 6) (N 1) (N 2) (J 4) (J 5) r = gP (gF (I 0) (N 1) (N 2) (N 3) (I 6)) (I 6) (N 1) (N 2) (J 4) (J 5) r := funext fun u => funext fun w => propext (gP_congr (fun e' he => ⟨rfl, e _ (hl e' he).1, rfl, fun _ => rfl⟩) u w)
  rw [← eA, ← eP, h2, h3, h4, h5, h6]
  exact fold_ref (if_pos hr) (if_pos hr)
theorem wk_con {N' N : Nat → Nat → Nat} {B' B : Nat → Nat → Bool} {J' J : Nat → Nat → Int64} {I : Nat → Nat} (h : wkT N' B' J' I N B J) (hl : lgOK (I 0) (I 6) (N 2) (N 3)) : wkC N' B' J' I N B J = true ↔ conN (I 0) (I 6) (N 1) (N 2) (N 3) (J 4) (J 5) ∧ allb (hoM N' B' J') (I 15) = true := by
  have R := wk_ref h hl
  obtain ⟨⟨h1, _, _⟩, _⟩ := h
  have e : ∀ i, i < I 0 → N' 20 i = gF (I 0) (N 1) (N 2) (N 3) (I 6) i := fun i hi => by rw [h1]; exact wF_L0 hl i hi
  have eA : ∀ r v, gA (N' 20) (I 6) (N 1) (N 2) (J 4) r v ↔ gA (gF (I 0) (N 1) (N 2) (N 3) (I 6)) (I 6) (N 1) (N 2) (J 4) r v := fun r v => gA_congr (fun e' he => ⟨rfl, e _ (hl e' he).1, rfl⟩) v
  unfold wkC
  rw [Bool.and_eq_true, Bool.and_eq_true]
  refine and_congr ?_ Iff.rfl
  have hz : ∀ e', e' < I 6 → initB (B 21) (I 0) (N' 20 (N 2 e')) = false := fun e' he => if_pos (by rw [e _ (hl e' he).1]; exact (gF_root hl (hl e' he).1).1)
  rw [can_iff hz, allb_iff]
  constructor
  · rintro ⟨c1, c2⟩ r hr
    have hA : ∀ v v', gA (gF (I 0) (N 1) (N 2) (N 3) (I 6)) (I 6) (N 1) (N 2) (J 4) r v → gA (gF (I 0) (N 1) (N 2) (N 3) (I 6)) (I 6) (N 1) (N 2) (J 4) r v' → v = v' := fun v v' a a' => c1 r v v' ((eA r v).mpr a) ((eA r v').mpr a')
    exact ⟨hA, (ref_ok (R.2 r hr) hA).mp (c2 r hr)⟩
  · intro c
    refine ⟨fun r v v' a a' => ?_, fun r hr => (ref_ok (R.2 r hr) (c r hr).1).mpr (c r hr).2⟩
    have hr : r < I 0 := by
      obtain ⟨e', q1, q2, q3, q4⟩ := a
      rw [← q3, e _ (hl e' q1).1]; exact (gF_root hl (hl e' q1).1).1
    exact (c r hr).1 v v' ((eA r v).mp a) ((eA r v').mp a')
/-- a kept row of the class and one of the reference -/
def rowR (k : kRT) (N : Nat → Nat → Nat) (J : Nat → Nat → Int64) (i n : Nat) : Prop := k.2.1 = N 11 i ∧ k.2.2.1 = N 10 i ∧ k.2.2.2.1 = J 14 i ∧ ∀ j, j < N 11 i → k.2.2.2.2.1 j = N 12 (32 * i + j) ∧ k.2.2.2.2.2 j = J 13 (32 * i + j) ∧ N 12 (32 * i + j) < n
theorem krF_0 {L : Nat → Nat} {K : Nat → Bool} {k : kRT} : krF L K k = 0 ↔ allb (fun j => K (L (k.2.2.2.2.1 j))) k.2.1 = true := by
  rw [allb_iff]
  constructor
  · intro h j hj
    have := cnt_0i h j hj
    simpa using this
  · intro h
    exact cnt_0 (fun j hj => by rw [h j hj]; rfl)
theorem hoM_kr {k : kRT} {N : Nat → Nat → Nat} {B : Nat → Nat → Bool} {J : Nat → Nat → Int64} {i n : Nat} {L : Nat → Nat} {K : Nat → Bool} {V : Nat → Int64} (h : rowR k N J i n) (hk : ∀ x, x < n → knM N B x = K (L x)) (hv : ∀ x, x < n → K (L x) = true → nuM N B J x = V (L x)) : hoM N B J i = krC L K V k := by
  obtain ⟨h1, h2, h3, h4⟩ := h
  unfold hoM hoF
  have e : allb (fun j => knM N B (N 12 (32 * i + j))) (N 11 i) = allb (fun j => K (L (k.2.2.2.2.1 j))) k.2.1 := by
    rw [h1]
    exact allb_congr (fun j hj => by rw [hk _ (h4 j hj).2.2, (h4 j hj).1])
  rw [e]
  by_cases q : allb (fun j => K (L (k.2.2.2.2.1 j))) k.2.1 = true
  · rw [if_pos q, krC_z (krF_0.mpr q)]
    unfold krS
    rw [h1, h2, h3]
    rw [allb_iff, h1] at q
    exact soF_congr (fun j hj => (h4 j hj).2.1.symm) (fun j hj => by rw [(h4 j hj).1]; exact hv _ (h4 j hj).2.2 (by show K (L (N 12 (32 * i + j))) = true; rw [← (h4 j hj).1]; exact q j hj))
  · rw [if_neg q, krC_n (fun z => q (krF_0.mp z))]
/-- both tables hold the same of each name -/
theorem same_tab {n t : Nat} {so ofa wi : Nat → Nat} {fr to : Nat → Int64} {L F : Nat → Nat} {K S hn hs : Nat → Bool} {V lo hi nu lo' hi' : Nat → Int64} (hl : lgOK n t ofa wi) (R : repN n t so ofa wi fr to L K S V lo hi) (M : refN n t so ofa wi fr to F hn hs nu lo' hi') : (∀ i, i < n → F i = L i ∧ L i < n ∧ L (L i) = L i) ∧ ∀ i, i < n → hn (L i) = K (L i) ∧ (K (L i) = true → nu (L i) = V (L i)) ∧ (K (L i) = false → hs (L i) = S (L i) ∧ (S (L i) = true → lo' (L i) = lo (L i) ∧ hi' (L i) = hi (L i)) ∧ (S (L i) = false → lo (L i) = -9223372036854775808 ∧ hi (L i) = 9223372036854775807)) := by
  have key : ∀ i, i < n → L i < n ∧ gF n so ofa wi t (L i) = L i := fun i hi => by rw [R.1 i hi]; exact gF_root hl hi
  refine ⟨fun i hi => ⟨(M.1 i hi).trans (R.1 i hi).symm, (key i hi).1, (R.1 _ (key i hi).1).trans (key i hi).2⟩, fun i hi => ?_⟩
  exact ref_rep (R.2 _ (key i hi).1 (key i hi).2) (M.2 _ (key i hi).1)
theorem known_same {n t : Nat} {so ofa wi : Nat → Nat} {fr to : Nat → Int64} {L : Nat → Nat} {K S : Nat → Bool} {V lo hi : Nat → Int64} {N : Nat → Nat → Nat} {B : Nat → Nat → Bool} {J : Nat → Nat → Int64} (hl : lgOK n t ofa wi) (R : repN n t so ofa wi fr to L K S V lo hi) (M : refN n t so ofa wi fr to (N 20) (B 21) (B 22) (J 23) (J 24) (J 25)) (h26 : ∀ x, B 26 x = false) : (∀ x, x < n → knM N B x = K (L x)) ∧ (∀ x, x < n → K (L x) = true → nuM N B J x = V (L x)) := by
  obtain ⟨h1, h2⟩ := same_tab hl R M
  refine ⟨fun x hx => ?_, fun x hx hk => ?_⟩
  · unfold knM
    rw [(h1 x hx).1, (h2 x hx).1, h26, Bool.or_false]
  · unfold nuM
    rw [(h1 x hx).1, if_pos ((h2 x hx).1.trans hk)]
    exact (h2 x hx).2.1 hk
/-- the rows of both hold alike -/
theorem rows_same {n t kn : Nat} {so ofa wi : Nat → Nat} {fr to : Nat → Int64} {L : Nat → Nat} {K S : Nat → Bool} {V lo hi : Nat → Int64} {N : Nat → Nat → Nat} {B : Nat → Nat → Bool} {J : Nat → Nat → Int64} {Kr : Nat → kRT} (hl : lgOK n t ofa wi) (R : repN n t so ofa wi fr to L K S V lo hi) (M : refN n t so ofa wi fr to (N 20) (B 21) (B 22) (J 23) (J 24) (J 25)) (h26 : ∀ x, B 26 x = false) (hr : ∀ i, i < kn → rowR (Kr i) N J i n) : allb (hoM N B J) kn = allb (fun i => krC L K V (Kr i)) kn := by
  obtain ⟨h1, h2⟩ := known_same hl R M h26
  exact allb_congr (fun i hi => hoM_kr (hr i hi) h1 h2)
