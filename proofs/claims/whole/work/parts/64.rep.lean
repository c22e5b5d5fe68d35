/-! what is told of a name: numbers A, spans P; what a table holds of it -/
theorem l_rf (x : Int64) : x ≤ x := by rw [Int64.le_iff_toInt_le]; omega
theorem l_tr {x y z : Int64} (h : x ≤ y) (h2 : y ≤ z) : x ≤ z := by rw [Int64.le_iff_toInt_le] at *; omega
theorem l_as {x y : Int64} (h : x ≤ y) (h2 : y ≤ x) : x = y := by
  rw [Int64.le_iff_toInt_le] at h h2
  exact Int64.toInt_inj.mp (by omega)
theorem lmax_le {x y v : Int64} : lmax x y ≤ v ↔ x ≤ v ∧ y ≤ v := by
  unfold lmax
  split
  · rename_i h
    rw [Int64.lt_iff_toInt_lt] at h
    rw [Int64.le_iff_toInt_le, Int64.le_iff_toInt_le]; omega
  · rename_i h
    rw [Int64.lt_iff_toInt_lt] at h
    rw [Int64.le_iff_toInt_le, Int64.le_iff_toInt_le]; omega
theorem le_lmin {x y v : Int64} : v ≤ lmin x y ↔ v ≤ x ∧ v ≤ y := by
  unfold lmin
  split
  · rename_i h
    rw [Int64.lt_iff_toInt_lt] at h
    rw [Int64.le_iff_toInt_le, Int64.le_iff_toInt_le]; omega
  · rename_i h
    rw [Int64.lt_iff_toInt_lt] at h
    rw [Int64.le_iff_toInt_le, Int64.le_iff_toInt_le]; omega
theorem l_min (x : Int64) : (-9223372036854775808 : Int64) ≤ x := by
  rw [Int64.le_iff_toInt_le]; have := Int64.le_toInt x; have e : (-9223372036854775808 : Int64).toInt = -9223372036854775808 := rfl; omega
theorem l_max (x : Int64) : x ≤ (9223372036854775807 : Int64) := by
  rw [Int64.le_iff_toInt_le]; have := Int64.toInt_lt x; have e : (9223372036854775807 : Int64).toInt = 9223372036854775807 := rfl; omega
abbrev nS : Type := Int64 → Prop
abbrev pS : Type := Int64 → Int64 → Prop
def repA (A : nS) (P : pS) (K S : Bool) (V lo hi : Int64) : Prop :=
  (K = true → A V ∧ (∀ v, A v → v = V) ∧ (∀ u w, P u w → u ≤ V ∧ V ≤ w)) ∧
  (K = false → (∀ v, ¬ A v) ∧ (S = true ↔ ∃ u w, P u w) ∧ (∀ v, lo ≤ v ↔ ∀ u w, P u w → u ≤ v) ∧ (∀ v, v ≤ hi ↔ ∀ u w, P u w → v ≤ w) ∧ lo ≤ hi)
def consA (A : nS) (P : pS) : Prop := (∀ v v', A v → A v' → v = v') ∧ (∀ u w u' w', P u w → P u' w' → u ≤ w') ∧ (∀ u w v, P u w → A v → u ≤ v ∧ v ≤ w)
theorem consA_congr {A A' : nS} {P P' : pS} (hA : ∀ v, A v ↔ A' v) (hP : ∀ u w, P u w ↔ P' u w) : consA A P ↔ consA A' P' := by
  have e1 : A = A' := funext fun v => propext (hA v)
  have e2 : P = P' := funext fun u => funext fun w => propext (hP u w)
  rw [e1, e2]
theorem repA_congr {A A' : nS} {P P' : pS} {K S : Bool} {V lo hi : Int64} (hA : ∀ v, A v ↔ A' v) (hP : ∀ u w, P u w ↔ P' u w) : repA A P K S V lo hi ↔ repA A' P' K S V lo hi := by
  have e1 : A = A' := funext fun v => propext (hA v)
  have e2 : P = P' := funext fun u => funext fun w => propext (hP u w)
  rw [e1, e2]
theorem repA_cons {A : nS} {P : pS} {K S : Bool} {V lo hi : Int64} (h : repA A P K S V lo hi) : consA A P := by
  cases K with
  | true =>
    obtain ⟨h1, h2, h3⟩ := h.1 rfl
    exact ⟨fun v v' a a' => (h2 v a).trans (h2 v' a').symm, fun u w u' w' p p' => l_tr (h3 u w p).1 (h3 u' w' p').2, fun u w v p a => by rw [h2 v a]; exact h3 u w p⟩
  | false =>
    obtain ⟨h1, h2, h3, h4, h5⟩ := h.2 rfl
    exact ⟨fun v v' a => absurd a (h1 v), fun u w u' w' p p' => l_tr ((h3 lo).mp (l_rf _) u w p) (l_tr h5 ((h4 hi).mp (l_rf _) u' w' p')), fun u w v p a => absurd a (h1 v)⟩
/-- an unknown one's number doesn't matter -/
theorem repA_V {A : nS} {P : pS} {S : Bool} {V V' lo hi : Int64} (h : repA A P false S V lo hi) : repA A P false S V' lo hi := ⟨fun q => (by cases q), h.2⟩
/-- a number is told -/
theorem rep_num {A : nS} {P : pS} {K S : Bool} {V lo hi : Int64} (h : repA A P K S V lo hi) (u : Int64) : (consA (fun v => A v ∨ v = u) P ↔ (if K = true then V = u else lo ≤ u ∧ u ≤ hi)) ∧ ((if K = true then V = u else lo ≤ u ∧ u ≤ hi) → repA (fun v => A v ∨ v = u) P true S u lo hi) := by
  have key : (if K = true then V = u else lo ≤ u ∧ u ≤ hi) → repA (fun v => A v ∨ v = u) P true S u lo hi := by
    intro q
    refine ⟨fun _ => ?_, fun z => (by cases z)⟩
    cases K with
    | true =>
      obtain ⟨h1, h2, h3⟩ := h.1 rfl
      rw [if_pos rfl] at q
      subst q
      exact ⟨Or.inl h1, fun v a => a.elim (h2 v) id, h3⟩
    | false =>
      obtain ⟨h1, h2, h3, h4, h5⟩ := h.2 rfl
      rw [if_neg (by decide)] at q
      exact ⟨Or.inr rfl, fun v a => a.elim (fun z => absurd z (h1 v)) id, fun a b p => ⟨(h3 u).mp q.1 a b p, (h4 u).mp q.2 a b p⟩⟩
  refine ⟨⟨fun c => ?_, fun q => repA_cons (key q)⟩, key⟩
  cases K with
  | true => rw [if_pos rfl]; exact c.1 V u (Or.inl (h.1 rfl).1) (Or.inr rfl)
  | false =>
    obtain ⟨h1, h2, h3, h4, h5⟩ := h.2 rfl
    rw [if_neg (by decide)]
    exact ⟨(h3 u).mpr (fun a b p => (c.2.2 a b u p (Or.inr rfl)).1), (h4 u).mpr (fun a b p => (c.2.2 a b u p (Or.inr rfl)).2)⟩
/-- a span is told -/
theorem rep_spn {A : nS} {P : pS} {K S : Bool} {V lo hi : Int64} (h : repA A P K S V lo hi) (u w : Int64) : (consA A (fun a b => P a b ∨ (a = u ∧ b = w)) ↔ (u ≤ w ∧ if K = true then u ≤ V ∧ V ≤ w else lmax u lo ≤ lmin w hi)) ∧ ((u ≤ w ∧ if K = true then u ≤ V ∧ V ≤ w else lmax u lo ≤ lmin w hi) → repA A (fun a b => P a b ∨ (a = u ∧ b = w)) K (if K = true then S else true) V (if K = true then lo else lmax u lo) (if K = true then hi else lmin w hi)) := by
  have key : (u ≤ w ∧ if K = true then u ≤ V ∧ V ≤ w else lmax u lo ≤ lmin w hi) → repA A (fun a b => P a b ∨ (a = u ∧ b = w)) K (if K = true then S else true) V (if K = true then lo else lmax u lo) (if K = true then hi else lmin w hi) := by
    intro q
    cases K with
    | true =>
      obtain ⟨h1, h2, h3⟩ := h.1 rfl
      rw [if_pos rfl] at q
      exact ⟨fun _ => ⟨h1, h2, fun a b p => p.elim (h3 a b) (fun z => by rw [z.1, z.2]; exact q.2)⟩, fun z => (by cases z)⟩
    | false =>
      obtain ⟨h1, h2, h3, h4, h5⟩ := h.2 rfl
      rw [if_neg (by decide)] at q
      refine ⟨fun z => (by cases z), fun _ => ⟨h1, ⟨fun _ => ⟨u, w, Or.inr ⟨rfl, rfl⟩⟩, fun _ => rfl⟩, fun v => ?_, fun v => ?_, ?_⟩⟩
      · rw [if_neg (by decide), lmax_le, h3 v]
        exact ⟨fun z a b p => p.elim (z.2 a b) (fun y => by rw [y.1]; exact z.1), fun z => ⟨z u w (Or.inr ⟨rfl, rfl⟩), fun a b p => z a b (Or.inl p)⟩⟩
      · rw [if_neg (by decide), le_lmin, h4 v]
        exact ⟨fun z a b p => p.elim (z.2 a b) (fun y => by rw [y.2]; exact z.1), fun z => ⟨z u w (Or.inr ⟨rfl, rfl⟩), fun a b p => z a b (Or.inl p)⟩⟩
      · rw [if_neg (by decide), if_neg (by decide)]; exact q.2
  refine ⟨⟨fun c => ?_, fun q => repA_cons (key q)⟩, key⟩
  refine ⟨c.2.1 u w u w (Or.inr ⟨rfl, rfl⟩) (Or.inr ⟨rfl, rfl⟩), ?_⟩
  cases K with
  | true => rw [if_pos rfl]; exact c.2.2 u w V (Or.inr ⟨rfl, rfl⟩) (h.1 rfl).1
  | false =>
    obtain ⟨h1, h2, h3, h4, h5⟩ := h.2 rfl
    rw [if_neg (by decide), lmax_le, le_lmin, le_lmin]
    exact ⟨⟨c.2.1 u w u w (Or.inr ⟨rfl, rfl⟩) (Or.inr ⟨rfl, rfl⟩), (h4 u).mpr (fun a b p => c.2.1 u w a b (Or.inr ⟨rfl, rfl⟩) (Or.inl p))⟩, (h3 w).mpr (fun a b p => c.2.1 a b u w (Or.inl p) (Or.inr ⟨rfl, rfl⟩)), h5⟩
/-- two that are one, both unknown -/
theorem rep_mrg {A A2 : nS} {P P2 : pS} {S S2 : Bool} {V V2 lo hi lo2 hi2 : Int64} (h : repA A P false S V lo hi) (h' : repA A2 P2 false S2 V2 lo2 hi2) : (consA (fun v => A v ∨ A2 v) (fun a b => P a b ∨ P2 a b) ↔ lmax lo lo2 ≤ lmin hi hi2) ∧ (lmax lo lo2 ≤ lmin hi hi2 → ∀ l3 u3 : Int64, (∀ v, l3 ≤ v ↔ lo ≤ v ∧ lo2 ≤ v) → (∀ v, v ≤ u3 ↔ v ≤ hi ∧ v ≤ hi2) → ∀ V3, repA (fun v => A v ∨ A2 v) (fun a b => P a b ∨ P2 a b) false (S || S2) V3 l3 u3) := by
  obtain ⟨h1, h2, h3, h4, h5⟩ := h.2 rfl
  obtain ⟨g1, g2, g3, g4, g5⟩ := h'.2 rfl
  have key : lmax lo lo2 ≤ lmin hi hi2 → ∀ l3 u3 : Int64, (∀ v, l3 ≤ v ↔ lo ≤ v ∧ lo2 ≤ v) → (∀ v, v ≤ u3 ↔ v ≤ hi ∧ v ≤ hi2) → ∀ V3, repA (fun v => A v ∨ A2 v) (fun a b => P a b ∨ P2 a b) false (S || S2) V3 l3 u3 := by
    intro q l3 u3 e1 e2 V3
    refine ⟨fun z => (by cases z), fun _ => ⟨fun v a => a.elim (h1 v) (g1 v), ?_, fun v => ?_, fun v => ?_, ?_⟩⟩
    · rw [Bool.or_eq_true, h2, g2]
      constructor
      · rintro (⟨a, b, p⟩ | ⟨a, b, p⟩)
        · exact ⟨a, b, Or.inl p⟩
        · exact ⟨a, b, Or.inr p⟩
      · rintro ⟨a, b, p | p⟩
        · exact Or.inl ⟨a, b, p⟩
        · exact Or.inr ⟨a, b, p⟩
    · rw [e1, h3, g3]
      exact ⟨fun z a b p => p.elim (z.1 a b) (z.2 a b), fun z => ⟨fun a b p => z a b (Or.inl p), fun a b p => z a b (Or.inr p)⟩⟩
    · rw [e2, h4, g4]
      exact ⟨fun z a b p => p.elim (z.1 a b) (z.2 a b), fun z => ⟨fun a b p => z a b (Or.inl p), fun a b p => z a b (Or.inr p)⟩⟩
    · rw [e1, ← lmax_le]
      rw [lmax_le, le_lmin, le_lmin] at q
      rw [lmax_le]
      exact ⟨(e2 lo).mpr q.1, (e2 lo2).mpr q.2⟩
  refine ⟨⟨fun c => ?_, fun q => repA_cons (key q _ _ (fun v => lmax_le) (fun v => le_lmin) 0)⟩, key⟩
  rw [lmax_le, le_lmin, le_lmin]
  exact ⟨⟨h5, (g4 lo).mpr (fun a b p => (h3 b).mpr (fun a' b' p' => c.2.1 a' b' a b (Or.inl p') (Or.inr p)))⟩, (h4 lo2).mpr (fun a b p => (g3 b).mpr (fun a' b' p' => c.2.1 a' b' a b (Or.inr p') (Or.inl p))), g5⟩
/-- two that are one, the first known: the second is known by it -/
theorem rep_mrk {A A2 : nS} {P P2 : pS} {K2 S S2 : Bool} {V V2 lo hi lo2 hi2 : Int64} (h : repA A P true S V lo hi) (h' : repA A2 P2 K2 S2 V2 lo2 hi2) : (consA (fun v => A v ∨ A2 v) (fun a b => P a b ∨ P2 a b) ↔ (if K2 = true then V2 = V else lo2 ≤ V ∧ V ≤ hi2)) ∧ ((if K2 = true then V2 = V else lo2 ≤ V ∧ V ≤ hi2) → ∀ S3 l3 u3, repA (fun v => A v ∨ A2 v) (fun a b => P a b ∨ P2 a b) true S3 V l3 u3) := by
  obtain ⟨h1, h2, h3⟩ := h.1 rfl
  have key : (if K2 = true then V2 = V else lo2 ≤ V ∧ V ≤ hi2) → ∀ S3 l3 u3, repA (fun v => A v ∨ A2 v) (fun a b => P a b ∨ P2 a b) true S3 V l3 u3 := by
    intro q S3 l3 u3
    refine ⟨fun _ => ?_, fun z => (by cases z)⟩
    cases K2 with
    | true =>
      obtain ⟨g1, g2, g3⟩ := h'.1 rfl
      rw [if_pos rfl] at q
      subst q
      exact ⟨Or.inl h1, fun v a => a.elim (h2 v) (g2 v), fun a b p => p.elim (h3 a b) (g3 a b)⟩
    | false =>
      obtain ⟨g1, g2, g3, g4, g5⟩ := h'.2 rfl
      rw [if_neg (by decide)] at q
      exact ⟨Or.inl h1, fun v a => a.elim (h2 v) (fun z => absurd z (g1 v)), fun a b p => p.elim (h3 a b) (fun z => ⟨(g3 V).mp q.1 a b z, (g4 V).mp q.2 a b z⟩)⟩
  refine ⟨⟨fun c => ?_, fun q => repA_cons (key q S lo hi)⟩, key⟩
  cases K2 with
  | true => rw [if_pos rfl]; exact c.1 V2 V (Or.inr (h'.1 rfl).1) (Or.inl h1)
  | false =>
    obtain ⟨g1, g2, g3, g4, g5⟩ := h'.2 rfl
    rw [if_neg (by decide)]
    exact ⟨(g3 V).mpr (fun a b p => (c.2.2 a b V (Or.inr p) (Or.inl h1)).1), (g4 V).mpr (fun a b p => (c.2.2 a b V (Or.inr p) (Or.inl h1)).2)⟩
/-- what the reference's tables hold -/
def refA (A : nS) (P : pS) (hn hs : Bool) (nu lo hi : Int64) : Prop := (hn = true ↔ ∃ v, A v) ∧ ((∀ v v', A v → A v' → v = v') → ∀ v, A v → nu = v) ∧ (hs = true ↔ ∃ u w, P u w) ∧ (hs = true → (∀ v, lo ≤ v ↔ ∀ u w, P u w → u ≤ v) ∧ (∀ v, v ≤ hi ↔ ∀ u w, P u w → v ≤ w))
theorem ref_rep {A : nS} {P : pS} {K S hn hs : Bool} {V lo hi nu lo' hi' : Int64} (h : repA A P K S V lo hi) (r : refA A P hn hs nu lo' hi') : hn = K ∧ (K = true → nu = V) ∧ (K = false → hs = S ∧ (S = true → lo' = lo ∧ hi' = hi) ∧ (S = false → lo = -9223372036854775808 ∧ hi = 9223372036854775807)) := by
  obtain ⟨r1, r2, r3, r4⟩ := r
  cases K with
  | true =>
    obtain ⟨h1, h2, h3⟩ := h.1 rfl
    exact ⟨r1.mpr ⟨V, h1⟩, fun _ => r2 (repA_cons h).1 V h1, fun z => (by cases z)⟩
  | false =>
    obtain ⟨h1, h2, h3, h4, h5⟩ := h.2 rfl
    have e : hs = S := by
      cases hs with
      | true => exact (h2.mpr (r3.mp rfl)).symm
      | false =>
        cases S with
        | false => rfl
        | true => exact r3.mpr (h2.mp rfl)
    refine ⟨?_, fun z => (by cases z), fun _ => ⟨e, fun q => ?_, fun q => ?_⟩⟩
    · cases hn with
      | false => rfl
      | true => obtain ⟨v, a⟩ := r1.mp rfl; exact absurd a (h1 v)
    · obtain ⟨a1, a2⟩ := r4 (e.trans q)
      exact ⟨l_as ((a1 lo).mpr ((h3 lo).mp (l_rf _))) ((h3 lo').mpr ((a1 lo').mp (l_rf _))), l_as ((h4 hi').mpr ((a2 hi').mp (l_rf _))) ((a2 hi).mpr ((h4 hi).mp (l_rf _)))⟩
    · have hno : ∀ u w, ¬ P u w := fun u w p => by rw [h2.mpr ⟨u, w, p⟩] at q; cases q
      exact ⟨l_as ((h3 _).mpr (fun u w p => absurd p (hno u w))) (l_min _), l_as (l_max _) ((h4 _).mpr (fun u w p => absurd p (hno u w)))⟩
/-- the reference's own test of a span -/
theorem ref_ok {A : nS} {P : pS} {hn hs : Bool} {nu lo hi : Int64} (r : refA A P hn hs nu lo hi) (hA : ∀ v v', A v → A v' → v = v') : (!(hs && (!decide (lo ≤ hi) || (hn && (!decide (lo ≤ nu) || !decide (nu ≤ hi)))))) = true ↔ (∀ u w u' w', P u w → P u' w' → u ≤ w') ∧ (∀ u w v, P u w → A v → u ≤ v ∧ v ≤ w) := by
  obtain ⟨r1, r2, r3, r4⟩ := r
  cases hs with
  | false =>
    have hno : ∀ u w, ¬ P u w := fun u w p => by have := r3.mpr ⟨u, w, p⟩; cases this
    exact ⟨fun _ => ⟨fun u w u' w' p => absurd p (hno u w), fun u w v p => absurd p (hno u w)⟩, fun _ => rfl⟩
  | true =>
    obtain ⟨a1, a2⟩ := r4 rfl
    rw [Bool.true_and, Bool.not_eq_true', Bool.or_eq_false_iff, Bool.not_eq_false', decide_eq_true_eq]
    have e1 : lo ≤ hi ↔ ∀ u w u' w', P u w → P u' w' → u ≤ w' := by
      rw [a1]
      exact ⟨fun h u w u' w' p p' => (a2 u).mp (h u w p) u' w' p', fun h u w p => (a2 u).mpr (fun u' w' p' => h u w u' w' p p')⟩
    rw [e1]
    cases hn with
    | false =>
      have hno : ∀ v, ¬ A v := fun v p => by have := r1.mpr ⟨v, p⟩; cases this
      exact ⟨fun h => ⟨h.1, fun u w v p a => absurd a (hno v)⟩, fun h => ⟨h.1, rfl⟩⟩
    | true =>
      obtain ⟨v0, hv0⟩ := r1.mp rfl
      have hnu := r2 hA v0 hv0
      rw [Bool.true_and, Bool.or_eq_false_iff, Bool.not_eq_false', Bool.not_eq_false', decide_eq_true_eq, decide_eq_true_eq]
      constructor
      · intro h
        exact ⟨h.1, fun u w v p a => by rw [← r2 hA v a]; exact ⟨(a1 nu).mp h.2.1 u w p, (a2 nu).mp h.2.2 u w p⟩⟩
      · intro h
        rw [hnu]
        exact ⟨h.1, (a1 v0).mpr (fun u w p => (h.2 u w v0 p hv0).1), (a2 v0).mpr (fun u w p => (h.2 u w v0 p hv0).2)⟩
