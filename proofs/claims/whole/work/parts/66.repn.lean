/-! the class's names against the log -/
def gF (n : Nat) (so ofa wi : Nat → Nat) (t : Nat) : Nat → Nat := wF n so ofa wi (fun _ => 0) t
def repN (n t : Nat) (so ofa wi : Nat → Nat) (fr to : Nat → Int64) (L : Nat → Nat) (K S : Nat → Bool) (V lo hi : Nat → Int64) : Prop :=
  (∀ i, i < n → L i = gF n so ofa wi t i) ∧ ∀ r, r < n → gF n so ofa wi t r = r → repA (gA (gF n so ofa wi t) t so ofa fr r) (gP (gF n so ofa wi t) t so ofa fr to r) (K r) (S r) (V r) (lo r) (hi r)
def conN (n t : Nat) (so ofa wi : Nat → Nat) (fr to : Nat → Int64) : Prop := ∀ r, r < n → consA (gA (gF n so ofa wi t) t so ofa fr r) (gP (gF n so ofa wi t) t so ofa fr to r)
def refN (n t : Nat) (so ofa wi : Nat → Nat) (fr to : Nat → Int64) (L : Nat → Nat) (hn hs : Nat → Bool) (nu lo hi : Nat → Int64) : Prop :=
  (∀ i, i < n → L i = gF n so ofa wi t i) ∧ ∀ r, r < n → refA (gA (gF n so ofa wi t) t so ofa fr r) (gP (gF n so ofa wi t) t so ofa fr to r) (hn r) (hs r) (nu r) (lo r) (hi r)
def lgE (t : Nat) (so ofa wi : Nat → Nat) (fr to : Nat → Int64) (so' ofa' wi' : Nat → Nat) (fr' to' : Nat → Int64) : Prop := ∀ e, e < t → so e = so' e ∧ ofa e = ofa' e ∧ wi e = wi' e ∧ fr e = fr' e ∧ (so e = 0 → to e = to' e)
section REPN
variable {n t : Nat} {so ofa wi so' ofa' wi' : Nat → Nat} {fr to fr' to' : Nat → Int64} {L : Nat → Nat} {K S : Nat → Bool} {V lo hi : Nat → Int64}
theorem gF_root (h : lgOK n t ofa wi) {i : Nat} (hi : i < n) : gF n so ofa wi t i < n ∧ gF n so ofa wi t (gF n so ofa wi t i) = gF n so ofa wi t i := wF_root h i hi
theorem gF_log (h : lgE t so ofa wi fr to so' ofa' wi' fr' to') : gF n so ofa wi t = gF n so' ofa' wi' t := wF_log (fun e he => ⟨(h e he).1, (h e he).2.1, (h e he).2.2.1⟩)
theorem gA_log (h : lgE t so ofa wi fr to so' ofa' wi' fr' to') (F : Nat → Nat) (r : Nat) (v : Int64) : gA F t so ofa fr r v ↔ gA F t so' ofa' fr' r v := gA_congr (fun e he => by obtain ⟨a, b, c, d, _⟩ := h e he; exact ⟨a, congrArg F b, d⟩) v
theorem gP_log (h : lgE t so ofa wi fr to so' ofa' wi' fr' to') (F : Nat → Nat) (r : Nat) (u w : Int64) : gP F t so ofa fr to r u w ↔ gP F t so' ofa' fr' to' r u w := gP_congr (fun e he => by obtain ⟨a, b, c, d, f⟩ := h e he; exact ⟨a, congrArg F b, d, f⟩) u w
theorem lgE_mono {t' : Nat} (h : lgE t so ofa wi fr to so' ofa' wi' fr' to') (ht : t' ≤ t) : lgE t' so ofa wi fr to so' ofa' wi' fr' to' := fun e he => h e (by omega)
theorem lgE_symm (h : lgE t so ofa wi fr to so' ofa' wi' fr' to') : lgE t so' ofa' wi' fr' to' so ofa wi fr to := fun e he => by
  obtain ⟨a, b, c, d, f⟩ := h e he
  exact ⟨a.symm, b.symm, c.symm, d.symm, fun q => (f (a.trans q)).symm⟩
theorem repN_log (h : lgE t so ofa wi fr to so' ofa' wi' fr' to') (R : repN n t so ofa wi fr to L K S V lo hi) : repN n t so' ofa' wi' fr' to' L K S V lo hi := by
  unfold repN at R ⊢
  rw [← gF_log h]
  exact ⟨R.1, fun r hr hrr => (repA_congr (gA_log h _ r) (gP_log h _ r)).mp (R.2 r hr hrr)⟩
theorem refN_log {hn hs : Nat → Bool} {nu lo' hi' : Nat → Int64} (h : lgE t so ofa wi fr to so' ofa' wi' fr' to') (R : refN n t so ofa wi fr to L hn hs nu lo' hi') : refN n t so' ofa' wi' fr' to' L hn hs nu lo' hi' := by
  unfold refN at R ⊢
  rw [← gF_log h]
  refine ⟨R.1, fun r hr => ?_⟩
  have e1 : gA (gF n so ofa wi t) t so ofa fr r = gA (gF n so ofa wi t) t so' ofa' fr' r := funext fun v => propext (gA_log h _ r v)
  have e2 : gP (gF n so ofa wi t) t so ofa fr to r = gP (gF n so ofa wi t) t so' ofa' fr' to' r := funext fun u => funext fun w => propext (gP_log h _ r u w)
  rw [← e1, ← e2]; exact R.2 r hr
theorem repN_tab {L' : Nat → Nat} {K' S' : Nat → Bool} {V' lo' hi' : Nat → Int64} (h : ∀ i, i < n → L' i = L i ∧ K' i = K i ∧ S' i = S i ∧ lo' i = lo i ∧ hi' i = hi i) (hV : ∀ i, i < n → K i = true → V' i = V i) (R : repN n t so ofa wi fr to L K S V lo hi) : repN n t so ofa wi fr to L' K' S' V' lo' hi' := by
  refine ⟨fun i hi => (h i hi).1.trans (R.1 i hi), fun r hr hrr => ?_⟩
  obtain ⟨a, b, c, d, e⟩ := h r hr
  have R2 := R.2 r hr hrr
  rw [b, c, d, e]
  cases hk : K r with
  | true => rw [hV r hr hk]; rw [hk] at R2; exact R2
  | false => rw [hk] at R2; exact repA_V R2
theorem gA_none (hl : lgOK n t ofa wi) {r : Nat} (hr : gF n so ofa wi t r ≠ r) (v : Int64) : ¬ gA (gF n so ofa wi t) t so ofa fr r v := by
  rintro ⟨e, h1, h2, h3, h4⟩
  apply hr
  rw [← h3]
  exact (gF_root hl (hl e h1).1).2
theorem gP_none (hl : lgOK n t ofa wi) {r : Nat} (hr : gF n so ofa wi t r ≠ r) (u w : Int64) : ¬ gP (gF n so ofa wi t) t so ofa fr to r u w := by
  rintro ⟨e, h1, h2, h3, h4⟩
  apply hr
  rw [← h3]
  exact (gF_root hl (hl e h1).1).2
theorem repN_con (hl : lgOK n t ofa wi) (R : repN n t so ofa wi fr to L K S V lo hi) : conN n t so ofa wi fr to := by
  intro r hr
  by_cases h : gF n so ofa wi t r = r
  · exact repA_cons (R.2 r hr h)
  · exact ⟨fun v v' a => absurd a (gA_none hl h v), fun u w u' w' p => absurd p (gP_none hl h u w), fun u w v p => absurd p (gP_none hl h u w)⟩
/-- a number or a span is told: the names stay one with the same -/
theorem gF_tell (h : lgE t so ofa wi fr to so' ofa' wi' fr' to') (hk : so' t ≠ 2) : gF n so' ofa' wi' (t + 1) = gF n so ofa wi t := by
  unfold gF
  rw [wF_n hk]
  exact (gF_log h).symm
theorem lgOK_tell (h : lgE t so ofa wi fr to so' ofa' wi' fr' to') (hl : lgOK n t ofa wi) (hx : ofa' t < n) (hy : wi' t < n) : lgOK n (t + 1) ofa' wi' := by
  intro e he
  rcases Nat.lt_or_ge e t with q | q
  · obtain ⟨a, b, c, _⟩ := h e q
    rw [← b, ← c]; exact hl e q
  · rw [show e = t by omega]; exact ⟨hx, hy⟩
theorem T_num {x : Nat} {u : Int64} (h : lgE t so ofa wi fr to so' ofa' wi' fr' to') (hl : lgOK n t ofa wi) (R : repN n t so ofa wi fr to L K S V lo hi) (hx : x < n) (h1 : so' t = 1) (h2 : ofa' t = x) (h3 : fr' t = u) : (conN n (t + 1) so' ofa' wi' fr' to' ↔ (if K (L x) = true then V (L x) = u else lo (L x) ≤ u ∧ u ≤ hi (L x))) ∧ ((if K (L x) = true then V (L x) = u else lo (L x) ≤ u ∧ u ≤ hi (L x)) → repN n (t + 1) so' ofa' wi' fr' to' L (va_up K (L x) true) S (va_up V (L x) u) lo hi) := by
  have eF := gF_tell (n := n) h (show so' t ≠ 2 by rw [h1]; decide)
  have hC := repN_con hl R
  have hLx := R.1 x hx
  obtain ⟨r1, r2⟩ := gF_root (so := so) hl hx
  rw [← hLx] at r1 r2
  have eA : ∀ r, gA (gF n so ofa wi t) (t + 1) so' ofa' fr' r = fun v => gA (gF n so ofa wi t) t so ofa fr r v ∨ (L x = r ∧ u = v) := fun r => funext fun v => propext (gA_s.trans (or_congr (gA_log h _ r v).symm (by rw [h1, h2, h3, ← hLx]; exact ⟨fun q => q.2, fun q => ⟨rfl, q⟩⟩)))
  have eP : ∀ r, gP (gF n so ofa wi t) (t + 1) so' ofa' fr' to' r = gP (gF n so ofa wi t) t so ofa fr to r := fun r => funext fun a => funext fun b => propext (gP_s.trans ⟨fun q => q.elim (gP_log h _ r a b).mpr (fun z => by rw [h1] at z; exact absurd z.1 (by decide)), fun q => Or.inl ((gP_log h _ r a b).mp q)⟩)
  have eAx : gA (gF n so ofa wi t) (t + 1) so' ofa' fr' (L x) = fun v => gA (gF n so ofa wi t) t so ofa fr (L x) v ∨ v = u := by
    rw [eA]; funext v; exact propext (or_congr Iff.rfl ⟨fun q => q.2.symm, fun q => ⟨rfl, q.symm⟩⟩)
  have eAn : ∀ r, r ≠ L x → gA (gF n so ofa wi t) (t + 1) so' ofa' fr' r = gA (gF n so ofa wi t) t so ofa fr r := fun r hr => by
    rw [eA]; funext v; exact propext ⟨fun q => q.resolve_right (fun z => hr z.1.symm), Or.inl⟩
  have N := rep_num (R.2 (L x) r1 r2) u
  unfold conN repN
  rw [eF]
  constructor
  · rw [← N.1]
    constructor
    · intro c
      have := c (L x) r1
      rw [eAx, eP] at this; exact this
    · intro c r hr
      by_cases q : r = L x
      · rw [q, eAx, eP]; exact c
      · rw [eAn r q, eP]; exact hC r hr
  · intro q
    refine ⟨R.1, fun r hr hrr => ?_⟩
    by_cases z : r = L x
    · rw [z, eAx, eP, up_s, up_s]; exact N.2 q
    · rw [eAn r z, eP, up_n z, up_n z]; exact R.2 r hr hrr
theorem T_spn {x : Nat} {u w : Int64} (h : lgE t so ofa wi fr to so' ofa' wi' fr' to') (hl : lgOK n t ofa wi) (R : repN n t so ofa wi fr to L K S V lo hi) (hx : x < n) (h1 : so' t = 0) (h2 : ofa' t = x) (h3 : fr' t = u) (h4 : to' t = w) : (conN n (t + 1) so' ofa' wi' fr' to' ↔ (u ≤ w ∧ if K (L x) = true then u ≤ V (L x) ∧ V (L x) ≤ w else lmax u (lo (L x)) ≤ lmin w (hi (L x)))) ∧ ((u ≤ w ∧ if K (L x) = true then u ≤ V (L x) ∧ V (L x) ≤ w else lmax u (lo (L x)) ≤ lmin w (hi (L x))) → ∀ (S' : Nat → Bool) (l3 u3 : Nat → Int64), (∀ r, r ≠ L x → S' r = S r ∧ l3 r = lo r ∧ u3 r = hi r) → (K (L x) = false → S' (L x) = true ∧ l3 (L x) = lmax u (lo (L x)) ∧ u3 (L x) = lmin w (hi (L x))) → repN n (t + 1) so' ofa' wi' fr' to' L K S' V l3 u3) := by
  have eF := gF_tell (n := n) h (show so' t ≠ 2 by rw [h1]; decide)
  have hC := repN_con hl R
  have hLx := R.1 x hx
  obtain ⟨r1, r2⟩ := gF_root (so := so) hl hx
  rw [← hLx] at r1 r2
  have eA : ∀ r, gA (gF n so ofa wi t) (t + 1) so' ofa' fr' r = gA (gF n so ofa wi t) t so ofa fr r := fun r => funext fun a => propext (gA_s.trans ⟨fun q => q.elim (gA_log h _ r a).mpr (fun z => by rw [h1] at z; exact absurd z.1 (by decide)), fun q => Or.inl ((gA_log h _ r a).mp q)⟩)
  have ePx : gP (gF n so ofa wi t) (t + 1) so' ofa' fr' to' (L x) = fun a b => gP (gF n so ofa wi t) t so ofa fr to (L x) a b ∨ (a = u ∧ b = w) := by
    funext a b
    exact propext (gP_s.trans (or_congr (gP_log h _ _ a b).symm (by rw [h1, h2, h3, h4, ← hLx]; exact ⟨fun q => ⟨q.2.2.1.symm, q.2.2.2.symm⟩, fun q => ⟨rfl, rfl, q.1.symm, q.2.symm⟩⟩)))
  have ePn : ∀ r, r ≠ L x → gP (gF n so ofa wi t) (t + 1) so' ofa' fr' to' r = gP (gF n so ofa wi t) t so ofa fr to r := fun r hr => by
    funext a b
    exact propext (gP_s.trans ⟨fun q => q.elim (gP_log h _ r a b).mpr (fun z => by rw [h2, ← hLx] at z; exact absurd z.2.1.symm hr), fun q => Or.inl ((gP_log h _ r a b).mp q)⟩)
  have N := rep_spn (R.2 (L x) r1 r2) u w
  unfold conN repN
  rw [eF]
  constructor
  · rw [← N.1]
    constructor
    · intro c
      have := c (L x) r1
      rw [eA, ePx] at this; exact this
    · intro c r hr
      by_cases q : r = L x
      · rw [q, eA, ePx]; exact c
      · rw [eA, ePn r q]; exact hC r hr
  · intro q S' l3 u3 ho hk
    refine ⟨R.1, fun r hr hrr => ?_⟩
    by_cases z : r = L x
    · rw [z, eA, ePx]
      have N2 := N.2 q
      cases hK : K (L x) with
      | true =>
        rw [hK] at N2
        exact ⟨N2.1, fun y => (by cases y)⟩
      | false =>
        obtain ⟨a, b, c⟩ := hk hK
        rw [hK, if_neg (by decide), if_neg (by decide), if_neg (by decide)] at N2
        rw [a, b, c]; exact N2
    · obtain ⟨a, b, c⟩ := ho r z
      rw [eA, ePn r z, a, b, c]; exact R.2 r hr hrr
theorem T_one {x y : Nat} (h : lgE t so ofa wi fr to so' ofa' wi' fr' to') (hl : lgOK n t ofa wi) (R : repN n t so ofa wi fr to L K S V lo hi) (hx : x < n) (hy : y < n) (h1 : so' t = 2) (h2 : ofa' t = x) (h3 : wi' t = y) : (conN n (t + 1) so' ofa' wi' fr' to' ↔ consA (fun v => gA (gF n so ofa wi t) t so ofa fr (L x) v ∨ gA (gF n so ofa wi t) t so ofa fr (L y) v) (fun u w => gP (gF n so ofa wi t) t so ofa fr to (L x) u w ∨ gP (gF n so ofa wi t) t so ofa fr to (L y) u w)) ∧ ∀ (L1 : Nat → Nat) (K1 S1 : Nat → Bool) (V1 l1 u1 : Nat → Int64), (∀ i, i < n → L1 i = jn L n (min (L x) (L y)) (max (L x) (L y)) i) → (∀ r, r < n → r ≠ L x → r ≠ L y → K1 r = K r ∧ S1 r = S r ∧ V1 r = V r ∧ l1 r = lo r ∧ u1 r = hi r) → repA (fun v => gA (gF n so ofa wi t) t so ofa fr (L x) v ∨ gA (gF n so ofa wi t) t so ofa fr (L y) v) (fun u w => gP (gF n so ofa wi t) t so ofa fr to (L x) u w ∨ gP (gF n so ofa wi t) t so ofa fr to (L y) u w) (K1 (min (L x) (L y))) (S1 (min (L x) (L y))) (V1 (min (L x) (L y))) (l1 (min (L x) (L y))) (u1 (min (L x) (L y))) → repN n (t + 1) so' ofa' wi' fr' to' L1 K1 S1 V1 l1 u1 := by
  have hC := repN_con hl R
  have hLx := R.1 x hx
  have hLy := R.1 y hy
  obtain ⟨a1, a2⟩ := gF_root (so := so) hl hx
  obtain ⟨b1, b2⟩ := gF_root (so := so) hl hy
  have eF : gF n so' ofa' wi' (t + 1) = jn (gF n so ofa wi t) n (min (L x) (L y)) (max (L x) (L y)) := by
    have e0 : wF n so' ofa' wi' (fun _ => 0) t = gF n so ofa wi t := (gF_log h).symm
    unfold gF
    rw [wF_2 h1, e0, h2, h3, ← hLx, ← hLy]; rfl
  rw [← hLx] at a1 a2
  rw [← hLy] at b1 b2
  have hR1 := R.1
  have hRt : ∀ i, i < n → gF n so ofa wi t i < n ∧ gF n so ofa wi t (gF n so ofa wi t i) = gF n so ofa wi t i := fun i hi => gF_root hl hi
  have hl1 : lgOK n (t + 1) ofa' wi' := lgOK_tell h hl (by rw [h2]; exact hx) (by rw [h3]; exact hy)
  generalize hF : gF n so ofa wi t = F at *
  have hs : min (L x) (L y) < n ∧ F (min (L x) (L y)) = min (L x) (L y) ∧ (min (L x) (L y) = L x ∨ min (L x) (L y) = L y) := by
    rcases Nat.le_total (L x) (L y) with q | q
    · rw [Nat.min_eq_left q]; exact ⟨a1, a2, Or.inl rfl⟩
    · rw [Nat.min_eq_right q]; exact ⟨b1, b2, Or.inr rfl⟩
  have hg : (max (L x) (L y) = L x ∧ min (L x) (L y) = L y) ∨ (max (L x) (L y) = L y ∧ min (L x) (L y) = L x) := by omega
  generalize min (L x) (L y) = s at *
  generalize max (L x) (L y) = g at *
  -- the new root of i
  have j1 : ∀ i, i < n → (jn F n s g i = s ↔ F i = L x ∨ F i = L y) := by
    intro i hi
    unfold jn
    by_cases q : F i = g
    · rw [if_pos ⟨hi, q⟩, q]
      exact ⟨fun _ => by rcases hg with z | z; exact Or.inl z.1; exact Or.inr z.1, fun _ => rfl⟩
    · rw [if_neg (fun z => q z.2)]
      rcases hg with z | z
      · exact ⟨fun y => Or.inr (y.trans z.2), fun y => y.elim (fun k => absurd (k.trans z.1.symm) q) (fun k => k.trans z.2.symm)⟩
      · exact ⟨fun y => Or.inl (y.trans z.2), fun y => y.elim (fun k => k.trans z.2.symm) (fun k => absurd (k.trans z.1.symm) q)⟩
  have j2 : ∀ i r, i < n → r ≠ L x → r ≠ L y → (jn F n s g i = r ↔ F i = r) := by
    intro i r hi hrx hry
    unfold jn
    by_cases q : F i = g
    · rw [if_pos ⟨hi, q⟩, q]
      refine ⟨fun z => ?_, fun z => ?_⟩
      · rcases hs.2.2 with k | k
        · exact absurd (z.symm.trans k) hrx
        · exact absurd (z.symm.trans k) hry
      · rcases hg with k | k
        · exact absurd (z.symm.trans k.1) hrx
        · exact absurd (z.symm.trans k.1) hry
    · rw [if_neg (fun z => q z.2)]
  have eA : ∀ r v, gA (jn F n s g) (t + 1) so' ofa' fr' r v ↔ gA (jn F n s g) t so ofa fr r v := fun r v => gA_s.trans ⟨fun q => q.elim (gA_log h _ r v).mpr (fun z => by rw [h1] at z; exact absurd z.1 (by decide)), fun q => Or.inl ((gA_log h _ r v).mp q)⟩
  have eP : ∀ r u w, gP (jn F n s g) (t + 1) so' ofa' fr' to' r u w ↔ gP (jn F n s g) t so ofa fr to r u w := fun r u w => gP_s.trans ⟨fun q => q.elim (gP_log h _ r u w).mpr (fun z => by rw [h1] at z; exact absurd z.1 (by decide)), fun q => Or.inl ((gP_log h _ r u w).mp q)⟩
  have eAs : gA (jn F n s g) (t + 1) so' ofa' fr' s = fun v => gA F t so ofa fr (L x) v ∨ gA F t so ofa fr (L y) v := by
    funext v
    refine propext ((eA s v).trans ⟨?_, ?_⟩)
    · rintro ⟨e, q1, q2, q3, q4⟩
      rcases (j1 _ (hl e q1).1).mp q3 with z | z
      · exact Or.inl ⟨e, q1, q2, z, q4⟩
      · exact Or.inr ⟨e, q1, q2, z, q4⟩
    · rintro (⟨e, q1, q2, q3, q4⟩ | ⟨e, q1, q2, q3, q4⟩)
      · exact ⟨e, q1, q2, (j1 _ (hl e q1).1).mpr (Or.inl q3), q4⟩
      · exact ⟨e, q1, q2, (j1 _ (hl e q1).1).mpr (Or.inr q3), q4⟩
  have ePs : gP (jn F n s g) (t + 1) so' ofa' fr' to' s = fun u w => gP F t so ofa fr to (L x) u w ∨ gP F t so ofa fr to (L y) u w := by
    funext u w
    refine propext ((eP s u w).trans ⟨?_, ?_⟩)
    · rintro ⟨e, q1, q2, q3, q4⟩
      rcases (j1 _ (hl e q1).1).mp q3 with z | z
      · exact Or.inl ⟨e, q1, q2, z, q4⟩
      · exact Or.inr ⟨e, q1, q2, z, q4⟩
    · rintro (⟨e, q1, q2, q3, q4⟩ | ⟨e, q1, q2, q3, q4⟩)
      · exact ⟨e, q1, q2, (j1 _ (hl e q1).1).mpr (Or.inl q3), q4⟩
      · exact ⟨e, q1, q2, (j1 _ (hl e q1).1).mpr (Or.inr q3), q4⟩
  have eAn : ∀ r, r ≠ L x → r ≠ L y → gA (jn F n s g) (t + 1) so' ofa' fr' r = gA F t so ofa fr r := fun r hrx hry => by
    funext v
    refine propext ((eA r v).trans ⟨?_, ?_⟩)
    · rintro ⟨e, q1, q2, q3, q4⟩; exact ⟨e, q1, q2, (j2 _ r (hl e q1).1 hrx hry).mp q3, q4⟩
    · rintro ⟨e, q1, q2, q3, q4⟩; exact ⟨e, q1, q2, (j2 _ r (hl e q1).1 hrx hry).mpr q3, q4⟩
  have ePn : ∀ r, r ≠ L x → r ≠ L y → gP (jn F n s g) (t + 1) so' ofa' fr' to' r = gP F t so ofa fr to r := fun r hrx hry => by
    funext u w
    refine propext ((eP r u w).trans ⟨?_, ?_⟩)
    · rintro ⟨e, q1, q2, q3, q4⟩; exact ⟨e, q1, q2, (j2 _ r (hl e q1).1 hrx hry).mp q3, q4⟩
    · rintro ⟨e, q1, q2, q3, q4⟩; exact ⟨e, q1, q2, (j2 _ r (hl e q1).1 hrx hry).mpr q3, q4⟩
  -- roots of the new one
  have hroot : ∀ r, r < n → jn F n s g r = r → r = s ∨ (r ≠ L x ∧ r ≠ L y ∧ F r = r) := by
    intro r hr hrr
    by_cases q : r = s
    · exact Or.inl q
    · right
      have hns : ¬ (F r = L x ∨ F r = L y) := fun z => q (hrr.symm.trans ((j1 r hr).mpr z))
      have hrx : r ≠ L x := fun z => hns (Or.inl (by rw [z]; exact a2))
      have hry : r ≠ L y := fun z => hns (Or.inr (by rw [z]; exact b2))
      exact ⟨hrx, hry, (j2 r r hr hrx hry).mp hrr⟩
  constructor
  · constructor
    · intro c
      have := c s hs.1
      rw [eF, eAs, ePs] at this; exact this
    · intro c r hr
      by_cases q : gF n so' ofa' wi' (t + 1) r = r
      · rw [eF]
        rw [eF] at q
        rcases hroot r hr q with z | ⟨z1, z2, z3⟩
        · rw [z, eAs, ePs]; exact c
        · rw [eAn r z1 z2, ePn r z1 z2]; exact hF ▸ hC r hr
      · exact ⟨fun v v' a => absurd a (gA_none hl1 q v), fun u w u' w' p => absurd p (gP_none hl1 q u w), fun u w v p => absurd p (gP_none hl1 q u w)⟩
  · intro L1 K1 S1 V1 l1 u1 hL1 ho hA
    unfold repN
    rw [eF]
    refine ⟨fun i hi => ?_, fun r hr hrr => ?_⟩
    · rw [hL1 i hi]; unfold jn; rw [hR1 i hi]
    · rcases hroot r hr hrr with z | ⟨z1, z2, z3⟩
      · rw [z, eAs, ePs]; exact hA
      · obtain ⟨k1, k2, k3, k4, k5⟩ := ho r hr z1 z2
        rw [eAn r z1 z2, ePn r z1 z2, k1, k2, k3, k4, k5]
        have := R.2 r hr (by rw [hF]; exact z3)
        rw [hF] at this; exact this
theorem T_name {L1 : Nat → Nat} {K1 S1 : Nat → Bool} {V1 l1 u1 : Nat → Int64} (hl : lgOK n t ofa wi) (R : repN n t so ofa wi fr to L K S V lo hi) (ho : ∀ i, i < n → L1 i = L i ∧ K1 i = K i ∧ S1 i = S i ∧ V1 i = V i ∧ l1 i = lo i ∧ u1 i = hi i) (hn : L1 n = n ∧ K1 n = false ∧ S1 n = false ∧ l1 n = -9223372036854775808 ∧ u1 n = 9223372036854775807) : repN (n + 1) t so ofa wi fr to L1 K1 S1 V1 l1 u1 := by
  have W := wF_name (so := so) (L0 := fun _ => 0) (L1 := fun _ => 0) hl
  have eA : ∀ r v, gA (gF (n + 1) so ofa wi t) t so ofa fr r v ↔ gA (gF n so ofa wi t) t so ofa fr r v := fun r v => gA_congr (fun e he => ⟨rfl, W.1 _ (hl e he).1, rfl⟩) v
  have eP : ∀ r u w, gP (gF (n + 1) so ofa wi t) t so ofa fr to r u w ↔ gP (gF n so ofa wi t) t so ofa fr to r u w := fun r u w => gP_congr (fun e he => ⟨rfl, W.1 _ (hl e he).1, rfl, fun _ => rfl⟩) u w
  refine ⟨fun i hi => ?_, fun r hr hrr => ?_⟩
  · rcases Nat.lt_or_ge i n with q | q
    · rw [(ho i q).1, R.1 i q]; exact (W.1 i q).symm
    · rw [show i = n by omega, hn.1]; exact W.2.symm
  · rw [repA_congr (eA r) (eP r)]
    rcases Nat.lt_or_ge r n with q | q
    · obtain ⟨k0, k1, k2, k3, k4, k5⟩ := ho r q
      rw [k1, k2, k3, k4, k5]
      exact R.2 r q ((W.1 r q).symm.trans hrr)
    · obtain ⟨m0, m1, m2, m3, m4⟩ := hn
      have er : r = n := by omega
      rw [er, m1, m2, m3, m4]
      have nA : ∀ v, ¬ gA (gF n so ofa wi t) t so ofa fr n v := by
        rintro v ⟨e, q1, q2, q3, q4⟩
        have := (gF_root (so := so) hl (hl e q1).1).1
        omega
      have nP : ∀ u w, ¬ gP (gF n so ofa wi t) t so ofa fr to n u w := by
        rintro u w ⟨e, q1, q2, q3, q4⟩
        have := (gF_root (so := so) hl (hl e q1).1).1
        omega
      exact ⟨fun z => (by cases z), fun _ => ⟨nA, ⟨fun z => (by cases z), fun ⟨u, w, p⟩ => absurd p (nP u w)⟩, fun v => ⟨fun _ u w p => absurd p (nP u w), fun _ => l_min v⟩, fun v => ⟨fun _ u w p => absurd p (nP u w), fun _ => l_max v⟩, l_min _⟩⟩
end REPN
