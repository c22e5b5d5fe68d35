/-! the log: what was told, and the tables that the reference makes of it -/
def lgOK (n t : Nat) (ofa wi : Nat → Nat) : Prop := ∀ e, e < t → ofa e < n ∧ wi e < n
def gA (F : Nat → Nat) (t : Nat) (so ofa : Nat → Nat) (fr : Nat → Int64) (r : Nat) : nS := fun v => ∃ e, e < t ∧ so e = 1 ∧ F (ofa e) = r ∧ fr e = v
def gP (F : Nat → Nat) (t : Nat) (so ofa : Nat → Nat) (fr to : Nat → Int64) (r : Nat) : pS := fun u w => ∃ e, e < t ∧ so e = 0 ∧ F (ofa e) = r ∧ fr e = u ∧ to e = w
section FOLDS
variable {F so ofa : Nat → Nat} {fr to : Nat → Int64} {t r : Nat}
theorem gA_s {v : Int64} : gA F (t + 1) so ofa fr r v ↔ gA F t so ofa fr r v ∨ (so t = 1 ∧ F (ofa t) = r ∧ fr t = v) := by
  constructor
  · rintro ⟨e, h1, h2⟩
    rcases Nat.lt_or_ge e t with q | q
    · exact Or.inl ⟨e, q, h2⟩
    · rw [show e = t by omega] at h2; exact Or.inr h2
  · rintro (⟨e, h1, h2⟩ | h)
    · exact ⟨e, by omega, h2⟩
    · exact ⟨t, by omega, h⟩
theorem gP_s {u w : Int64} : gP F (t + 1) so ofa fr to r u w ↔ gP F t so ofa fr to r u w ∨ (so t = 0 ∧ F (ofa t) = r ∧ fr t = u ∧ to t = w) := by
  constructor
  · rintro ⟨e, h1, h2⟩
    rcases Nat.lt_or_ge e t with q | q
    · exact Or.inl ⟨e, q, h2⟩
    · rw [show e = t by omega] at h2; exact Or.inr h2
  · rintro (⟨e, h1, h2⟩ | h)
    · exact ⟨e, by omega, h2⟩
    · exact ⟨t, by omega, h⟩
theorem hn_iff {h0 : Nat → Bool} : ∀ {t : Nat}, hnF F so ofa h0 t r = true ↔ h0 r = true ∨ ∃ v, gA F t so ofa fr r v
  | 0 => ⟨Or.inl, fun h => h.elim id (fun ⟨v, e, h, _⟩ => absurd h (Nat.not_lt_zero e))⟩
  | t + 1 => by
    have ih := hn_iff (h0 := h0) (t := t)
    by_cases hs : so t = 1
    · rw [hnF_1 hs]
      by_cases hr : r = F (ofa t)
      · subst hr
        rw [up_s]
        exact ⟨fun _ => Or.inr ⟨fr t, gA_s.mpr (Or.inr ⟨hs, rfl, rfl⟩)⟩, fun _ => rfl⟩
      · rw [up_n hr, ih]
        refine or_congr Iff.rfl ⟨fun ⟨v, h⟩ => ⟨v, gA_s.mpr (Or.inl h)⟩, fun ⟨v, h⟩ => ⟨v, (gA_s.mp h).resolve_right (fun q => hr q.2.1.symm)⟩⟩
    · rw [hnF_n hs, ih]
      refine or_congr Iff.rfl ⟨fun ⟨v, h⟩ => ⟨v, gA_s.mpr (Or.inl h)⟩, fun ⟨v, h⟩ => ⟨v, (gA_s.mp h).resolve_right (fun q => hs q.1)⟩⟩
theorem nu_last {n0 : Nat → Int64} : ∀ {t : Nat}, (∃ v, gA F t so ofa fr r v) → gA F t so ofa fr r (nuF F so ofa fr n0 t r)
  | 0, ⟨v, e, h, _⟩ => absurd h (Nat.not_lt_zero e)
  | t + 1, ⟨v, h⟩ => by
    by_cases hs : so t = 1
    · rw [nuF_1 hs]
      by_cases hr : r = F (ofa t)
      · subst hr; rw [up_s]; exact gA_s.mpr (Or.inr ⟨hs, rfl, rfl⟩)
      · rw [up_n hr]
        exact gA_s.mpr (Or.inl (nu_last ⟨v, (gA_s.mp h).resolve_right (fun q => hr q.2.1.symm)⟩))
    · rw [nuF_n hs]
      exact gA_s.mpr (Or.inl (nu_last ⟨v, (gA_s.mp h).resolve_right (fun q => hs q.1)⟩))
theorem can_iff {h0 : Nat → Bool} {n0 : Nat → Int64} : ∀ {t : Nat}, (∀ e, e < t → h0 (F (ofa e)) = false) → (canF F so ofa fr h0 n0 t = true ↔ ∀ r v v', gA F t so ofa fr r v → gA F t so ofa fr r v' → v = v')
  | 0, _ => ⟨fun _ r v v' ⟨e, h, _⟩ => absurd h (Nat.not_lt_zero e), fun _ => rfl⟩
  | t + 1, hz => by
    have ih := can_iff (h0 := h0) (n0 := n0) (t := t) (fun e he => hz e (by omega))
    by_cases hs : so t = 1
    · rw [canF_1 hs, Bool.and_eq_true, ih]
      have e1 : (!(hnF F so ofa h0 t (F (ofa t)) && !decide (nuF F so ofa fr n0 t (F (ofa t)) = fr t))) = true ↔ ((∃ v, gA F t so ofa fr (F (ofa t)) v) → nuF F so ofa fr n0 t (F (ofa t)) = fr t) := by
        rw [Bool.not_eq_true', Bool.and_eq_false_iff, Bool.not_eq_false', decide_eq_true_eq]
        constructor
        · rintro (h | h) hv
          · rw [(hn_iff (fr := fr)).mpr (Or.inr hv)] at h; cases h
          · exact h
        · intro h
          by_cases hv : ∃ v, gA F t so ofa fr (F (ofa t)) v
          · exact Or.inr (h hv)
          · left
            rw [Bool.eq_false_iff]
            intro q
            rcases (hn_iff (fr := fr)).mp q with q | q
            · rw [hz t (by omega)] at q; cases q
            · exact hv q
      rw [e1]
      constructor
      · intro h r v v' a a'
        rcases gA_s.mp a with a | a <;> rcases gA_s.mp a' with a' | a'
        · exact h.1 r v v' a a'
        · obtain ⟨_, rfl, rfl⟩ := a'
          have := h.2 ⟨v, a⟩
          exact (h.1 _ _ _ a (nu_last (n0 := n0) ⟨v, a⟩)).trans this
        · obtain ⟨_, rfl, rfl⟩ := a
          have := h.2 ⟨v', a'⟩
          exact this.symm.trans (h.1 _ _ _ (nu_last (n0 := n0) ⟨v', a'⟩) a')
        · exact a.2.2.symm.trans a'.2.2
      · intro h
        exact ⟨fun r v v' a a' => h r v v' (gA_s.mpr (Or.inl a)) (gA_s.mpr (Or.inl a')), fun hv => h _ _ _ (gA_s.mpr (Or.inl (nu_last hv))) (gA_s.mpr (Or.inr ⟨hs, rfl, rfl⟩))⟩
    · rw [canF_n hs, ih]
      have e : ∀ r v, gA F (t + 1) so ofa fr r v ↔ gA F t so ofa fr r v := fun r v => ⟨fun h => (gA_s.mp h).resolve_right (fun q => hs q.1), fun h => gA_s.mpr (Or.inl h)⟩
      exact ⟨fun h r v v' a a' => h r v v' ((e r v).mp a) ((e r v').mp a'), fun h r v v' a a' => h r v v' ((e r v).mpr a) ((e r v').mpr a')⟩
theorem hs_iff {h0 : Nat → Bool} : ∀ {t : Nat}, hsF F so ofa h0 t r = true ↔ h0 r = true ∨ ∃ u w, gP F t so ofa fr to r u w
  | 0 => ⟨Or.inl, fun h => h.elim id (fun ⟨v, w, e, h, _⟩ => absurd h (Nat.not_lt_zero e))⟩
  | t + 1 => by
    have ih := hs_iff (h0 := h0) (t := t)
    by_cases hs : so t = 0
    · rw [hsF_1 hs]
      by_cases hr : r = F (ofa t)
      · subst hr
        rw [up_s]
        exact ⟨fun _ => Or.inr ⟨fr t, to t, gP_s.mpr (Or.inr ⟨hs, rfl, rfl, rfl⟩)⟩, fun _ => rfl⟩
      · rw [up_n hr, ih]
        refine or_congr Iff.rfl ⟨fun ⟨v, w, h⟩ => ⟨v, w, gP_s.mpr (Or.inl h)⟩, fun ⟨v, w, h⟩ => ⟨v, w, (gP_s.mp h).resolve_right (fun q => hr q.2.1.symm)⟩⟩
    · rw [hsF_n hs, ih]
      refine or_congr Iff.rfl ⟨fun ⟨v, w, h⟩ => ⟨v, w, gP_s.mpr (Or.inl h)⟩, fun ⟨v, w, h⟩ => ⟨v, w, (gP_s.mp h).resolve_right (fun q => hs q.1)⟩⟩
theorem lo_iff {h0 : Nat → Bool} {l0 : Nat → Int64} (hz : h0 r = false) : ∀ {t : Nat}, hsF F so ofa h0 t r = true → ∀ v, loF F so ofa fr h0 l0 t r ≤ v ↔ ∀ u w, gP F t so ofa fr to r u w → u ≤ v
  | 0, h => by rw [show hsF F so ofa h0 0 r = h0 r from rfl, hz] at h; cases h
  | t + 1, h => by
    intro v
    by_cases hs : so t = 0
    · rw [loF_1 hs]
      by_cases hr : r = F (ofa t)
      · rw [← hr, up_s]
        by_cases hb : hsF F so ofa h0 t r = true
        · rw [if_pos hb, lmax_le, lo_iff hz hb v]
          exact ⟨fun q u w p => (gP_s.mp p).elim (q.1 u w) (fun z => by rw [← z.2.2.1]; exact q.2), fun q => ⟨fun u w p => q u w (gP_s.mpr (Or.inl p)), q _ _ (gP_s.mpr (Or.inr ⟨hs, hr.symm, rfl, rfl⟩))⟩⟩
        · rw [if_neg hb]
          have hno : ∀ u w, ¬ gP F t so ofa fr to r u w := fun u w p => hb (hs_iff.mpr (Or.inr ⟨u, w, p⟩))
          exact ⟨fun q u w p => (gP_s.mp p).elim (fun z => absurd z (hno u w)) (fun z => by rw [← z.2.2.1]; exact q), fun q => q _ _ (gP_s.mpr (Or.inr ⟨hs, hr.symm, rfl, rfl⟩))⟩
      · rw [up_n hr]
        rw [hsF_1 hs, up_n hr] at h
        rw [lo_iff hz h v]
        exact ⟨fun q u w p => q u w ((gP_s.mp p).resolve_right (fun z => hr z.2.1.symm)), fun q u w p => q u w (gP_s.mpr (Or.inl p))⟩
    · rw [loF_n hs]
      rw [hsF_n hs] at h
      rw [lo_iff hz h v]
      exact ⟨fun q u w p => q u w ((gP_s.mp p).resolve_right (fun z => hs z.1)), fun q u w p => q u w (gP_s.mpr (Or.inl p))⟩
theorem hi_iff {h0 : Nat → Bool} {l0 : Nat → Int64} (hz : h0 r = false) : ∀ {t : Nat}, hsF F so ofa h0 t r = true → ∀ v, v ≤ hiF F so ofa to h0 l0 t r ↔ ∀ u w, gP F t so ofa fr to r u w → v ≤ w
  | 0, h => by rw [show hsF F so ofa h0 0 r = h0 r from rfl, hz] at h; cases h
  | t + 1, h => by
    intro v
    by_cases hs : so t = 0
    · rw [hiF_1 hs]
      by_cases hr : r = F (ofa t)
      · rw [← hr, up_s]
        by_cases hb : hsF F so ofa h0 t r = true
        · rw [if_pos hb, le_lmin, hi_iff hz hb v]
          exact ⟨fun q u w p => (gP_s.mp p).elim (q.1 u w) (fun z => by rw [← z.2.2.2]; exact q.2), fun q => ⟨fun u w p => q u w (gP_s.mpr (Or.inl p)), q _ _ (gP_s.mpr (Or.inr ⟨hs, hr.symm, rfl, rfl⟩))⟩⟩
        · rw [if_neg hb]
          have hno : ∀ u w, ¬ gP F t so ofa fr to r u w := fun u w p => hb (hs_iff.mpr (Or.inr ⟨u, w, p⟩))
          exact ⟨fun q u w p => (gP_s.mp p).elim (fun z => absurd z (hno u w)) (fun z => by rw [← z.2.2.2]; exact q), fun q => q _ _ (gP_s.mpr (Or.inr ⟨hs, hr.symm, rfl, rfl⟩))⟩
      · rw [up_n hr]
        rw [hsF_1 hs, up_n hr] at h
        rw [hi_iff hz h v]
        exact ⟨fun q u w p => q u w ((gP_s.mp p).resolve_right (fun z => hr z.2.1.symm)), fun q u w p => q u w (gP_s.mpr (Or.inl p))⟩
    · rw [hiF_n hs]
      rw [hsF_n hs] at h
      rw [hi_iff hz h v]
      exact ⟨fun q u w p => q u w ((gP_s.mp p).resolve_right (fun z => hs z.1)), fun q u w p => q u w (gP_s.mpr (Or.inl p))⟩
theorem fold_ref {h0 s0 : Nat → Bool} {n0 l0 u0 : Nat → Int64} (hz : h0 r = false) (hz2 : s0 r = false) : refA (gA F t so ofa fr r) (gP F t so ofa fr to r) (hnF F so ofa h0 t r) (hsF F so ofa s0 t r) (nuF F so ofa fr n0 t r) (loF F so ofa fr s0 l0 t r) (hiF F so ofa to s0 u0 t r) := by
  refine ⟨?_, fun hA v a => hA _ _ (nu_last ⟨v, a⟩) a, ?_, fun h => ⟨lo_iff hz2 h, hi_iff hz2 h⟩⟩
  · rw [hn_iff (fr := fr), hz]
    exact ⟨fun h => h.resolve_left (fun q => by cases q), Or.inr⟩
  · rw [hs_iff (fr := fr) (to := to), hz2]
    exact ⟨fun h => h.resolve_left (fun q => by cases q), Or.inr⟩
theorem gA_congr {F' so' ofa' : Nat → Nat} {fr' : Nat → Int64} (h : ∀ e, e < t → so e = so' e ∧ F (ofa e) = F' (ofa' e) ∧ fr e = fr' e) (v : Int64) : gA F t so ofa fr r v ↔ gA F' t so' ofa' fr' r v := by
  constructor
  · rintro ⟨e, h1, h2, h3, h4⟩
    obtain ⟨a, b, c⟩ := h e h1
    exact ⟨e, h1, a ▸ h2, b ▸ h3, c ▸ h4⟩
  · rintro ⟨e, h1, h2, h3, h4⟩
    obtain ⟨a, b, c⟩ := h e h1
    exact ⟨e, h1, a ▸ h2, b ▸ h3, c ▸ h4⟩
theorem gP_congr {F' so' ofa' : Nat → Nat} {fr' to' : Nat → Int64} (h : ∀ e, e < t → so e = so' e ∧ F (ofa e) = F' (ofa' e) ∧ fr e = fr' e ∧ (so e = 0 → to e = to' e)) (u w : Int64) : gP F t so ofa fr to r u w ↔ gP F' t so' ofa' fr' to' r u w := by
  constructor
  · rintro ⟨e, h1, h2, h3, h4, h5⟩
    obtain ⟨a, b, c, d⟩ := h e h1
    exact ⟨e, h1, a ▸ h2, b ▸ h3, c ▸ h4, d h2 ▸ h5⟩
  · rintro ⟨e, h1, h2, h3, h4, h5⟩
    obtain ⟨a, b, c, d⟩ := h e h1
    have h2' : so e = 0 := a.trans h2
    exact ⟨e, h1, h2', b.trans h3, c.trans h4, (d h2').trans h5⟩
end FOLDS
/-! which name each is one with -/
section FIRST
variable {n : Nat} {so ofa wi : Nat → Nat} {L0 L1 : Nat → Nat}
theorem wF_root : ∀ {t : Nat}, lgOK n t ofa wi → ∀ i, i < n → wF n so ofa wi L0 t i < n ∧ wF n so ofa wi L0 t (wF n so ofa wi L0 t i) = wF n so ofa wi L0 t i
  | 0, _, i, hi => by
    show initL L0 n i < n ∧ initL L0 n (initL L0 n i) = initL L0 n i
    have e : initL L0 n i = i := if_pos hi
    rw [e, e]; exact ⟨hi, rfl⟩
  | t + 1, hl, i, hi => by
    have ih := wF_root (t := t) (fun e he => hl e (by omega))
    by_cases h : so t = 2
    · rw [wF_2 h]
      obtain ⟨hx, hy⟩ := hl t (by omega)
      obtain ⟨a1, a2⟩ := ih _ hx
      obtain ⟨b1, b2⟩ := ih _ hy
      generalize hF : wF n so ofa wi L0 t = F at *
      have hs : F (min (F (ofa t)) (F (wi t))) = min (F (ofa t)) (F (wi t)) ∧ min (F (ofa t)) (F (wi t)) < n := by
        rcases Nat.le_total (F (ofa t)) (F (wi t)) with q | q
        · rw [Nat.min_eq_left q]; exact ⟨a2, a1⟩
        · rw [Nat.min_eq_right q]; exact ⟨b2, b1⟩
      generalize min (F (ofa t)) (F (wi t)) = s at *
      generalize max (F (ofa t)) (F (wi t)) = g at *
      have key : ∀ z, z < n → F z = z → jn F n s g z = z ∨ jn F n s g z = s := by
        intro z hz1 hz
        unfold jn
        split
        · exact Or.inr rfl
        · exact Or.inl hz
      have hss : jn F n s g s = s := by
        unfold jn; split
        · rfl
        · exact hs.1
      by_cases hg : F i = g
      · have e : jn F n s g i = s := if_pos ⟨hi, hg⟩
        rw [e]; exact ⟨hs.2, hss⟩
      · have e : jn F n s g i = F i := if_neg (fun q => hg q.2)
        rw [e]
        refine ⟨(ih i hi).1, ?_⟩
        have e2 : jn F n s g (F i) = F (F i) := if_neg (fun q => hg ((ih i hi).2.symm.trans q.2))
        rw [e2]; exact (ih i hi).2
    · rw [wF_n h]; exact ih i hi
theorem wF_L0 : ∀ {t : Nat}, lgOK n t ofa wi → ∀ i, i < n → wF n so ofa wi L0 t i = wF n so ofa wi L1 t i
  | 0, _, i, hi => by
    show initL L0 n i = initL L1 n i
    rw [show initL L0 n i = i from if_pos hi, show initL L1 n i = i from if_pos hi]
  | t + 1, hl, i, hi => by
    have ih := wF_L0 (t := t) (fun e he => hl e (by omega))
    by_cases h : so t = 2
    · rw [wF_2 h, wF_2 h]
      obtain ⟨hx, hy⟩ := hl t (by omega)
      rw [ih _ hx, ih _ hy]
      unfold jn
      rw [ih i hi]
    · rw [wF_n h, wF_n h]; exact ih i hi
theorem wF_log {so' ofa' wi' : Nat → Nat} : ∀ {t : Nat}, (∀ e, e < t → so e = so' e ∧ ofa e = ofa' e ∧ wi e = wi' e) → wF n so ofa wi L0 t = wF n so' ofa' wi' L0 t
  | 0, _ => rfl
  | t + 1, h => by
    have ih := wF_log (t := t) (fun e he => h e (by omega))
    obtain ⟨a, b, c⟩ := h t (by omega)
    by_cases q : so t = 2
    · rw [wF_2 q, wF_2 (a ▸ q), ih, b, c]
    · rw [wF_n q, wF_n (a ▸ q), ih]
theorem wF_name : ∀ {t : Nat}, lgOK n t ofa wi → (∀ i, i < n → wF (n + 1) so ofa wi L0 t i = wF n so ofa wi L1 t i) ∧ wF (n + 1) so ofa wi L0 t n = n
  | 0, _ => ⟨fun i hi => by
    show initL L0 (n + 1) i = initL L1 n i
    rw [show initL L0 (n + 1) i = i from if_pos (by omega), show initL L1 n i = i from if_pos hi], if_pos (by omega)⟩
  | t + 1, hl => by
    have hl' : lgOK n t ofa wi := fun e he => hl e (by omega)
    have ih := wF_name (t := t) hl'
    by_cases h : so t = 2
    · rw [wF_2 h, wF_2 h]
      obtain ⟨hx, hy⟩ := hl t (by omega)
      rw [ih.1 _ hx, ih.1 _ hy]
      have b1 := (wF_root (so := so) (L0 := L1) hl' _ hx).1
      have b2 := (wF_root (so := so) (L0 := L1) hl' _ hy).1
      refine ⟨fun i hi => ?_, ?_⟩
      · unfold jn
        rw [ih.1 i hi]
        by_cases q : wF n so ofa wi L1 t i = max (wF n so ofa wi L1 t (ofa t)) (wF n so ofa wi L1 t (wi t))
        · rw [if_pos ⟨by omega, q⟩, if_pos ⟨hi, q⟩]
        · rw [if_neg (fun z => q z.2), if_neg (fun z => q z.2)]
      · unfold jn
        rw [ih.2, if_neg (fun z => by omega)]
    · rw [wF_n h, wF_n h]; exact ih
end FIRST
