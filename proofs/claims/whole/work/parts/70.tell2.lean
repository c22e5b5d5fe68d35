/-! span, give, equal: both answer alike -/
theorem nr_2 {B : Nat → Nat → Bool} {J : Nat → Nat → Int64} {r : Nat} {u v : Int64} : nrB B J r u v 2 = B 2 := by
  unfold nrB; split
  · rw [up_n (by decide)]
  · rfl
theorem nr_3 {B : Nat → Nat → Bool} {J : Nat → Nat → Int64} {r : Nat} {u v : Int64} : nrJ B J r u v 3 = J 3 := by
  unfold nrJ; split
  · rw [up_n (by decide), up_n (by decide)]
  · rfl
theorem nr_o {B : Nat → Nat → Bool} {J : Nat → Nat → Int64} {r : Nat} {u v : Int64} {i : Nat} (h : i ≠ r) : nrB B J r u v 4 i = B 4 i ∧ nrJ B J r u v 5 i = J 5 i ∧ nrJ B J r u v 6 i = J 6 i := by
  refine ⟨?_, ?_, ?_⟩
  · unfold nrB; split
    · rw [up_s, up_n h]
    · rfl
  · unfold nrJ; split
    · rw [up_n (by decide), up_s, up_n h]
    · rfl
  · unfold nrJ; split
    · rw [up_s, up_n h]
    · rfl
theorem nr_r {B : Nat → Nat → Bool} {J : Nat → Nat → Int64} {r : Nat} {u v : Int64} (hk : B 2 r = false) (h : nrOk B J r u v = true) : nrB B J r u v 4 r = true ∧ nrJ B J r u v 5 r = lmax u (J 5 r) ∧ nrJ B J r u v 6 r = lmin v (J 6 r) := by
  rw [nrB_y hk h, nrJ_y hk h]
  exact ⟨by rw [up_s, up_s], by rw [up_n (by decide), up_s, up_s], by rw [up_s, up_s]⟩
theorem nr_iff {B : Nat → Nat → Bool} {J : Nat → Nat → Int64} {r : Nat} {u v : Int64} : nrOk B J r u v = true ↔ (u ≤ v ∧ if B 2 r = true then u ≤ J 3 r ∧ J 3 r ≤ v else lmax u (J 5 r) ≤ lmin v (J 6 r)) := by
  unfold nrOk
  rw [Bool.and_eq_true, decide_eq_true_eq]
  refine and_congr_right (fun _ => ?_)
  split
  · rw [Bool.and_eq_true, decide_eq_true_eq, decide_eq_true_eq]
  · rw [decide_eq_true_eq]
theorem b_iff {a b : Bool} (h : a = true ↔ b = true) : a = b := by
  cases a with
  | true => exact (h.mp rfl).symm
  | false =>
    cases b with
    | false => rfl
    | true => exact h.mpr rfl
/-- one root goes into another that holds the same -/
theorem krC_jn {L : Nat → Nat} {n s g : Nat} {K : Nat → Bool} {V : Nat → Int64} {k : kRT} (hk : K s = K g) (hv : K g = true → V s = V g) : krC (jn L n s g) K V k = krC L K V k := by
  have e : ∀ p, K (jn L n s g p) = K (L p) := by
    intro p
    unfold jn; split
    · rename_i q; rw [q.2]; exact hk
    · rfl
  have eF : krF (jn L n s g) K k = krF L K k := cnt_congr (fun j _ => by rw [e])
  by_cases q : krF L K k = 0
  · rw [krC_z (eF.trans q), krC_z q]
    unfold krS
    refine soF_congr (fun _ _ => rfl) (fun j hj => ?_)
    have := allb_iff.mp (krF_0.mp q) j hj
    unfold jn; split
    · rename_i z; rw [z.2]; exact hv (by rw [← z.2]; exact this)
    · rfl
  · rw [krC_n (fun z => q (eF.symm.trans z)), krC_n q]
section TELL2
variable {In : Nat → Nat} {Nn : Nat → Nat → Nat} {Bn : Nat → Nat → Bool} {Jn : Nat → Nat → Int64} {Ir : Nat → Nat} {Nr : Nat → Nat → Nat} {Jr : Nat → Nat → Int64} {Is : Nat → Nat} {Ns : Nat → Nat → Nat} {Js : Nat → Nat → Int64} {Ic : Nat → Nat} {Nc : Nat → Nat → Nat} {kn : Nat} {K : Nat → kRT} {mn : Nat} {M : Nat → sNT} {I : Nat → Nat} {N : Nat → Nat → Nat} {B : Nat → Nat → Bool} {J : Nat → Nat → Int64}
theorem E_span (R : REL In Nn Bn Jn Ir Nr Jr Is Ns Js Ic Nc kn K mn M I N B J) {k : Nat} {u v : Int64} {N2 : Nat → Nat → Nat} {B2 : Nat → Nat → Bool} {J2 : Nat → Nat → Int64} (h6 : I 6 < 6400) (hk : k < I 0) (W : wkT N2 B2 J2 (tlI I) (tlN N (I 6) 0 k k) B (tlJ J (I 6) u v)) : wkC N2 B2 J2 (tlI I) (tlN N (I 6) 0 k k) B (tlJ J (I 6) u v) = nrOk Bn Jn (Nn 1 k) u v ∧ (nrOk Bn Jn (Nn 1 k) u v = true → REL In Nn (nrB Bn Jn (Nn 1 k) u v) (nrJ Bn Jn (Nn 1 k) u v) Ir Nr Jr (va_up (va_up Is 1 0) 2 0) Ns Js Ic Nc kn K mn M (fgI (tlI I)) N2 (fgB B2) J2) := by
  have R0 := R
  obtain ⟨⟨_, ⟨g1, _, _⟩, _, _⟩, _, ⟨hl, _, rp⟩, ⟨_, hks⟩, _⟩ := R0
  have T := T_spn (u := u) (w := v) (x := k) (lgS_tell N J (I 6) 0 k k u v) hl rp hk (up_s _ _ _) (up_s _ _ _) (up_s _ _ _) (up_s _ _ _)
  have hal : allb (fun i => krC (Nn 1) (Bn 2) (Jn 3) (K i)) (I 15) = true := allb_t hks
  have rp' : nrOk Bn Jn (Nn 1 k) u v = true → repN (I 0) (I 6 + 1) (tlN N (I 6) 0 k k 1) (tlN N (I 6) 0 k k 2) (tlN N (I 6) 0 k k 3) (tlJ J (I 6) u v 4) (tlJ J (I 6) u v 5) (Nn 1) (Bn 2) (nrB Bn Jn (Nn 1 k) u v 4) (Jn 3) (nrJ Bn Jn (Nn 1 k) u v 5) (nrJ Bn Jn (Nn 1 k) u v 6) := fun q => T.2 (nr_iff.mp q) _ _ _ (fun r hr => nr_o hr) (fun hkn => nr_r hkn q)
  have E := E_wk R hk hk W (T.1.trans nr_iff.symm) rp'
  constructor
  · apply b_iff
    rw [E]
    exact ⟨fun q => q.1, fun q => ⟨q, hal⟩⟩
  · intro q
    refine E_tell R h6 (by decide) hk hk W g1 ?_ ?_
    · rw [nr_2, nr_3]; exact rp' q
    · rw [nr_2, nr_3]; exact hal
theorem E_give (R : REL In Nn Bn Jn Ir Nr Jr Is Ns Js Ic Nc kn K mn M I N B J) {k : Nat} {u : Int64} {N2 : Nat → Nat → Nat} {B2 : Nat → Nat → Bool} {J2 : Nat → Nat → Int64} {r : Int32} {Q : (Nat → Nat → Bool) → (Nat → Nat → Int64) → Prop} (h6 : I 6 < 6400) (hk : k < I 0) (W : wkT N2 B2 J2 (tlI I) (tlN N (I 6) 1 k k) B (tlJ J (I 6) u u)) (hs : stP (Nn 1) Bn Jn K kn (Nn 1 k) u r Q) : r = bI (wkC N2 B2 J2 (tlI I) (tlN N (I 6) 1 k k) B (tlJ J (I 6) u u)) ∧ (wkC N2 B2 J2 (tlI I) (tlN N (I 6) 1 k k) B (tlJ J (I 6) u u) = true → ∃ B' J', Q B' J' ∧ REL In Nn B' J' Ir Nr Jr (va_up (va_up Is 1 0) 2 0) Ns Js Ic Nc kn K mn M (fgI (tlI I)) N2 (fgB B2) J2) ∧ (wkC N2 B2 J2 (tlI I) (tlN N (I 6) 1 k k) B (tlJ J (I 6) u u) = false → ∃ J', Q Bn J' ∧ (∀ q, q ≠ 3 → J' q = Jn q) ∧ ∀ i, Bn 2 i = true → J' 3 i = Jn 3 i) := by
  have R0 := R
  obtain ⟨⟨⟨_, _, hkn, _⟩, ⟨g1, _, _⟩, _, _⟩, _, ⟨hl, _, rp⟩, ⟨_, hks⟩, _⟩ := R0
  have T := T_num (u := u) (x := k) (lgS_tell N J (I 6) 1 k k u u) hl rp hk (up_s _ _ _) (up_s _ _ _) (up_s _ _ _)
  have hal : allb (fun i => krC (Nn 1) (Bn 2) (Jn 3) (K i)) (I 15) = true := allb_t hks
  have E := E_wk R hk hk W T.1 T.2
  generalize hw : wkC N2 B2 J2 (tlI I) (tlN N (I 6) 1 k k) B (tlJ J (I 6) u u) = w at *
  rcases hs with ⟨h1, h2, h3⟩ | ⟨h1, h2, h3, h4⟩ | ⟨h1, h2, h3, h4, h5⟩ | ⟨h1, h2, h3, h4, h5⟩
  · rw [if_pos h1] at E
    have eK : va_up (Bn 2) (Nn 1 k) true = Bn 2 := by rw [← h1]; exact up_id _ _
    by_cases q : Jn 3 (Nn 1 k) = u
    · have eV : va_up (Jn 3) (Nn 1 k) u = Jn 3 := by rw [← q]; exact up_id _ _
      rw [eK, eV] at E
      have hwt : w = true := E.mpr ⟨q, hal⟩
      have rp' := T.2 (by rw [if_pos h1]; exact q)
      rw [eK, eV] at rp'
      exact ⟨by rw [h2, decide_eq_true q, hwt], fun _ => ⟨Bn, Jn, h3, E_tell R h6 (by decide) hk hk W g1 rp' hal⟩, fun z => (by rw [hwt] at z; cases z)⟩
    · have hwf : w = false := Bool.eq_false_iff.mpr (fun z => q (E.mp z).1)
      exact ⟨by rw [h2, decide_eq_false q, hwf], fun z => (by rw [hwf] at z; cases z), fun _ => ⟨Jn, h3, fun _ _ => rfl, fun _ _ => rfl⟩⟩
  all_goals have hn1 : ¬ Bn 2 (Nn 1 k) = true := by rw [h1]; decide
  all_goals rw [if_neg hn1] at E
  all_goals have ein : inS Jn (Nn 1 k) u = true ↔ Jn 5 (Nn 1 k) ≤ u ∧ u ≤ Jn 6 (Nn 1 k) := by unfold inS; rw [Bool.and_eq_true, decide_eq_true_eq, decide_eq_true_eq]
  · have hwf : w = false := Bool.eq_false_iff.mpr (fun z => by rw [ein.mpr (E.mp z).1] at h2; cases h2)
    exact ⟨by rw [h3, hwf], fun z => (by rw [hwf] at z; cases z), fun _ => ⟨Jn, h4, fun _ _ => rfl, fun _ _ => rfl⟩⟩
  all_goals have e2 : setB Bn (Nn 1 k) 2 = va_up (Bn 2) (Nn 1 k) true := up_s _ _ _
  all_goals have e3 : setJ Jn (Nn 1 k) u 3 = va_up (Jn 3) (Nn 1 k) u := up_s _ _ _
  all_goals rw [e2, e3, hkn] at h3
  · have hwt : w = true := E.mpr ⟨ein.mp h2, h3⟩
    have rp' := T.2 (by rw [if_neg hn1]; exact ein.mp h2)
    refine ⟨by rw [h4, hwt], fun _ => ⟨_, _, h5, E_tell R h6 (by decide) hk hk W g1 ?_ ?_⟩, fun z => (by rw [hwt] at z; cases z)⟩
    · rw [e2, e3]; exact rp'
    · rw [e2, e3]; exact h3
  · have hwf : w = false := Bool.eq_false_iff.mpr (fun z => by rw [(E.mp z).2] at h3; cases h3)
    refine ⟨by rw [h4, hwf], fun z => (by rw [hwf] at z; cases z), fun _ => ⟨_, h5, fun q hq => up_n hq, fun i hi => ?_⟩⟩
    rw [e3, up_n (fun z => by rw [z] at hi; exact hn1 hi)]
/-- what sharing of spans leaves -/
theorem sh_sem {B : Nat → Nat → Bool} {J : Nat → Nat → Int64} {a b : Nat} (ha : B 2 a = false) (hb : B 2 b = false) (la : J 5 a ≤ J 6 a) (lb : J 5 b ≤ J 6 b) (na : B 4 a = false → J 5 a = -9223372036854775808 ∧ J 6 a = 9223372036854775807) (nb : B 4 b = false → J 5 b = -9223372036854775808 ∧ J 6 b = 9223372036854775807) : (shOk B J a b = true ↔ lmax (J 5 a) (J 5 b) ≤ lmin (J 6 a) (J 6 b)) ∧ (shOk B J a b = false → shB B J a b = B ∧ shJ B J a b = J) ∧ (shOk B J a b = true → shB B J a b 2 = B 2 ∧ shJ B J a b 3 = J 3 ∧ (∀ r, r ≠ a → r ≠ b → shB B J a b 4 r = B 4 r ∧ shJ B J a b 5 r = J 5 r ∧ shJ B J a b 6 r = J 6 r) ∧ ∀ s, s = a ∨ s = b → shB B J a b 4 s = (B 4 a || B 4 b) ∧ (∀ v, shJ B J a b 5 s ≤ v ↔ J 5 a ≤ v ∧ J 5 b ≤ v) ∧ (∀ v, v ≤ shJ B J a b 6 s ↔ v ≤ J 6 a ∧ v ≤ J 6 b)) := by
  have hna : ¬ B 2 a = true := by rw [ha]; decide
  have hnb : ¬ B 2 b = true := by rw [hb]; decide
  cases h4b : B 4 b with
  | false =>
    obtain ⟨b5, b6⟩ := nb h4b
    cases h4a : B 4 a with
    | false =>
      obtain ⟨a5, a6⟩ := na h4a
      obtain ⟨s1, s2, s3⟩ := sh_a (J := J) h4b h4a
      rw [s1, s2, s3]
      refine ⟨⟨fun _ => by rw [a5, b5, a6, b6]; decide, fun _ => rfl⟩, fun z => (by cases z), fun _ => ⟨rfl, rfl, fun r _ _ => ⟨rfl, rfl, rfl⟩, fun s hs => ?_⟩⟩
      rcases hs with rfl | rfl
      · exact ⟨by rw [h4a]; rfl, fun v => by rw [a5, b5]; exact ⟨fun z => ⟨z, z⟩, fun z => z.1⟩, fun v => by rw [a6, b6]; exact ⟨fun z => ⟨z, z⟩, fun z => z.1⟩⟩
      · exact ⟨by rw [h4b]; rfl, fun v => by rw [a5, b5]; exact ⟨fun z => ⟨z, z⟩, fun z => z.1⟩, fun v => by rw [a6, b6]; exact ⟨fun z => ⟨z, z⟩, fun z => z.1⟩⟩
    | true =>
      obtain ⟨s1, s2, s3⟩ := sh_b (J := J) h4b h4a
      have hab : a ≠ b := fun z => by rw [z, h4b] at h4a; cases h4a
      have e1 : nrOk B J b (J 5 a) (J 6 a) = true ↔ lmax (J 5 a) (J 5 b) ≤ lmin (J 6 a) (J 6 b) := by
        rw [nr_iff, if_neg hnb]; exact ⟨fun z => z.2, fun z => ⟨la, z⟩⟩
      rw [s1, s2, s3]
      refine ⟨e1, fun z => ⟨nrB_f z, nrJ_f z⟩, fun z => ⟨nr_2, nr_3, fun r _ hr => nr_o hr, fun s hs => ?_⟩⟩
      rcases hs with rfl | rfl
      · obtain ⟨q1, q2, q3⟩ := nr_o (B := B) (J := J) (r := b) (u := J 5 s) (v := J 6 s) hab
        rw [q1, q2, q3, b5, b6]
        exact ⟨by rw [h4a]; rfl, fun v => ⟨fun z => ⟨z, l_min v⟩, fun z => z.1⟩, fun v => ⟨fun z => ⟨z, l_max v⟩, fun z => z.1⟩⟩
      · obtain ⟨q1, q2, q3⟩ := nr_r hb z
        rw [q1, q2, q3]
        exact ⟨rfl, fun v => lmax_le, fun v => le_lmin⟩
  | true =>
    have e0 : nrOk B J a (J 5 b) (J 6 b) = true ↔ lmax (J 5 a) (J 5 b) ≤ lmin (J 6 a) (J 6 b) := by
      rw [nr_iff, if_neg hna, lmax_le, le_lmin, le_lmin, lmax_le, le_lmin, le_lmin]
      exact ⟨fun z => ⟨⟨z.2.2.2, z.2.2.1⟩, z.2.1.2, z.2.1.1⟩, fun z => ⟨lb, ⟨z.2.2, z.2.1⟩, z.1.2, z.1.1⟩⟩
    cases hok : nrOk B J a (J 5 b) (J 6 b) with
    | false =>
      obtain ⟨s1, s2, s3⟩ := sh_c (J := J) h4b hok
      rw [s1, s2, s3]
      rw [hok] at e0
      exact ⟨e0, fun _ => ⟨rfl, rfl⟩, fun z => (by cases z)⟩
    | true =>
      obtain ⟨q1, q2, q3⟩ := nr_r ha hok
      obtain ⟨s1, s2, s3⟩ := sh_e (J := J) h4b hok q1
      have hc := e0.mp hok
      have hc' := hc
      rw [lmax_le, le_lmin, le_lmin] at hc'
      have hnb' : ¬ nrB B J a (J 5 b) (J 6 b) 2 b = true := by rw [nr_2]; exact hnb
      have j5' : ∀ v, J 5 a ≤ v → J 5 b ≤ v → nrJ B J a (J 5 b) (J 6 b) 5 b ≤ v := by
        intro v z1 z2
        by_cases e : b = a
        · subst e; rw [q2, lmax_le]; exact ⟨z1, z1⟩
        · rw [(nr_o e).2.1]; exact z2
      have j6' : ∀ v, v ≤ J 6 a → v ≤ J 6 b → v ≤ nrJ B J a (J 5 b) (J 6 b) 6 b := by
        intro v z1 z2
        by_cases e : b = a
        · subst e; rw [q3, le_lmin]; exact ⟨z1, z1⟩
        · rw [(nr_o e).2.2]; exact z2
      have ok2 : nrOk (nrB B J a (J 5 b) (J 6 b)) (nrJ B J a (J 5 b) (J 6 b)) b (nrJ B J a (J 5 b) (J 6 b) 5 a) (nrJ B J a (J 5 b) (J 6 b) 6 a) = true := by
        rw [nr_iff, if_neg hnb', q2, q3]
        have c1 : lmax (J 5 b) (J 5 a) ≤ lmin (J 6 b) (J 6 a) := by
          rw [lmax_le, le_lmin, le_lmin]; exact ⟨⟨lb, hc'.2.1⟩, hc'.1.2, la⟩
        refine ⟨c1, ?_⟩
        rw [lmax_le, le_lmin]
        rw [lmax_le, le_lmin, le_lmin] at c1
        refine ⟨⟨by rw [lmax_le, le_lmin, le_lmin]; exact c1, j6' _ ?_ ?_⟩, ?_⟩
        · rw [lmax_le]; exact ⟨c1.1.2, c1.2.2⟩
        · rw [lmax_le]; exact ⟨c1.1.1, c1.2.1⟩
        · rw [le_lmin]
          exact ⟨j5' _ (le_lmin.mpr ⟨c1.2.1, c1.2.2⟩) (le_lmin.mpr ⟨c1.1.1, c1.1.2⟩), j5' _ (j6' _ c1.2.2 c1.2.1) (j6' _ c1.1.2 c1.1.1)⟩
      rw [s1, s2, s3, ok2]
      refine ⟨⟨fun _ => hc, fun _ => rfl⟩, fun z => (by cases z), fun _ => ⟨nr_2.trans nr_2, nr_3.trans nr_3, fun r hra hrb => ?_, fun s hs => ?_⟩⟩
      · obtain ⟨o1, o2, o3⟩ := nr_o (B := nrB B J a (J 5 b) (J 6 b)) (J := nrJ B J a (J 5 b) (J 6 b)) (r := b) (u := nrJ B J a (J 5 b) (J 6 b) 5 a) (v := nrJ B J a (J 5 b) (J 6 b) 6 a) hrb
        rw [o1, o2, o3]; exact nr_o hra
      · obtain ⟨p1, p2, p3⟩ := nr_r (B := nrB B J a (J 5 b) (J 6 b)) (J := nrJ B J a (J 5 b) (J 6 b)) (r := b) (by rw [nr_2]; exact hb) ok2
        by_cases e : s = b
        · rw [e, p1, p2, p3, q2, q3]
          refine ⟨by rw [Bool.or_true], fun v => ?_, fun v => ?_⟩
          · rw [lmax_le, lmax_le]
            exact ⟨fun z => ⟨z.1.2, z.1.1⟩, fun z => ⟨⟨z.2, z.1⟩, j5' v z.1 z.2⟩⟩
          · rw [le_lmin, le_lmin]
            exact ⟨fun z => ⟨z.1.2, z.1.1⟩, fun z => ⟨⟨z.2, z.1⟩, j6' v z.1 z.2⟩⟩
        · have es : s = a := hs.resolve_right e
          obtain ⟨o1, o2, o3⟩ := nr_o (B := nrB B J a (J 5 b) (J 6 b)) (J := nrJ B J a (J 5 b) (J 6 b)) (r := b) (u := nrJ B J a (J 5 b) (J 6 b) 5 a) (v := nrJ B J a (J 5 b) (J 6 b) 6 a) e
          rw [o1, o2, o3, es, q1, q2, q3]
          refine ⟨by rw [Bool.or_true], fun v => ?_, fun v => ?_⟩
          · rw [lmax_le]; exact ⟨fun z => ⟨z.2, z.1⟩, fun z => ⟨z.2, z.1⟩⟩
          · rw [le_lmin]; exact ⟨fun z => ⟨z.2, z.1⟩, fun z => ⟨z.2, z.1⟩⟩
end TELL2
