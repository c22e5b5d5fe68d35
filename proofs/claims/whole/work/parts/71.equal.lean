/-! equal, name: both answer alike -/
section EQUAL
variable {In : Nat → Nat} {Nn : Nat → Nat → Nat} {Bn : Nat → Nat → Bool} {Jn : Nat → Nat → Int64} {Ir : Nat → Nat} {Nr : Nat → Nat → Nat} {Jr : Nat → Nat → Int64} {Is : Nat → Nat} {Ns : Nat → Nat → Nat} {Js : Nat → Nat → Int64} {Ic : Nat → Nat} {Nc : Nat → Nat → Nat} {kn : Nat} {K : Nat → kRT} {mn : Nat} {M : Nat → sNT} {I : Nat → Nat} {N : Nat → Nat → Nat} {B : Nat → Nat → Bool} {J : Nat → Nat → Int64}
theorem E_one (R : REL In Nn Bn Jn Ir Nr Jr Is Ns Js Ic Nc kn K mn M I N B J) {k k2 : Nat} {N2 : Nat → Nat → Nat} {B2 : Nat → Nat → Bool} {J2 : Nat → Nat → Int64} (h6 : I 6 < 6400) (hk : k < I 0) (hk2 : k2 < I 0) (W : wkT N2 B2 J2 (tlI I) (tlN N (I 6) 2 k k2) B (tlJ J (I 6) 0 0)) {c : Prop} {B' : Nat → Nat → Bool} {J' : Nat → Nat → Int64}
    (hc : consA (fun v => gA (gF (I 0) (N 1) (N 2) (N 3) (I 6)) (I 6) (N 1) (N 2) (J 4) (Nn 1 k) v ∨ gA (gF (I 0) (N 1) (N 2) (N 3) (I 6)) (I 6) (N 1) (N 2) (J 4) (Nn 1 k2) v) (fun u w => gP (gF (I 0) (N 1) (N 2) (N 3) (I 6)) (I 6) (N 1) (N 2) (J 4) (J 5) (Nn 1 k) u w ∨ gP (gF (I 0) (N 1) (N 2) (N 3) (I 6)) (I 6) (N 1) (N 2) (J 4) (J 5) (Nn 1 k2) u w) ↔ c)
    (ho : ∀ r, r < I 0 → r ≠ Nn 1 k → r ≠ Nn 1 k2 → B' 2 r = Bn 2 r ∧ B' 4 r = Bn 4 r ∧ J' 3 r = Jn 3 r ∧ J' 5 r = Jn 5 r ∧ J' 6 r = Jn 6 r)
    (hA : c → repA (fun v => gA (gF (I 0) (N 1) (N 2) (N 3) (I 6)) (I 6) (N 1) (N 2) (J 4) (Nn 1 k) v ∨ gA (gF (I 0) (N 1) (N 2) (N 3) (I 6)) (I 6) (N 1) (N 2) (J 4) (Nn 1 k2) v) (fun u w => gP (gF (I 0) (N 1) (N 2) (N 3) (I 6)) (I 6) (N 1) (N 2) (J 4) (J 5) (Nn 1 k) u w ∨ gP (gF (I 0) (N 1) (N 2) (N 3) (I 6)) (I 6) (N 1) (N 2) (J 4) (J 5) (Nn 1 k2) u w) (B' 2 (min (Nn 1 k) (Nn 1 k2))) (B' 4 (min (Nn 1 k) (Nn 1 k2))) (J' 3 (min (Nn 1 k) (Nn 1 k2))) (J' 5 (min (Nn 1 k) (Nn 1 k2))) (J' 6 (min (Nn 1 k) (Nn 1 k2))))
    (hg : c → B' 2 (min (Nn 1 k) (Nn 1 k2)) = B' 2 (max (Nn 1 k) (Nn 1 k2)) ∧ (B' 2 (max (Nn 1 k) (Nn 1 k2)) = true → J' 3 (min (Nn 1 k) (Nn 1 k2)) = J' 3 (max (Nn 1 k) (Nn 1 k2)))) :
    (wkC N2 B2 J2 (tlI I) (tlN N (I 6) 2 k k2) B (tlJ J (I 6) 0 0) = true ↔ c ∧ allb (fun i => krC (Nn 1) (B' 2) (J' 3) (K i)) (I 15) = true) ∧ (wkC N2 B2 J2 (tlI I) (tlN N (I 6) 2 k k2) B (tlJ J (I 6) 0 0) = true → ∀ N9 : Nat → Nat → Nat, N9 1 = jn (Nn 1) (In 0) (min (Nn 1 k) (Nn 1 k2)) (max (Nn 1 k) (Nn 1 k2)) → REL In N9 B' J' Ir Nr Jr (va_up (va_up Is 1 0) 2 0) Ns Js Ic Nc kn K mn M (fgI (tlI I)) N2 (fgB B2) J2) := by
  have R0 := R
  obtain ⟨⟨⟨z1, _⟩, ⟨g1, _, _⟩, _, _⟩, _, ⟨hl, _, rp⟩, ⟨_, hks⟩, _⟩ := R0
  have T := T_one (x := k) (y := k2) (lgS_tell N J (I 6) 2 k k2 0 0) hl rp hk hk2 (up_s _ _ _) (up_s _ _ _) (up_s _ _ _)
  have rp' : c → repN (I 0) (I 6 + 1) (tlN N (I 6) 2 k k2 1) (tlN N (I 6) 2 k k2 2) (tlN N (I 6) 2 k k2 3) (tlJ J (I 6) 0 0 4) (tlJ J (I 6) 0 0 5) (jn (Nn 1) (I 0) (min (Nn 1 k) (Nn 1 k2)) (max (Nn 1 k) (Nn 1 k2))) (B' 2) (B' 4) (J' 3) (J' 5) (J' 6) := fun q => T.2 _ _ _ _ _ _ (fun _ _ => rfl) ho (hA q)
  have E := E_wk R hk hk2 W (T.1.trans hc) rp'
  have ek : c → allb (fun i => krC (jn (Nn 1) (I 0) (min (Nn 1 k) (Nn 1 k2)) (max (Nn 1 k) (Nn 1 k2))) (B' 2) (J' 3) (K i)) (I 15) = allb (fun i => krC (Nn 1) (B' 2) (J' 3) (K i)) (I 15) := fun q => allb_congr (fun i _ => krC_jn (hg q).1 (hg q).2)
  have E2 : wkC N2 B2 J2 (tlI I) (tlN N (I 6) 2 k k2) B (tlJ J (I 6) 0 0) = true ↔ c ∧ allb (fun i => krC (Nn 1) (B' 2) (J' 3) (K i)) (I 15) = true := by
    rw [E]
    exact and_congr_right (fun q => by rw [ek q])
  refine ⟨E2, fun hw N9 h9 => ?_⟩
  obtain ⟨q, hal⟩ := E2.mp hw
  rw [z1] at h9
  refine E_tell R h6 (by decide) hk hk2 W (fun i => ?_) ?_ ?_
  · rw [h9]; exact jn_lt g1 (by have := g1 k; have := g1 k2; omega) i
  · rw [h9]; exact rp' q
  · rw [h9, ek q]; exact hal
theorem E_equal (R : REL In Nn Bn Jn Ir Nr Jr Is Ns Js Ic Nc kn K mn M I N B J) {k k2 : Nat} {N2 : Nat → Nat → Nat} {B2 : Nat → Nat → Bool} {J2 : Nat → Nat → Int64} {r : Int32} {Q : (Nat → Nat → Bool) → (Nat → Nat → Int64) → Prop} (h6 : I 6 < 6400) (hk : k < I 0) (hk2 : k2 < I 0) (W : wkT N2 B2 J2 (tlI I) (tlN N (I 6) 2 k k2) B (tlJ J (I 6) 0 0)) (hs : agP (Nn 1) Bn Jn K kn k k2 r Q) : r = bI (wkC N2 B2 J2 (tlI I) (tlN N (I 6) 2 k k2) B (tlJ J (I 6) 0 0)) ∧ (wkC N2 B2 J2 (tlI I) (tlN N (I 6) 2 k k2) B (tlJ J (I 6) 0 0) = true → ∃ B' J', Q B' J' ∧ ∀ N9 : Nat → Nat → Nat, N9 1 = jn (Nn 1) (In 0) (min (Nn 1 k) (Nn 1 k2)) (max (Nn 1 k) (Nn 1 k2)) → REL In N9 B' J' Ir Nr Jr (va_up (va_up Is 1 0) 2 0) Ns Js Ic Nc kn K mn M (fgI (tlI I)) N2 (fgB B2) J2) ∧ (wkC N2 B2 J2 (tlI I) (tlN N (I 6) 2 k k2) B (tlJ J (I 6) 0 0) = false → ∃ J', Q Bn J' ∧ (∀ q, q ≠ 3 → J' q = Jn q) ∧ ∀ i, Bn 2 i = true → J' 3 i = Jn 3 i) := by
  have R0 := R
  obtain ⟨⟨⟨z1, _, hkn, _⟩, ⟨g1, _, _⟩, _, _⟩, _, ⟨hl, rf, rp⟩, ⟨_, hks⟩, _⟩ := R0
  have hal : allb (fun i => krC (Nn 1) (Bn 2) (Jn 3) (K i)) (I 15) = true := allb_t hks
  have key : ∀ i, i < I 0 → Nn 1 i < I 0 ∧ gF (I 0) (N 1) (N 2) (N 3) (I 6) (Nn 1 i) = Nn 1 i := fun i hi => by rw [rp.1 i hi]; exact gF_root hl hi
  have Ra := rp.2 _ (key k hk).1 (key k hk).2
  have Rb := rp.2 _ (key k2 hk2).1 (key k2 hk2).2
  have sa := (same_tab hl rp rf).2 k hk
  have sb := (same_tab hl rp rf).2 k2 hk2
  have E1 := @E_one In Nn Bn Jn Ir Nr Jr Is Ns Js Ic Nc kn K mn M I N B J R k k2 N2 B2 J2 h6 hk hk2 W
  generalize hw : wkC N2 B2 J2 (tlI I) (tlN N (I 6) 2 k k2) B (tlJ J (I 6) 0 0) = w at *
  unfold agP stP at hs
  have hmm : (min (Nn 1 k) (Nn 1 k2) = Nn 1 k ∧ max (Nn 1 k) (Nn 1 k2) = Nn 1 k2) ∨ (min (Nn 1 k) (Nn 1 k2) = Nn 1 k2 ∧ max (Nn 1 k) (Nn 1 k2) = Nn 1 k) := by omega
  generalize Nn 1 k = a at *
  generalize Nn 1 k2 = b at *
  have ein : ∀ x u, inS Jn x u = true ↔ Jn 5 x ≤ u ∧ u ≤ Jn 6 x := fun x u => by unfold inS; rw [Bool.and_eq_true, decide_eq_true_eq, decide_eq_true_eq]
  have e2 : ∀ x, setB Bn x 2 = va_up (Bn 2) x true := fun x => up_s _ _ _
  have e3 : ∀ x u, setJ Jn x u 3 = va_up (Jn 3) x u := fun x u => up_s _ _ _
  have e4 : ∀ x, setB Bn x 4 = Bn 4 := fun x => up_n (by decide)
  have e5 : ∀ x u, setJ Jn x u 5 = Jn 5 := fun x u => up_n (by decide)
  have e6 : ∀ x u, setJ Jn x u 6 = Jn 6 := fun x u => up_n (by decide)
  rcases hs with ⟨ha, hst⟩ | ⟨ha, hb, hst⟩ | ⟨ha, hb, h3, h4⟩
  · rw [ha] at Ra
    have Mk := rep_mrk Ra Rb
    rcases hst with ⟨h1, h2, h3⟩ | hrest
    · -- both known
      rw [if_pos h1] at Mk
      have X := E1 (B' := Bn) (J' := Jn) Mk.1 (fun r _ _ _ => ⟨rfl, rfl, rfl, rfl, rfl⟩) (fun q => by
        rcases hmm with m | m
        · rw [m.1, ha]; exact Mk.2 q _ _ _
        · rw [m.1, h1, q]; exact Mk.2 q _ _ _) (fun q => by
        rcases hmm with m | m
        · rw [m.1, m.2]; exact ⟨ha.trans h1.symm, fun _ => q.symm⟩
        · rw [m.1, m.2]; exact ⟨h1.trans ha.symm, fun _ => q⟩)
      by_cases q : Jn 3 b = Jn 3 a
      · have hwt : w = true := X.1.mpr ⟨q, hal⟩
        exact ⟨by rw [h2, decide_eq_true q, hwt], fun _ => ⟨Bn, Jn, h3, X.2 hwt⟩, fun z => (by rw [hwt] at z; cases z)⟩
      · have hwf : w = false := Bool.eq_false_iff.mpr (fun z => q (X.1.mp z).1)
        exact ⟨by rw [h2, decide_eq_false q, hwf], fun z => (by rw [hwf] at z; cases z), fun _ => ⟨Jn, h3, fun _ _ => rfl, fun _ _ => rfl⟩⟩
    · have hbf : Bn 2 b = false := by rcases hrest with q | q | q <;> exact q.1
      have hnb : ¬ Bn 2 b = true := by rw [hbf]; decide
      have hab : a ≠ b := fun z => by rw [z, hbf] at ha; cases ha
      rw [if_neg hnb] at Mk
      have X := E1 (B' := setB Bn b) (J' := setJ Jn b (Jn 3 a)) Mk.1 (fun r _ _ hrb => by rw [e2, e3, e4, e5, e6, up_n hrb, up_n hrb]; exact ⟨rfl, rfl, rfl, rfl, rfl⟩) (fun q => by
        rw [e2, e3, e4, e5, e6]
        rcases hmm with m | m
        · rw [m.1, up_n hab, up_n hab, ha]; exact Mk.2 q _ _ _
        · rw [m.1, up_s, up_s]; exact Mk.2 q _ _ _) (fun q => by
        rw [e2, e3]
        rcases hmm with m | m
        · rw [m.1, m.2, up_n hab, up_n hab, up_s, up_s]; exact ⟨ha, fun _ => rfl⟩
        · rw [m.1, m.2, up_n hab, up_n hab, up_s, up_s]; exact ⟨ha.symm, fun _ => rfl⟩)
      rw [e2, e3] at X
      rcases hrest with ⟨h1, h2, h3, h4⟩ | ⟨h1, h2, h3, h4, h5⟩ | ⟨h1, h2, h3, h4, h5⟩
      · have hwf : w = false := Bool.eq_false_iff.mpr (fun z => by rw [(ein _ _).mpr (X.1.mp z).1] at h2; cases h2)
        exact ⟨by rw [h3, hwf], fun z => (by rw [hwf] at z; cases z), fun _ => ⟨Jn, h4, fun _ _ => rfl, fun _ _ => rfl⟩⟩
      · rw [e2, e3, hkn] at h3
        have hwt : w = true := X.1.mpr ⟨(ein _ _).mp h2, h3⟩
        exact ⟨by rw [h4, hwt], fun _ => ⟨_, _, h5, X.2 hwt⟩, fun z => (by rw [hwt] at z; cases z)⟩
      · rw [e2, e3, hkn] at h3
        have hwf : w = false := Bool.eq_false_iff.mpr (fun z => by rw [(X.1.mp z).2] at h3; cases h3)
        refine ⟨by rw [h4, hwf], fun z => (by rw [hwf] at z; cases z), fun _ => ⟨_, h5, fun q hq => up_n hq, fun i hi => ?_⟩⟩
        rw [e3, up_n (fun z => by rw [z] at hi; exact hnb hi)]
  · rw [hb] at Rb
    have Mk := rep_mrk Rb Ra
    have hna : ¬ Bn 2 a = true := by rw [ha]; decide
    have hab : a ≠ b := fun z => by rw [z, hb] at ha; cases ha
    rw [if_neg hna] at Mk
    have hsw := consA_congr (A := fun v => gA (gF (I 0) (N 1) (N 2) (N 3) (I 6)) (I 6) (N 1) (N 2) (J 4) a v ∨ gA (gF (I 0) (N 1) (N 2) (N 3) (I 6)) (I 6) (N 1) (N 2) (J 4) b v) (P := fun u w => gP (gF (I 0) (N 1) (N 2) (N 3) (I 6)) (I 6) (N 1) (N 2) (J 4) (J 5) a u w ∨ gP (gF (I 0) (N 1) (N 2) (N 3) (I 6)) (I 6) (N 1) (N 2) (J 4) (J 5) b u w) (fun v => or_comm) (fun u w => or_comm)
    rcases hst with ⟨h1, _⟩ | hrest
    · exact absurd h1 hna
    · have X := E1 (B' := setB Bn a) (J' := setJ Jn a (Jn 3 b)) (hsw.trans Mk.1) (fun r _ hra _ => by rw [e2, e3, e4, e5, e6, up_n hra, up_n hra]; exact ⟨rfl, rfl, rfl, rfl, rfl⟩) (fun q => by
        rw [e2, e3, e4, e5, e6]
        refine (repA_congr (fun v => or_comm) (fun u w => or_comm)).mp ?_
        rcases hmm with m | m
        · rw [m.1, up_s, up_s]; exact Mk.2 q _ _ _
        · rw [m.1, up_n (Ne.symm hab), up_n (Ne.symm hab), hb]; exact Mk.2 q _ _ _) (fun q => by
        rw [e2, e3]
        rcases hmm with m | m
        · rw [m.1, m.2, up_n (Ne.symm hab), up_n (Ne.symm hab), up_s, up_s]; exact ⟨hb.symm, fun _ => rfl⟩
        · rw [m.1, m.2, up_n (Ne.symm hab), up_n (Ne.symm hab), up_s, up_s]; exact ⟨hb, fun _ => rfl⟩)
      rw [e2, e3] at X
      rcases hrest with ⟨h1, h2, h3, h4⟩ | ⟨h1, h2, h3, h4, h5⟩ | ⟨h1, h2, h3, h4, h5⟩
      · have hwf : w = false := Bool.eq_false_iff.mpr (fun z => by rw [(ein _ _).mpr (X.1.mp z).1] at h2; cases h2)
        exact ⟨by rw [h3, hwf], fun z => (by rw [hwf] at z; cases z), fun _ => ⟨Jn, h4, fun _ _ => rfl, fun _ _ => rfl⟩⟩
      · rw [e2, e3, hkn] at h3
        have hwt : w = true := X.1.mpr ⟨(ein _ _).mp h2, h3⟩
        exact ⟨by rw [h4, hwt], fun _ => ⟨_, _, h5, X.2 hwt⟩, fun z => (by rw [hwt] at z; cases z)⟩
      · rw [e2, e3, hkn] at h3
        have hwf : w = false := Bool.eq_false_iff.mpr (fun z => by rw [(X.1.mp z).2] at h3; cases h3)
        refine ⟨by rw [h4, hwf], fun z => (by rw [hwf] at z; cases z), fun _ => ⟨_, h5, fun q hq => up_n hq, fun i hi => ?_⟩⟩
        rw [e3, up_n (fun z => by rw [z] at hi; exact hna hi)]
  · rw [ha] at Ra
    rw [hb] at Rb
    have Mg := rep_mrg Ra Rb
    have Sm := sh_sem (J := Jn) ha hb (Ra.2 rfl).2.2.2.2 (Rb.2 rfl).2.2.2.2 (sa.2.2 ha).2.2 (sb.2.2 hb).2.2
    have hoo : ∀ r, r < I 0 → r ≠ a → r ≠ b → shB Bn Jn a b 2 r = Bn 2 r ∧ shB Bn Jn a b 4 r = Bn 4 r ∧ shJ Bn Jn a b 3 r = Jn 3 r ∧ shJ Bn Jn a b 5 r = Jn 5 r ∧ shJ Bn Jn a b 6 r = Jn 6 r := by
      intro r _ hra hrb
      cases hq : shOk Bn Jn a b with
      | false =>
        obtain ⟨f1, f2⟩ := Sm.2.1 hq
        rw [f1, f2]; exact ⟨rfl, rfl, rfl, rfl, rfl⟩
      | true =>
        obtain ⟨f1, f2, f3, _⟩ := Sm.2.2 hq
        obtain ⟨f4, f5, f6⟩ := f3 r hra hrb
        rw [f1, f2, f4, f5, f6]; exact ⟨rfl, rfl, rfl, rfl, rfl⟩
    have hsm : min a b = a ∨ min a b = b := by omega
    have hgm : max a b = a ∨ max a b = b := by omega
    have X := E1 (B' := shB Bn Jn a b) (J' := shJ Bn Jn a b) (Mg.1.trans Sm.1.symm) hoo (fun q => by
      obtain ⟨f1, f2, _, f4⟩ := Sm.2.2 q
      obtain ⟨f5, f6, f7⟩ := f4 _ hsm
      have hK : shB Bn Jn a b 2 (min a b) = false := by rw [f1]; rcases hsm with m | m <;> rw [m] <;> assumption
      rw [hK, f5]
      exact Mg.2 (Sm.1.mp q) _ _ f6 f7 _) (fun q => by
      obtain ⟨f1, f2, _, f4⟩ := Sm.2.2 q
      have hK : Bn 2 (min a b) = false := by rcases hsm with m | m <;> rw [m] <;> assumption
      have hK2 : Bn 2 (max a b) = false := by rcases hgm with m | m <;> rw [m] <;> assumption
      rw [f1, hK, hK2]
      exact ⟨rfl, fun z => (by cases z)⟩)
    have hkk : shOk Bn Jn a b = true → allb (fun i => krC (Nn 1) (shB Bn Jn a b 2) (shJ Bn Jn a b 3) (K i)) (I 15) = true := by
      intro q
      obtain ⟨f1, f2, _, _⟩ := Sm.2.2 q
      rw [f1, f2]; exact hal
    cases hq : shOk Bn Jn a b with
    | true =>
      have hwt : w = true := X.1.mpr ⟨hq, hkk hq⟩
      exact ⟨by rw [h3, hq, hwt], fun _ => ⟨_, _, h4, X.2 hwt⟩, fun z => (by rw [hwt] at z; cases z)⟩
    | false =>
      have hwf : w = false := Bool.eq_false_iff.mpr (fun z => by rw [(X.1.mp z).1] at hq; cases hq)
      obtain ⟨f1, f2⟩ := Sm.2.1 hq
      rw [f1, f2] at h4
      exact ⟨by rw [h3, hq, hwf], fun z => (by rw [hwf] at z; cases z), fun _ => ⟨Jn, h4, fun _ _ => rfl, fun _ _ => rfl⟩⟩
theorem E_name (R : REL In Nn Bn Jn Ir Nr Jr Is Ns Js Ic Nc kn K mn M I N B J) {N2 : Nat → Nat → Nat} {B2 : Nat → Nat → Bool} {J2 : Nat → Nat → Int64} (h0 : I 0 < 64) (W : wkT N2 B2 J2 (va_up I 0 (I 0 + 1)) N B J) : REL (va_up In 0 (In 0 + 1)) (va_up Nn 1 (va_up (Nn 1) (In 0) (In 0))) (va_up (va_up Bn 2 (va_up (Bn 2) (In 0) false)) 4 (va_up (Bn 4) (In 0) false)) (va_up (va_up (va_up Jn 3 (va_up (Jn 3) (In 0) 0)) 5 (va_up (Jn 5) (In 0) (-9223372036854775808))) 6 (va_up (Jn 6) (In 0) 9223372036854775807)) Ir Nr Jr (va_up (va_up Is 1 0) 2 0) Ns Js Ic Nc kn K mn M (fgI (va_up I 0 (I 0 + 1))) N2 (fgB B2) J2 := by
  obtain ⟨⟨⟨z1, z2, z3, z4, z5, z6⟩, ⟨g1, g2, g3⟩, hm, h26⟩, rr, ⟨hl, _, rp⟩, ⟨hrow, hks⟩, rm, _⟩ := R
  rw [z1]
  have hl1 : lgOK (I 0 + 1) (I 6) (N 2) (N 3) := fun e he => ⟨Nat.lt_succ_of_lt (hl e he).1, Nat.lt_succ_of_lt (hl e he).2⟩
  have Rf : refN (I 0 + 1) (I 6) (N 1) (N 2) (N 3) (J 4) (J 5) (N2 20) (B2 21) (B2 22) (J2 23) (J2 24) (J2 25) := wk_ref W hl1
  have O := oth_wk W
  have S2 := lgS_wk W (I 6)
  have hm1 : mOK (va_up I 0 (I 0 + 1)) N := mOK_I hm h0 hm.1.2.1 hm.1.2.2.1 hm.1.2.2.2.1 hm.1.2.2.2.2
  have hm2 := mOK_20 hm1 W.1.2.1 W.1.2.2
  have hm3 : mOK (fgI (va_up I 0 (I 0 + 1))) N2 := mOK_I hm2 hm2.1.1 hm2.1.2.1 hm2.1.2.2.1 hm2.1.2.2.2.1 hm2.1.2.2.2.2
  have rp' : repN (I 0 + 1) (I 6) (N 1) (N 2) (N 3) (J 4) (J 5) (va_up (Nn 1) (I 0) (I 0)) (va_up (Bn 2) (I 0) false) (va_up (Bn 4) (I 0) false) (va_up (Jn 3) (I 0) 0) (va_up (Jn 5) (I 0) (-9223372036854775808)) (va_up (Jn 6) (I 0) 9223372036854775807) := T_name hl rp (fun i hi => by rw [up_n (by omega), up_n (by omega), up_n (by omega), up_n (by omega), up_n (by omega), up_n (by omega)]; exact ⟨rfl, rfl, rfl, rfl, rfl, rfl⟩) (by rw [up_s, up_s, up_s, up_s, up_s]; exact ⟨rfl, rfl, rfl, rfl, rfl⟩)
  have key : ∀ i, i < I 0 → Nn 1 i < I 0 := fun i hi => by rw [rp.1 i hi]; exact (gF_root hl hi).1
  refine ⟨⟨⟨rfl, z2, z3, z4, z5, z6⟩, ⟨up_all (P := fun z => z < 64) g1 h0, g2, g3⟩, hm3, fun x => ?_⟩, rR_oth O rr (Nat.le_succ _), ⟨lgOK_S S2 hl1, refN_log S2 Rf, repN_log S2 rp'⟩, ⟨fun i hi => rows_oth O (Nat.le_succ _) (hrow i hi), fun i hi => ?_⟩, rM_oth O S2 rm (Nat.le_succ _) (Nat.le_refl _) (Nat.le_refl _), rY_0 rfl rfl rfl rfl⟩
  · show B2 26 x = false
    rw [O.2.1 26 (by decide) (by decide)]; exact h26 x
  · have hrw := hrow i hi
    have hi2 := hks i hi
    show krC (va_up (Nn 1) (I 0) (I 0)) (va_up (Bn 2) (I 0) false) (va_up (Jn 3) (I 0) 0) (K i) = true
    have hpl : ∀ j, j < (K i).2.1 → (K i).2.2.2.2.1 j < I 0 := fun j hj => by
      rw [hrw.1] at hj
      rw [(hrw.2.2.2 j hj).1]; exact (hrw.2.2.2 j hj).2.2
    have eL : ∀ j, j < (K i).2.1 → va_up (Nn 1) (I 0) (I 0) ((K i).2.2.2.2.1 j) = Nn 1 ((K i).2.2.2.2.1 j) ∧ Nn 1 ((K i).2.2.2.2.1 j) ≠ I 0 := fun j hj => ⟨up_n (Nat.ne_of_lt (hpl j hj)), Nat.ne_of_lt (key _ (hpl j hj))⟩
    have eF : krF (va_up (Nn 1) (I 0) (I 0)) (va_up (Bn 2) (I 0) false) (K i) = krF (Nn 1) (Bn 2) (K i) := cnt_congr (fun j hj => by rw [(eL j hj).1, up_n (eL j hj).2])
    by_cases q : krF (Nn 1) (Bn 2) (K i) = 0
    · rw [krC_z (eF.trans q)]
      rw [krC_z q] at hi2
      rw [← hi2]
      exact soF_congr (fun _ _ => rfl) (fun j hj => by rw [(eL j hj).1, up_n (eL j hj).2])
    · rw [krC_n (fun z => q (eF.symm.trans z))]
end EQUAL
