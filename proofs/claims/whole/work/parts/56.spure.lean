/-! the class's search, held against the same function -/
def itA (n : Nat) (lo hi : Nat → Int64) (gd : Nat → (Nat → Int64) → Bool) (k a : Nat) (cur : Nat → Int64) (wc : Nat) (acc : Nat → Nat → Int64) : Int32 × Nat × (Nat → Nat → Int64) := if a < n then it n lo hi gd k a (va_up cur a (lo a)) wc acc else if wc = 200 then (-4, 5000 - k, acc) else itB n lo hi gd k a cur (wc + 1) (va_up acc wc cur)
section ITA
variable {n : Nat} {lo hi : Nat → Int64} {gd : Nat → (Nat → Int64) → Bool} {k a wc m : Nat} {cur : Nat → Int64} {acc : Nat → Nat → Int64}
theorem itA_lt (h : a < n) : itA n lo hi gd k a cur wc acc = it n lo hi gd k a (va_up cur a (lo a)) wc acc := if_pos h
theorem itA_full (h : ¬ a < n) (h2 : wc = 200) : itA n lo hi gd k a cur wc acc = (-4, 5000 - k, acc) := by
  unfold itA; rw [if_neg h, if_pos h2]
theorem itA_way (h : ¬ a < n) (h2 : wc ≠ 200) : itA n lo hi gd k a cur wc acc = itB n lo hi gd k a cur (wc + 1) (va_up acc wc cur) := by
  unfold itA; rw [if_neg h, if_neg h2]
theorem it_good (h : gd (a + 1) cur = true) : it n lo hi gd (k + 1) a cur wc acc = itA n lo hi gd k (a + 1) cur wc acc := by
  by_cases h1 : a + 1 < n
  · rw [it_down h h1, itA_lt h1]
  · by_cases h2 : wc = 200
    · rw [it_full h h1 h2, itA_full h1 h2]
    · rw [it_way h h1 h2, itA_way h1 h2]
end ITA
def gdC (K : Nat → kRT) (kn : Nat) (L : Nat → Nat) (K0 : Nat → Bool) (V0 : Nat → Int64) (fr : Nat → Nat) (n : Nat) : Nat → (Nat → Int64) → Bool := gdF kn (fun i => (K i).2.2.1) (fun i => (K i).2.1) (fun i => (K i).2.2.2.2.1) (fun i => (K i).2.2.2.2.2) (fun i => (K i).2.2.2.1) L K0 V0 fr n
def loC (J : Nat → Nat → Int64) (L : Nat → Nat) (fr : Nat → Nat) : Nat → Int64 := fun j => J 5 (L (fr j))
def hiC (J : Nat → Nat → Int64) (L : Nat → Nat) (fr : Nat → Nat) : Nat → Int64 := fun j => J 6 (L (fr j))
/-- what stands fixed while a search runs -/
def tvC (L : Nat → Nat) (B0 : Nat → Nat → Bool) (S0 : Nat → Nat → Int64) (fr : Nat → Nat) (n : Nat) (K : Nat → kRT) (kn : Nat) : Prop := dst fr n ∧ n ≤ 8 ∧ (∀ j, j < n → L (fr j) = fr j ∧ B0 2 (fr j) = false) ∧ (∀ i, i < kn → (S0 5 i).toInt32 = mI (lkC L (B0 2) fr n (K i)))
def tvR (B0 : Nat → Nat → Bool) (J0 : Nat → Nat → Int64) (I0 : Nat → Nat) (S0 : Nat → Nat → Int64) (fr : Nat → Nat) (a : Nat) (cur : Nat → Int64) (k wc : Nat) (acc : Nat → Nat → Int64) (Bn : Nat → Nat → Bool) (Jn : Nat → Nat → Int64) (Is : Nat → Nat) (Js : Nat → Nat → Int64) : Prop :=
  (∀ q, q ≠ 2 → Bn q = B0 q) ∧ (∀ q, q ≠ 3 → Jn q = J0 q) ∧ (∀ r, levF fr (I0 1) r = 0 → Jn 3 r = J0 3 r) ∧ (∀ j, j < a → Jn 3 (fr j) = cur j) ∧ (∀ q, q ≠ 2 → q ≠ 3 → Is q = I0 q) ∧ Is 2 = wc ∧ Is 3 + k = 5000 ∧ wc ≤ 200 ∧ (∀ q, q ≠ 4 → Js q = S0 q) ∧ (∀ i j, i < wc → j < I0 1 → Js 4 (i * 8 + j) = acc i j)
section TV
variable {L : Nat → Nat} {B0 : Nat → Nat → Bool} {J0 : Nat → Nat → Int64} {I0 : Nat → Nat} {S0 : Nat → Nat → Int64} {fr : Nat → Nat} {a : Nat} {cur cur' : Nat → Int64} {k wc : Nat} {acc : Nat → Nat → Int64} {Bn : Nat → Nat → Bool} {Jn : Nat → Nat → Int64} {Is : Nat → Nat} {Js : Nat → Nat → Int64} {K : Nat → kRT} {kn : Nat}
theorem tv_set (C : tvC L B0 S0 fr (I0 1) K kn) (ha : a < I0 1) (T : tvR B0 J0 I0 S0 fr a cur (k + 1) wc acc Bn Jn Is Js) (v : Int64) : tvR B0 J0 I0 S0 fr (a + 1) (va_up cur a v) k wc acc (setB Bn (L (fr a))) (setJ Jn (L (fr a)) v) (va_up Is 3 (Is 3 + 1)) Js := by
  obtain ⟨hd, h8, hr, hl⟩ := C
  obtain ⟨t1, t2, t3, t4, t5, t6, t7, t8, t9, t10⟩ := T
  rw [(hr a ha).1]
  refine ⟨fun q hq => ?_, fun q hq => ?_, fun r h0 => ?_, fun j hj => ?_, fun q h2 h3 => ?_, ?_, ?_, t8, t9, t10⟩
  · unfold setB; rw [up_n hq]; exact t1 q hq
  · unfold setJ; rw [up_n hq]; exact t2 q hq
  · unfold setJ; rw [up_s, up_n (fun e => by rw [e, lev_dst hd ha (Nat.le_refl _)] at h0; omega)]; exact t3 r h0
  · unfold setJ; rw [up_s]; exact tj_up hd ha t4 j hj
  · rw [up_n h3]; exact t5 q h2 h3
  · rw [up_n (by decide)]; exact t6
  · rw [up_s]; omega
theorem tb_set2 (C : tvC L B0 S0 fr (I0 1) K kn) (ha : a < I0 1) (h : ∀ r, r ≠ fr a → Bn 2 r = knL (B0 2) fr a r) (r : Nat) : setB Bn (L (fr a)) 2 r = knL (B0 2) fr (a + 1) r := by
  obtain ⟨hd, h8, hr, hl⟩ := C
  rw [(hr a ha).1]
  unfold setB knL
  rw [up_s, lev_s hd ha]
  by_cases q : r = fr a
  · rw [q, up_s, decide_eq_true (rfl : fr a = fr a), Bool.or_true, Bool.or_true]
  · rw [up_n q, h r q, decide_eq_false q, Bool.or_false]; rfl
theorem tv_cur (T : tvR B0 J0 I0 S0 fr a cur k wc acc Bn Jn Is Js) (h : ∀ j, j < a → cur' j = cur j) : tvR B0 J0 I0 S0 fr a cur' k wc acc Bn Jn Is Js := by
  obtain ⟨t1, t2, t3, t4, t5⟩ := T
  exact ⟨t1, t2, t3, fun j hj => by rw [h j hj]; exact t4 j hj, t5⟩
theorem tv_down (T : tvR B0 J0 I0 S0 fr (a + 1) cur k wc acc Bn Jn Is Js) : tvR B0 J0 I0 S0 fr a cur k wc acc Bn Jn Is Js := by
  obtain ⟨t1, t2, t3, t4, t5⟩ := T
  exact ⟨t1, t2, t3, fun j hj => t4 j (by omega), t5⟩
theorem tv_unset (T : tvR B0 J0 I0 S0 fr a cur k wc acc Bn Jn Is Js) (g : Nat → Bool) : tvR B0 J0 I0 S0 fr a cur k wc acc (va_up Bn 2 g) Jn Is Js := by
  obtain ⟨t1, t2⟩ := T
  exact ⟨fun q hq => by rw [up_n hq]; exact t1 q hq, t2⟩
theorem tb_unset (C : tvC L B0 S0 fr (I0 1) K kn) (ha : a < I0 1) (h : ∀ r, r ≠ fr a → Bn 2 r = knL (B0 2) fr a r) (r : Nat) : va_up Bn 2 (va_up (Bn 2) (L (fr a)) false) 2 r = knL (B0 2) fr a r := by
  obtain ⟨hd, h8, hr, hl⟩ := C
  rw [(hr a ha).1, up_s]
  by_cases q : r = fr a
  · rw [q, up_s]; unfold knL; rw [(hr a ha).2, lev_z hd ha]; rfl
  · rw [up_n q]; exact h r q
theorem tb_dn (C : tvC L B0 S0 fr (I0 1) K kn) (ha : a < I0 1) (h : ∀ r, Bn 2 r = knL (B0 2) fr (a + 1) r) (r : Nat) (hr : r ≠ fr a) : Bn 2 r = knL (B0 2) fr a r := by
  rw [h r]; unfold knL; rw [lev_s C.1 ha, decide_eq_false hr, Bool.or_false]
theorem last_iff {pl L : Nat → Nat} {K0 : Nat → Bool} {fr : Nat → Nat} {n m : Nat} (hd : dst fr n) (hm : m ≤ n) (h8 : n ≤ 8) : ∀ w, lastF pl L K0 fr n w ≤ m ↔ allb (fun j => knL K0 fr m (L (pl j))) w = true
  | 0 => ⟨fun _ => rfl, fun _ => Nat.zero_le m⟩
  | w + 1 => by
    have ih := last_iff (pl := pl) (L := L) (K0 := K0) hd hm h8 w
    rw [allb_s, Bool.and_eq_true, ← ih]
    by_cases hk : K0 (L (pl w)) = true
    · rw [lastF_k hk]
      exact ⟨fun h => ⟨h, by unfold knL; rw [hk]; rfl⟩, fun h => h.1⟩
    · have hk : K0 (L (pl w)) = false := Bool.eq_false_iff.mpr hk
      rw [lastF_u hk]
      have e : knL K0 fr m (L (pl w)) = true ↔ (if levF fr n (L (pl w)) = 0 then 9 else levF fr n (L (pl w))) ≤ m := by
        unfold knL
        rw [hk, Bool.false_or, decide_eq_true_eq]
        constructor
        · intro h
          rw [lev_of hd hm h, if_neg h]
          exact levF_le
        · intro h
          split at h
          · omega
          · rename_i h0
            obtain ⟨j, h1, h2, h3⟩ := levF_ne0 h0
            rw [← h2, lev_dst hd (by omega) hm]; omega
      rw [e]; omega
theorem gd_step (C : tvC L B0 S0 fr (I0 1) K kn) (ha : a < I0 1) (hg : gdC K kn L (B0 2) (J0 3) fr (I0 1) a cur = true) {v : Int64} (T : tvR B0 J0 I0 S0 fr (a + 1) (va_up cur a v) k wc acc Bn Jn Is Js) : allb (fun i => krG L (Jn 3) (lkC L (B0 2) fr (I0 1) (K i)) a (K i)) kn = gdC K kn L (B0 2) (J0 3) fr (I0 1) (a + 1) (va_up cur a v) := by
  obtain ⟨hd, h8, hr, hl⟩ := C
  obtain ⟨t1, t2, t3, t4, t5⟩ := T
  unfold gdC gdF at hg ⊢
  have hg := allb_iff.mp hg
  refine allb_congr fun i hi => ?_
  have hgi := hg i hi
  have hA := last_iff (pl := (K i).2.2.2.2.1) (L := L) (K0 := B0 2) hd (Nat.le_of_lt ha) h8 (K i).2.1
  have hB := last_iff (pl := (K i).2.2.2.2.1) (L := L) (K0 := B0 2) hd (show a + 1 ≤ I0 1 from ha) h8 (K i).2.1
  unfold hoF at hgi ⊢
  have num : ∀ r, knL (B0 2) fr (a + 1) r = true → nuL (B0 2) (J0 3) fr (I0 1) (va_up cur a v) r = Jn 3 r := by
    intro r hk
    unfold nuL
    by_cases hb : B0 2 r = true
    · rw [if_pos hb, t3 r]
      rw [levF_iff]
      intro j hj e
      have := (hr j hj).2
      rw [e, hb] at this; cases this
    · rw [if_neg hb]
      have hlv : levF fr (a + 1) r ≠ 0 := by
        unfold knL at hk
        rcases Bool.or_eq_true_iff.mp hk with q | q
        · exact absurd q hb
        · exact of_decide_eq_true q
      obtain ⟨j, h1, h2, h3⟩ := levF_ne0 hlv
      rw [lev_of hd (show a + 1 ≤ I0 1 from ha) hlv, h3, ← h2]
      exact (t4 j h1).symm
  by_cases h1 : lkC L (B0 2) fr (I0 1) (K i) = a + 1
  · rw [krG_z h1, if_pos (hB.mp (by unfold lkC at h1; omega))]
    unfold krS
    refine soF_congr (fun _ _ => rfl) (fun j hj => ?_)
    have := allb_iff.mp (hB.mp (by unfold lkC at h1; omega)) j hj
    exact (num _ this).symm
  · rw [krG_n h1]
    by_cases h2 : lastF (K i).2.2.2.2.1 L (B0 2) fr (I0 1) (K i).2.1 ≤ a
    · rw [if_pos (hB.mp (by omega))]
      rw [if_pos (hA.mp h2)] at hgi
      rw [← hgi]
      refine soF_congr (fun _ _ => rfl) (fun j hj => ?_)
      have hk := allb_iff.mp (hA.mp h2) j hj
      dsimp only at hk ⊢
      unfold nuL
      by_cases hb : B0 2 (L ((K i).2.2.2.2.1 j)) = true
      · rw [if_pos hb, if_pos hb]
      · rw [if_neg hb, if_neg hb]
        have hlv : levF fr a (L ((K i).2.2.2.2.1 j)) ≠ 0 := by
          unfold knL at hk
          rcases Bool.or_eq_true_iff.mp hk with q | q
          · exact absurd q hb
          · exact of_decide_eq_true q
        obtain ⟨j2, q1, q2, q3⟩ := levF_ne0 hlv
        rw [lev_of hd (Nat.le_of_lt ha) hlv, q3, show j2 + 1 - 1 = j2 from rfl, up_n (by omega)]
    · rw [if_neg (fun q => by have := hB.mpr q; unfold lkC at h1; omega)]
theorem tv_way (hroot : ∀ j, j < I0 1 → L (fr j) = fr j) (h8 : I0 1 ≤ 8) (ha : a = I0 1) (hw : wc ≠ 200) (T : tvR B0 J0 I0 S0 fr a cur k wc acc Bn Jn Is Js) : tvR B0 J0 I0 S0 fr a cur k (wc + 1) (va_up acc wc cur) Bn Jn (va_up Is 2 (Is 2 + 1)) (va_up Js 4 (wset (Js 4) (Is 2 * 8) (Is 1) (fun j => Jn 3 (L (fr j))))) := by
  obtain ⟨t1, t2, t3, t4, t5, t6, t7, t8, t9, t10⟩ := T
  have e1 : Is 1 = I0 1 := t5 1 (by decide) (by decide)
  refine ⟨t1, t2, t3, t4, fun q h2 h3 => by rw [up_n h2]; exact t5 q h2 h3, by rw [up_s, t6], by rw [up_n (by decide)]; exact t7, by omega, fun q hq => by rw [up_n hq]; exact t9 q hq, fun i j hi hj => ?_⟩
  rw [up_s, e1, t6]
  unfold wset
  by_cases q : i = wc
  · rw [q, if_pos (by omega), up_s, show wc * 8 + j - wc * 8 = j by omega]
    show Jn 3 (L (fr j)) = cur j
    rw [hroot j hj]; exact t4 j (by omega)
  · rw [if_neg (by omega), up_n q]; exact t10 i j (by omega) hj
end TV
theorem KS_el {G : fw_G} {f : fw_F} {hl n : Nat} {K : Nat → kRT} (H : KS G f hl n K) {go : Nat → Option Nat} (h5 : ∀ i, i < n → go i = some ((K i).1)) (h6 : ∀ i, n ≤ i → go i = none) : ∀ i y, go i = some y → ∃ j fs, f y = some (j, eB 1 fs) ∧ j ≠ 3500 := by
  intro i y hy
  rcases Nat.lt_or_ge i n with q | q
  · rw [h5 i q] at hy
    obtain ⟨a, N, B, J, h1, h2⟩ := (H.2.1 i q).1
    have e := Option.some.inj hy
    subst e
    exact ⟨_, _, h1.1, by omega⟩
  · rw [h6 i q] at hy; cases hy
theorem MS_el {G : fw_G} {f : fw_F} {hl n : Nat} {K : Nat → sNT} (H : MS G f hl n K) {go : Nat → Option Nat} (h5 : ∀ i, i < n → go i = some ((K i).1)) (h6 : ∀ i, n ≤ i → go i = none) : ∀ i y, go i = some y → ∃ j fs, f y = some (j, eB 2 fs) ∧ j ≠ 3510 := by
  intro i y hy
  rcases Nat.lt_or_ge i n with q | q
  · rw [h5 i q] at hy
    have h1 := (H.2.1 i q).1
    have e := Option.some.inj hy
    subst e
    exact ⟨_, _, h1.1, by omega⟩
  · rw [h6 i q] at hy; cases hy
theorem KS_add {G : fw_G} {f f1 : fw_F} {hl n : Nat} {K : Nat → kRT} (H : KS G f hl n K) (F1 : fw_fr f f1 3500 (3500 + 3)) (k : kRT) (hk : isKR G f (10000 + 10 * n) k) (hok : kOK k) (hn : n < 60) (L : isL G f1 3500 hl (n + 1) (va_up (fun i => (K i).1) n k.1)) : KS G f1 hl (n + 1) (va_up K n k) := by
  obtain ⟨h1, h2, h3⟩ := H
  have e : (fun i => (va_up K n k i).1) = va_up (fun i => (K i).1) n k.1 := by
    funext i
    by_cases q : i = n
    · rw [q, up_s, up_s]
    · rw [up_n q, up_n q]
  refine ⟨by rw [e]; exact L, fun i hi => ?_, by omega⟩
  by_cases q : i = n
  · subst q; rw [up_s]; exact ⟨isKR_fr hk F1 (by omega), hok⟩
  · rw [up_n q]; exact ⟨isKR_fr (h2 i (by omega)).1 F1 (by omega), (h2 i (by omega)).2⟩
theorem MS_add {G : fw_G} {f f1 : fw_F} {hl n : Nat} {K : Nat → sNT} (H : MS G f hl n K) (F1 : fw_fr f f1 3510 (3510 + 3)) (k : sNT) (hk : isSN G f (20000 + 10 * n) k) (hok : sOK k) (hn : n < 40) (L : isL G f1 3510 hl (n + 1) (va_up (fun i => (K i).1) n k.1)) : MS G f1 hl (n + 1) (va_up K n k) := by
  obtain ⟨h1, h2, h3⟩ := H
  have e : (fun i => (va_up K n k i).1) = va_up (fun i => (K i).1) n k.1 := by
    funext i
    by_cases q : i = n
    · rw [q, up_s, up_s]
    · rw [up_n q, up_n q]
  refine ⟨by rw [e]; exact L, fun i hi => ?_, by omega⟩
  by_cases q : i = n
  · subst q; rw [up_s]; exact ⟨o_fr hk F1 (by show 20000 + 10 * i + 7 + 1 ≤ _ ∨ _; omega), hok⟩
  · rw [up_n q]; exact ⟨o_fr (h2 i (by omega)).1 F1 (by show 20000 + 10 * i + 7 + 1 ≤ _ ∨ _; omega), (h2 i (by omega)).2⟩
