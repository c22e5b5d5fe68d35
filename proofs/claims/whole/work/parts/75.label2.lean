/-! label: both answer alike and stay alike -/
theorem gth_mem {pl L : Nat → Nat} {K : Nat → Bool} {f0 : Nat → Nat} : ∀ m j, j < (gth pl L K 0 f0 m).1 → ∃ i, i < m ∧ (gth pl L K 0 f0 m).2 j = L (pl i)
  | 0, j, h => absurd h (Nat.not_lt_zero j)
  | m + 1, j, h => by
    by_cases q : K (L (L (pl m))) = false ∧ levF (gth pl L K 0 f0 m).2 (gth pl L K 0 f0 m).1 (L (pl m)) = 0
    · rw [gth_y q.1 q.2] at h ⊢
      have h' : j < (gth pl L K 0 f0 m).1 + 1 := h
      show ∃ i, i < m + 1 ∧ va_up _ _ _ j = L (pl i)
      by_cases z : j = (gth pl L K 0 f0 m).1
      · rw [z, up_s]; exact ⟨m, by omega, rfl⟩
      · rw [up_n z]
        obtain ⟨i, h1, h2⟩ := gth_mem (pl := pl) (L := L) (K := K) (f0 := f0) m j (by omega)
        exact ⟨i, by omega, h2⟩
    · have e : gth pl L K 0 f0 (m + 1) = gth pl L K 0 f0 m := if_neg q
      rw [e] at h ⊢
      obtain ⟨i, h1, h2⟩ := gth_mem m j h
      exact ⟨i, by omega, h2⟩
theorem lb_same {ga : Bool} {n : Nat} {RS RS' : Int32 × Nat × (Nat → Nat → Int64)} {r r' : Int32} {fn wn t fn' wn' t' : Nat} {th th' : Bool} {W W' : Nat → Nat → Int64} (hRS : ga = true → 1 ≤ n → n ≤ 8 → RS = RS') (h : lbC ga n RS r fn wn t th W) (h' : lbC ga n RS' r' fn' wn' t' th' W') : (r = r' ∧ fn = fn' ∧ wn = wn' ∧ t = t') ∧ ((fn' = 0 ∧ wn' = 0) ∨ (th' = true ∧ ga = true ∧ n ≤ 8 ∧ fn' = n ∧ ((n = 0 ∧ wn' = 1) ∨ (1 ≤ n ∧ wn' ≤ 200 ∧ RS.1 = nI wn' ∧ ∀ i j, i < wn' → j < n → W i j = RS.2.2 i j ∧ W' i j = RS.2.2 i j)))) := by
  rcases h with ⟨a1, a2, a3, a4, a5, a6⟩ | ⟨a1, a2, a3, a4, a5, a6, a7⟩ | ⟨a1, a2, a3, a4, a5, a6, a7⟩ | ⟨a1, a2, a3, a4, a5, a6, a7, a8, a9⟩ | ⟨a1, a2, a3, w, a4, a5, a6, a7, a8, a9, a10, a11⟩
  · rcases h' with ⟨b1, b2, b3, b4, b5, b6⟩ | ⟨b1, _⟩ | ⟨b1, _⟩ | ⟨b1, _⟩ | ⟨b1, _⟩
    · exact ⟨⟨a2.trans b2.symm, a3.trans b3.symm, a4.trans b4.symm, a5.trans b5.symm⟩, Or.inl ⟨b3, b4⟩⟩
    all_goals (rw [a1] at b1; cases b1)
  · rcases h' with ⟨b1, _⟩ | ⟨b1, b2, b3, b4, b5, b6, b7⟩ | ⟨b1, b2, _⟩ | ⟨b1, b2, b3, _⟩ | ⟨b1, b2, b3, _⟩
    · rw [a1] at b1; cases b1
    · exact ⟨⟨a3.trans b3.symm, a4.trans b4.symm, a5.trans b5.symm, a6.trans b6.symm⟩, Or.inl ⟨b4, b5⟩⟩
    all_goals omega
  · rcases h' with ⟨b1, _⟩ | ⟨b1, b2, _⟩ | ⟨b1, b2, b3, b4, b5, b6, b7⟩ | ⟨b1, b2, b3, _⟩ | ⟨b1, b2, b3, _⟩
    · rw [a1] at b1; cases b1
    · omega
    · exact ⟨⟨a3.trans b3.symm, a4.trans b4.symm, a5.trans b5.symm, a6.trans b6.symm⟩, Or.inr ⟨b7, a1, by omega, by omega, Or.inl ⟨a2, b5⟩⟩⟩
    all_goals omega
  · have e := hRS a1 a2 a3
    rcases h' with ⟨b1, _⟩ | ⟨b1, b2, _⟩ | ⟨b1, b2, _⟩ | ⟨b1, b2, b3, b4, b5, b6, b7, b8, b9⟩ | ⟨b1, b2, b3, w', b4, b5, _⟩
    · rw [a1] at b1; cases b1
    · omega
    · omega
    · exact ⟨⟨by rw [a5, b5, e], a6.trans b6.symm, a7.trans b7.symm, by rw [a8, b8, e]⟩, Or.inl ⟨b6, b7⟩⟩
    · rw [e, b5] at a4
      rcases a4 with q | q
      · exact absurd q (nI_neg (by omega)).1
      · exact absurd q (nI_neg (by omega)).2
  · have e := hRS a1 a2 a3
    rcases h' with ⟨b1, _⟩ | ⟨b1, b2, _⟩ | ⟨b1, b2, _⟩ | ⟨b1, b2, b3, b4, _⟩ | ⟨b1, b2, b3, w', b4, b5, b6, b7, b8, b9, b10, b11⟩
    · rw [a1] at b1; cases b1
    · omega
    · omega
    · rw [← e, a5] at b4
      rcases b4 with q | q
      · exact absurd q (nI_neg (by omega)).1
      · exact absurd q (nI_neg (by omega)).2
    · have hw : w = w' := by
        rw [e, b5] at a5
        exact ((nI_eq (by omega) (by omega)).mp a5).symm
      subst hw
      refine ⟨⟨a6.trans b6.symm, a7.trans b7.symm, a8.trans b8.symm, by rw [a9, b9, e]⟩, Or.inr ⟨b10, a1, a3, b7, Or.inr ⟨a2, by omega, by rw [b8]; exact a5, fun i j hi hj => ?_⟩⟩⟩
      rw [b8] at hi
      exact ⟨a11 i j hi hj, by rw [b11 i j hi hj, e]⟩
theorem gdC_fr {K : Nat → kRT} {kn : Nat} {L : Nat → Nat} {B : Nat → Bool} {V : Nat → Int64} {fr fr' : Nat → Nat} {n m : Nat} {cur : Nat → Int64} (h : ∀ i, i < n → fr i = fr' i) (hm : m ≤ n) : gdC K kn L B V fr n m cur = gdC K kn L B V fr' n m cur := by
  unfold gdC gdF
  refine allb_congr fun i _ => hoF_congr (fun j _ => ?_) (fun j _ _ => ?_)
  · unfold knL; rw [levF_congr (fun i hi => h i (by omega))]
  · unfold nuL; rw [levF_congr h]
section LABEL
variable {In : Nat → Nat} {Nn : Nat → Nat → Nat} {Bn : Nat → Nat → Bool} {Jn Jn' : Nat → Nat → Int64} {Ir : Nat → Nat} {Nr : Nat → Nat → Nat} {Jr : Nat → Nat → Int64} {Is Is' : Nat → Nat} {Ns Ns' : Nat → Nat → Nat} {Js Js' : Nat → Nat → Int64} {Ic : Nat → Nat} {Nc : Nat → Nat → Nat} {kn : Nat} {K : Nat → kRT} {mn : Nat} {M : Nat → sNT} {I I2 : Nat → Nat} {N : Nat → Nat → Nat} {B B2 : Nat → Nat → Bool} {J J2 : Nat → Nat → Int64}
theorem E_label (R : REL In Nn Bn Jn Ir Nr Jr Is Ns Js Ic Nc kn K mn M I N B J) {th : Bool} {r r2 : Int32} (hN5 : Ns' 0 = (gth (Nr 1) (Nn 1) (Bn 2) 0 (Ns 0) (Ir 0)).2) (hJ5 : ∀ q, q ≠ 3 → Jn' q = Jn q) (hJ53 : ∀ r, levF (gth (Nr 1) (Nn 1) (Bn 2) 0 (Ns 0) (Ir 0)).2 (gth (Nr 1) (Nn 1) (Bn 2) 0 (Ns 0) (Ir 0)).1 r = 0 → Jn' 3 r = Jn 3 r)
    (hlb : lbC (allb (fun i => Bn 4 (Nn 1 ((gth (Nr 1) (Nn 1) (Bn 2) 0 (Ns 0) (Ir 0)).2 i))) (gth (Nr 1) (Nn 1) (Bn 2) 0 (Ns 0) (Ir 0)).1) (gth (Nr 1) (Nn 1) (Bn 2) 0 (Ns 0) (Ir 0)).1 (rsC (Nn 1) Bn Jn (gth (Nr 1) (Nn 1) (Bn 2) 0 (Ns 0) (Ir 0)).2 (gth (Nr 1) (Nn 1) (Bn 2) 0 (Ns 0) (Ir 0)).1 K kn) r (Is' 1) (Is' 2) (Is' 3) th (fun i j => Js' 4 (i * 8 + j)))
    (hI : ∀ q, q ≠ 9 → q ≠ 29 → q ≠ 30 → q ≠ 31 → I2 q = I q) (hI9 : I2 9 = 0) (hB : ∀ q, q ≠ 26 → q ≠ 32 → B2 q = B q) (hB26 : ∀ x, B2 26 x = false) (hJ : ∀ q, q ≠ 27 → q ≠ 33 → J2 q = J q)
    (hlm : lbC (gtA (N 7) (N 20) (B 21) (B 22) (N 28) (I 9)) (gtM (N 7) (N 20) (B 21) (N 28) (I 9)).1 (rsM I (va_up N 28 (gtM (N 7) (N 20) (B 21) (N 28) (I 9)).2) B J (gtM (N 7) (N 20) (B 21) (N 28) (I 9)).1) r2 (I2 29) (I2 30) (I2 31) (B2 32 0) (fun i j => J2 33 (8 * i + j))) :
    r = r2 ∧ REL In Nn Bn Jn' (va_up Ir 0 0) Nr Jr Is' Ns' Js' Ic Nc kn K mn M I2 (va_up N 28 (gtM (N 7) (N 20) (B 21) (N 28) (I 9)).2) B2 J2 := by
  obtain ⟨⟨⟨z1, z2, z3, z4, z5, z6⟩, ⟨g1, g2, g3⟩, hm, h26⟩, rr, ⟨hl, rf, rp⟩, rk, rm, -⟩ := R
  rw [z2] at hN5 hJ53 hlb
  obtain ⟨st1, st2⟩ := same_tab hl rp rf
  have gs := gth_same (pl := Nr 1) (pl' := N 7) (L := Nn 1) (L' := N 20) (K := Bn 2) (K' := B 21) (f0 := Ns 0) (f0' := N 28) (I 9) (fun i hi => by
    obtain ⟨a, b, c⟩ := rr i hi
    obtain ⟨s1, s2, s3⟩ := st1 _ b
    exact ⟨a, by rw [a, s1], by rw [a, s3, s1]; exact (st2 _ b).1.symm⟩)
  have go := gth_ok (pl := Nr 1) (L := Nn 1) (K := Bn 2) (fr0 := Ns 0) (I 9) (fun i hi => by rw [(rr i hi).1]; exact (st1 _ (rr i hi).2.1).2.2)
  have gmem := gth_mem (pl := Nr 1) (L := Nn 1) (K := Bn 2) (f0 := Ns 0) (I 9)
  have gdst := gtM_dst (N 7) (N 20) (B 21) (N 28) (I 9)
  have gdst' := gth_dst (Nr 1) (Nn 1) (Bn 2) (Ns 0) (I 9)
  have glt := gth_lt (pl := Nr 1) (K := Bn 2) g3 g1 (I 9)
  have glt' := gtM_lt (pl := N 7) (K := B 21) hm.2.2.2.2 hm.2.2.2.1 (I 9)
  have gall := gtA_all (pl := N 7) (L := N 20) (K := B 21) (S := B 22) (f0 := N 28) (I 9)
  generalize hFC : gth (Nr 1) (Nn 1) (Bn 2) 0 (Ns 0) (I 9) = FC at *
  generalize hFM : gtM (N 7) (N 20) (B 21) (N 28) (I 9) = FM at *
  obtain ⟨gn, gf⟩ := gs
  rw [gn] at go gmem hlb hJ53 gdst'
  have flt : ∀ j, j < FM.1 → FC.2 j < I 0 := fun j hj => by
    obtain ⟨i, h1, h2⟩ := gmem j hj
    rw [h2, (rr i h1).1]; exact (st1 _ (rr i h1).2.1).2.1
  have sj : ∀ j, j < FM.1 → B 22 (FC.2 j) = Bn 4 (FC.2 j) ∧ (Bn 4 (FC.2 j) = true → J 24 (FC.2 j) = Jn 5 (FC.2 j) ∧ J 25 (FC.2 j) = Jn 6 (FC.2 j)) := fun j hj => by
    have h := (st2 _ (flt j hj)).2.2
    rw [(go j hj).1] at h
    exact ⟨(h (go j hj).2).1, (h (go j hj).2).2.1⟩
  have ega : gtA (N 7) (N 20) (B 21) (B 22) (N 28) (I 9) = allb (fun i => Bn 4 (Nn 1 (FC.2 i))) FM.1 := by
    rw [gall]
    exact allb_congr (fun i hi => by rw [← gf i hi, (go i hi).1]; exact (sj i hi).1)
  rw [ega] at hlm
  have erow : ∀ i, i < I 15 → ∀ m, m ≤ FM.1 → ∀ cur, hoF (N 10 i) (N 11 i) (fun k => N 12 (32 * i + k)) (fun k => J 13 (32 * i + k)) (J 14 i) (fun x => knL (B 21) FM.2 m (N 20 x)) (fun x => nuL (B 21) (J 23) FM.2 FM.1 cur (N 20 x)) = hoF (K i).2.2.1 (K i).2.1 (K i).2.2.2.2.1 (K i).2.2.2.2.2 (K i).2.2.2.1 (fun x => knL (Bn 2) FC.2 m (Nn 1 x)) (fun x => nuL (Bn 2) (Jn 3) FC.2 FM.1 cur (Nn 1 x)) := by
    intro i hi m hmn cur
    obtain ⟨r1, r2, r3, r4⟩ := rk.1 i hi
    rw [r1, r2, r3]
    refine hoF_row (fun j hj => ?_) (fun j hj => (r4 j hj).2.1.symm) (fun j hj hk => ?_)
    · obtain ⟨q1, q2, q3⟩ := r4 j hj
      show knL (B 21) FM.2 m (N 20 (N 12 (32 * i + j))) = knL (Bn 2) FC.2 m (Nn 1 ((K i).2.2.2.2.1 j))
      rw [q1, (st1 _ q3).1]
      unfold knL
      rw [(st2 _ q3).1, levF_congr (fr := FM.2) (fr' := FC.2) (fun i hi => (gf i (by omega)).symm)]
    · obtain ⟨q1, q2, q3⟩ := r4 j hj
      show nuL (B 21) (J 23) FM.2 FM.1 cur (N 20 (N 12 (32 * i + j))) = nuL (Bn 2) (Jn 3) FC.2 FM.1 cur (Nn 1 ((K i).2.2.2.2.1 j))
      rw [q1, (st1 _ q3).1]
      unfold nuL
      rw [(st2 _ q3).1, levF_congr (fr := FM.2) (fr' := FC.2) (fun i hi => (gf i hi).symm)]
      split
      · rename_i hb; exact (st2 _ q3).2.1 hb
      · rfl
  have egd : ∀ m cur, m ≤ FM.1 → gdC K kn (Nn 1) (Bn 2) (Jn 3) FC.2 FM.1 m cur = gdM I (va_up N 28 FM.2) B J FM.1 m cur := by
    intro m cur hmn
    unfold gdC gdM gdF
    rw [z3]
    exact allb_congr (fun i hi => (erow i hi m hmn cur).symm)
  have hRS : allb (fun i => Bn 4 (Nn 1 (FC.2 i))) FM.1 = true → 1 ≤ FM.1 → FM.1 ≤ 8 → rsC (Nn 1) Bn Jn FC.2 FM.1 K kn = rsM I (va_up N 28 FM.2) B J FM.1 := by
    intro hga h1 _
    have hga := allb_iff.mp hga
    have elo : ∀ j, j < FM.1 → loC Jn (Nn 1) FC.2 j = loM (va_up N 28 FM.2) J j := fun j hj => by
      show Jn 5 (Nn 1 (FC.2 j)) = J 24 (FM.2 j)
      have hb := hga j hj
      rw [(go j hj).1] at hb ⊢
      rw [← gf j hj]; exact ((sj j hj).2 hb).1.symm
    have ehi : ∀ j, j < FM.1 → hiC Jn (Nn 1) FC.2 j = hiM (va_up N 28 FM.2) J j := fun j hj => by
      show Jn 6 (Nn 1 (FC.2 j)) = J 25 (FM.2 j)
      have hb := hga j hj
      rw [(go j hj).1] at hb ⊢
      rw [← gf j hj]; exact ((sj j hj).2 hb).2.symm
    unfold rsC rsM
    rw [elo 0 (by omega)]
    exact it_congr elo ehi egd _ _ _ _ _ (by omega)
  obtain ⟨⟨e1, e2, e3, e4⟩, e5⟩ := lb_same hRS hlb hlm
  have hV : ∀ i, Bn 2 i = true → Jn' 3 i = Jn 3 i := fun i hi => hJ53 i (levF_iff.mpr (fun j hj q => by rw [← q, (go j hj).2] at hi; cases hi))
  have i0 : I2 0 = I 0 := hI 0 (by decide) (by decide) (by decide) (by decide)
  have i6 : I2 6 = I 6 := hI 6 (by decide) (by decide) (by decide) (by decide)
  have i15 : I2 15 = I 15 := hI 15 (by decide) (by decide) (by decide) (by decide)
  have i19 : I2 19 = I 19 := hI 19 (by decide) (by decide) (by decide) (by decide)
  have b21 : B2 21 = B 21 := hB 21 (by decide) (by decide)
  have b22 : B2 22 = B 22 := hB 22 (by decide) (by decide)
  have j4 : J2 4 = J 4 := hJ 4 (by decide) (by decide)
  have j5 : J2 5 = J 5 := hJ 5 (by decide) (by decide)
  have j13 : J2 13 = J 13 := hJ 13 (by decide) (by decide)
  have j14 : J2 14 = J 14 := hJ 14 (by decide) (by decide)
  have j23 : J2 23 = J 23 := hJ 23 (by decide) (by decide)
  have j24 : J2 24 = J 24 := hJ 24 (by decide) (by decide)
  have j25 : J2 25 = J 25 := hJ 25 (by decide) (by decide)
  have rowc : ∀ i n, rowR (K i) N J i n → rowR (K i) (va_up N 28 FM.2) J2 i n := fun i n h => rowR_congr (N := N) (N' := va_up N 28 FM.2) rfl rfl rfl j13 j14 (Nat.le_refl _) h
  refine ⟨e1, ⟨⟨by rw [i0]; exact z1, by rw [hI9]; rfl, by rw [i15]; exact z3, by rw [i19]; exact z4, e4, z6⟩, ⟨g1, g2, by rw [hN5]; exact glt⟩, ?_, hB26⟩, ?_, ?_, ?_, ?_, ?_⟩
  · obtain ⟨a, b, c, d, e⟩ := hm
    exact ⟨⟨by rw [i0]; exact a.1, by rw [i6]; exact a.2.1, by rw [hI9]; exact Nat.zero_le _, by rw [i15]; exact a.2.2.2.1, by rw [i19]; exact a.2.2.2.2⟩, b, c, d, glt'⟩
  · rw [hI9]; exact fun i hi => absurd hi (Nat.not_lt_zero i)
  · rw [i0, i6]
    unfold rT
    rw [b21, b22, j4, j5, j23, j24, j25]
    exact rT_V hJ5 hV (B := B) (J := J) (N := N) ⟨hl, rf, rp⟩
  · rw [i0, i15]
    exact ⟨fun i hi => rowc i _ (rk.1 i hi), (rK_V hV rk).2⟩
  · rw [i19, i0, i6, i15]
    refine ⟨fun j hj => ?_, rm.2⟩
    obtain ⟨a, b, c, d⟩ := rm.1 j hj
    unfold mkR
    rw [j4, j5]
    exact ⟨a, b, c, fun i hi => rowc i _ (d.1 i hi), d.2⟩
  · rw [i0]
    unfold rY
    rcases e5 with ⟨f1, f2⟩ | ⟨f1, f2, f3, f4, f5⟩
    · exact ⟨⟨e2, e3, by omega, by omega⟩, Or.inl ⟨f1, f2⟩⟩
    · refine ⟨⟨e2, e3, by omega, by rcases f5 with q | q <;> omega⟩, Or.inr ⟨f1, ?_, ?_, ?_⟩⟩
      · intro j hj
        rw [f4] at hj
        show Ns' 0 j = FM.2 j ∧ FM.2 j < I 0 ∧ Nn 1 (FM.2 j) = FM.2 j ∧ Bn 2 (FM.2 j) = false
        rw [hN5, ← gf j hj]
        exact ⟨rfl, flt j hj, (go j hj).1, (go j hj).2⟩
      · rw [f4]; exact gdst
      · intro i hi
        rw [f4]
        rcases f5 with ⟨q1, q2⟩ | ⟨q1, q2, q3, q4⟩
        · rw [q1]
          exact ⟨fun j hj => absurd hj (Nat.not_lt_zero j), gd_0 (fun i hi => (rK_V hV rk).2 i (by omega))⟩
        · have hga := allb_iff.mp f2
          have Wy := it_ways (n := FM.1) (lo := loC Jn (Nn 1) FC.2) (hi := hiC Jn (Nn 1) FC.2) (gd := gdC K kn (Nn 1) (Bn 2) (Jn 3) FC.2 FM.1) (fun j hj => by
            show Jn 5 (Nn 1 (FC.2 j)) ≤ Jn 6 (Nn 1 (FC.2 j))
            rw [(go j hj).1]
            have X := rp.2 _ (flt j hj) ((rp.1 _ (flt j hj)).symm.trans (go j hj).1)
            rw [(go j hj).2] at X
            exact (X.2 rfl).2.2.2.2) 5000 0 (va_up (fun _ => 0) 0 (loC Jn (Nn 1) FC.2 0)) 0 (fun _ _ => 0) (by omega) (fun j hj => by
            rw [show j = 0 by omega, up_s]
            refine ⟨l_rf _, ?_⟩
            show Jn 5 (Nn 1 (FC.2 0)) ≤ Jn 6 (Nn 1 (FC.2 0))
            rw [(go 0 (by omega)).1]
            have X := rp.2 _ (flt 0 (by omega)) ((rp.1 _ (flt 0 (by omega))).symm.trans (go 0 (by omega)).1)
            rw [(go 0 (by omega)).2] at X
            exact (X.2 rfl).2.2.2.2) (Nat.zero_le _) (fun i hi => absurd hi (Nat.not_lt_zero i)) _ q2 q3 i hi
          obtain ⟨w1, w2⟩ := Wy
          refine ⟨fun j hj => ?_, ?_⟩
          · obtain ⟨q5, q6⟩ := q4 i j hi hj
            have q5' : Js' 4 (i * 8 + j) = (rsC (Nn 1) Bn Jn FC.2 FM.1 K kn).2.2 i j := q5
            have q6' : J2 33 (8 * i + j) = (rsC (Nn 1) Bn Jn FC.2 FM.1 K kn).2.2 i j := q6
            have w3 := w1 j hj
            have el : loC Jn (Nn 1) FC.2 j = Jn 5 (FM.2 j) := by show Jn 5 (Nn 1 (FC.2 j)) = _; rw [(go j hj).1, gf j hj]
            have eh : hiC Jn (Nn 1) FC.2 j = Jn 6 (FM.2 j) := by show Jn 6 (Nn 1 (FC.2 j)) = _; rw [(go j hj).1, gf j hj]
            rw [el, eh] at w3
            rw [hJ5 5 (by decide), hJ5 6 (by decide), q5']
            exact ⟨q6'.symm, w3⟩
          · rw [gdC_V hV]
            show gdC K kn (Nn 1) (Bn 2) (Jn 3) FM.2 FM.1 FM.1 (fun j => Js' 4 (i * 8 + j)) = true
            rw [gdC_cur (cur := (rsC (Nn 1) Bn Jn FC.2 FM.1 K kn).2.2 i) gdst (Nat.le_refl _) (fun j hj => (q4 i j hi hj).1), ← gdC_fr gf (Nat.le_refl _)]
            exact w2
end LABEL
