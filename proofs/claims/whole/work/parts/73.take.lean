/-! take: both stay alike -/
theorem lgE_rf {t : Nat} {so ofa wi : Nat → Nat} {fr to : Nat → Int64} : lgE t so ofa wi fr to so ofa wi fr to := fun _ _ => ⟨rfl, rfl, rfl, rfl, fun _ => rfl⟩
theorem tkB_q {B : Nat → Nat → Bool} {R : Nat → Nat} {q : Nat} (h : q ≠ 2) : ∀ j, tkB B R j q = B q
  | 0 => rfl
  | j + 1 => by
    show setB (tkB B R j) (R j) q = B q
    unfold setB; rw [up_n h]; exact tkB_q h j
theorem tkJ_q {J : Nat → Nat → Int64} {R : Nat → Nat} {v : Nat → Int64} {q : Nat} (h : q ≠ 3) : ∀ j, tkJ J R v j q = J q
  | 0 => rfl
  | j + 1 => by
    show setJ (tkJ J R v j) (R j) (v j) q = J q
    unfold setJ; rw [up_n h]; exact tkJ_q h j
theorem tkB_2 {B : Nat → Nat → Bool} {R fr : Nat → Nat} {n : Nat} (hd : dst fr n) (hR : ∀ j, j < n → R j = fr j) : ∀ j, j ≤ n → ∀ r, tkB B R j 2 r = knL (B 2) fr j r
  | 0, _, r => (knL_0 (B 2) fr r).symm
  | j + 1, hj, r => by
    have ih := tkB_2 (B := B) hd hR j (by omega) r
    show setB (tkB B R j) (R j) 2 r = knL (B 2) fr (j + 1) r
    unfold setB knL
    rw [up_s, hR j (by omega), lev_s hd (by omega : j < n)]
    by_cases q : r = fr j
    · rw [q, up_s, decide_eq_true (rfl : fr j = fr j), Bool.or_true, Bool.or_true]
    · rw [up_n q, ih, decide_eq_false q, Bool.or_false]; rfl
theorem tkJ_3 {J : Nat → Nat → Int64} {R fr : Nat → Nat} {v : Nat → Int64} {n : Nat} (hd : dst fr n) (hR : ∀ j, j < n → R j = fr j) : ∀ j, j ≤ n → (∀ i, i < j → tkJ J R v j 3 (fr i) = v i) ∧ ∀ r, levF fr n r = 0 → tkJ J R v j 3 r = J 3 r
  | 0, _ => ⟨fun i hi => absurd hi (Nat.not_lt_zero i), fun _ _ => rfl⟩
  | j + 1, hj => by
    obtain ⟨ih1, ih2⟩ := tkJ_3 (J := J) (v := v) hd hR j (by omega)
    have e : tkJ J R v (j + 1) 3 = va_up (tkJ J R v j 3) (fr j) (v j) := by
      show setJ (tkJ J R v j) (R j) (v j) 3 = _
      unfold setJ; rw [up_s, hR j (by omega)]
    rw [e]
    refine ⟨fun i hi => ?_, fun r hr => ?_⟩
    · by_cases q : i = j
      · rw [q, up_s]
      · rw [up_n (fun z => q (hd i j (by omega) (by omega) z))]; exact ih1 i (by omega)
    · rw [up_n (fun z => by rw [z, lev_dst hd (by omega : j < n) (Nat.le_refl n)] at hr; omega)]; exact ih2 r hr
theorem gd_rows {K : Nat → kRT} {kn : Nat} {L fr : Nat → Nat} {B : Nat → Nat → Bool} {J : Nat → Nat → Int64} {R : Nat → Nat} {v : Nat → Int64} {n : Nat} (hd : dst fr n) (hR : ∀ j, j < n → R j = fr j) (hf : ∀ j, j < n → B 2 (fr j) = false) (hg : gdC K kn L (B 2) (J 3) fr n n v = true) : ∀ i, i < kn → krC L (tkB B R n 2) (tkJ J R v n 3) (K i) = true := by
  intro i hi
  unfold gdC gdF at hg
  have h := allb_iff.mp hg i hi
  unfold hoF at h
  have eB := tkB_2 (B := B) hd hR n (Nat.le_refl n)
  obtain ⟨e1, e2⟩ := tkJ_3 (J := J) (v := v) hd hR n (Nat.le_refl n)
  by_cases q : krF L (tkB B R n 2) (K i) = 0
  · rw [krC_z q]
    have q' := allb_iff.mp (krF_0.mp q)
    rw [if_pos (allb_t (fun j hj => by have := q' j hj; rw [eB] at this; exact this))] at h
    rw [← h]
    unfold krS
    refine soF_congr (fun _ _ => rfl) (fun j hj => ?_)
    have hk := q' j hj
    rw [eB] at hk
    show tkJ J R v n 3 (L ((K i).2.2.2.2.1 j)) = nuL (B 2) (J 3) fr n v (L ((K i).2.2.2.2.1 j))
    unfold nuL
    by_cases hb : B 2 (L ((K i).2.2.2.2.1 j)) = true
    · rw [if_pos hb]
      refine e2 _ (levF_iff.mpr (fun m hm z => ?_))
      rw [← z, hf m hm] at hb; cases hb
    · rw [if_neg hb]
      unfold knL at hk
      have hlv : levF fr n (L ((K i).2.2.2.2.1 j)) ≠ 0 := by
        rcases Bool.or_eq_true_iff.mp hk with z | z
        · exact absurd z hb
        · exact of_decide_eq_true z
      obtain ⟨m, h1, h2, h3⟩ := levF_ne0 hlv
      rw [h3, ← h2]; exact e1 m h1
  · exact krC_n q
section TAKE
variable {In : Nat → Nat} {Nn : Nat → Nat → Nat} {Bn : Nat → Nat → Bool} {Jn : Nat → Nat → Int64} {Ir : Nat → Nat} {Nr : Nat → Nat → Nat} {Jr : Nat → Nat → Int64} {Is : Nat → Nat} {Ns : Nat → Nat → Nat} {Js : Nat → Nat → Int64} {Ic : Nat → Nat} {Nc : Nat → Nat → Nat} {kn : Nat} {K : Nat → kRT} {mn : Nat} {M : Nat → sNT} {I : Nat → Nat} {N : Nat → Nat → Nat} {B : Nat → Nat → Bool} {J : Nat → Nat → Int64}
theorem E_take (R : REL In Nn Bn Jn Ir Nr Jr Is Ns Js Ic Nc kn K mn M I N B J) {k : Nat} {N1 N2 : Nat → Nat → Nat} {B2 : Nat → Nat → Bool} {J1 J2 : Nat → Nat → Int64} (h6 : I 6 + 8 ≤ 6400) (hk : k < I 30) (hT : tkL N1 J1 N J (I 6) (I 29) k) (W : wkT N2 B2 J2 (va_up I 6 (I 6 + I 29)) N1 B J1) : REL In Nn (tkB Bn (fun j => Nn 1 (Ns 0 j)) (Is 1)) (tkJ Jn (fun j => Nn 1 (Ns 0 j)) (fun j => Js 4 (k * 8 + j)) (Is 1)) Ir Nr Jr (va_up (va_up Is 1 0) 2 0) Ns Js Ic Nc kn K mn M (fgI (va_up I 6 (I 6 + I 29))) N2 (fgB B2) J2 := by
  obtain ⟨⟨⟨z1, z2, z3, z4, z5, z6⟩, g, hm, h26⟩, rr, ⟨hl, _, rp⟩, ⟨hrow, _⟩, rm, ⟨⟨y1, y2, y3, y4⟩, ry⟩⟩ := R
  obtain ⟨-, hf, hd, hw⟩ := ry.resolve_left (fun q => by omega)
  obtain ⟨hwj, hwg⟩ := hw k hk
  obtain ⟨⟨t1, t2, t3, t4⟩, t5, t6⟩ := hT
  rw [y1]
  have hR : ∀ j, j < I 29 → (fun j => Nn 1 (Ns 0 j)) j = N 28 j := fun j hj => by show Nn 1 (Ns 0 j) = _; rw [(hf j hj).1]; exact (hf j hj).2.2.1
  have S1 : lgS (I 6) N N1 J J1 := by
    intro e he
    rw [t1, t2, t3, t5, t6 5 (by decide)]
    refine ⟨?_, ?_, ?_, ?_, fun _ => rfl⟩
    · unfold nset; rw [if_neg (by omega)]
    · unfold nset; rw [if_neg (by omega)]
    · unfold nset; rw [if_neg (by omega)]
    · unfold wset; rw [if_neg (by omega)]
  have hl1 : ∀ j, j ≤ I 29 → lgOK (I 0) (I 6 + j) (N1 2) (N1 3) := by
    intro j hj e he
    rcases Nat.lt_or_ge e (I 6) with q | q
    · exact lgOK_S S1 hl e q
    · rw [t2, t3]
      unfold nset
      rw [if_pos (by omega), if_pos (by omega)]
      exact ⟨(hf _ (by omega)).2.1, (hf _ (by omega)).2.1⟩
  have step : ∀ j, j ≤ I 29 → repN (I 0) (I 6 + j) (N1 1) (N1 2) (N1 3) (J1 4) (J1 5) (Nn 1) (tkB Bn (fun j => Nn 1 (Ns 0 j)) j 2) (Bn 4) (tkJ Jn (fun j => Nn 1 (Ns 0 j)) (fun j => Js 4 (k * 8 + j)) j 3) (Jn 5) (Jn 6) := by
    intro j
    induction j with
    | zero => intro _; exact repN_log S1 rp
    | succ j ih =>
      intro hj
      have r0 := ih (by omega)
      have hx := hf j (by omega)
      have e1 : N1 1 (I 6 + j) = 1 := by rw [t1]; unfold nset; rw [if_pos (by omega)]
      have e2 : N1 2 (I 6 + j) = N 28 j := by rw [t2]; unfold nset; rw [if_pos (by omega), show I 6 + j - I 6 = j by omega]
      have e3 : J1 4 (I 6 + j) = Js 4 (k * 8 + j) := by rw [t5]; unfold wset; rw [if_pos (by omega), show I 6 + j - I 6 = j by omega, (hwj j (by omega)).1]
      have T := (T_num lgE_rf (hl1 j (by omega)) r0 hx.2.1 e1 e2 e3).2
      have hkf : tkB Bn (fun j => Nn 1 (Ns 0 j)) j 2 (Nn 1 (N 28 j)) = false := by
        rw [tkB_2 hd hR j (by omega), hx.2.2.1]
        unfold knL
        rw [hx.2.2.2, lev_z hd (by omega : j < I 29)]; rfl
      have T2 := T (by rw [if_neg (by rw [hkf]; decide), hx.2.2.1]; exact (hwj j (by omega)).2)
      have eR : Nn 1 (N 28 j) = Nn 1 (Ns 0 j) := by rw [hx.1]
      have ea : tkB Bn (fun j => Nn 1 (Ns 0 j)) (j + 1) 2 = va_up (tkB Bn (fun j => Nn 1 (Ns 0 j)) j 2) (Nn 1 (N 28 j)) true := by rw [eR]; show setB (tkB Bn (fun j => Nn 1 (Ns 0 j)) j) (Nn 1 (Ns 0 j)) 2 = _; unfold setB; rw [up_s]
      have eb : tkJ Jn (fun j => Nn 1 (Ns 0 j)) (fun j => Js 4 (k * 8 + j)) (j + 1) 3 = va_up (tkJ Jn (fun j => Nn 1 (Ns 0 j)) (fun j => Js 4 (k * 8 + j)) j 3) (Nn 1 (N 28 j)) (Js 4 (k * 8 + j)) := by rw [eR]; show setJ (tkJ Jn (fun j => Nn 1 (Ns 0 j)) (fun j => Js 4 (k * 8 + j)) j) (Nn 1 (Ns 0 j)) (Js 4 (k * 8 + j)) 3 = _; unfold setJ; rw [up_s]
      rw [ea, eb]; exact T2
  have rp' := step (I 29) (Nat.le_refl _)
  have hlf := hl1 (I 29) (Nat.le_refl _)
  have O0 : oth N N1 B B J J1 := ⟨fun q a b c _ => t4 q a b c, fun _ _ _ => rfl, fun q a _ _ _ _ => t6 q a⟩
  have O := oth_tr O0 (oth_wk W)
  have S2 := lgS_wk W (I 6 + I 29)
  have S3 := lgS_tr S1 (lgE_mono S2 (Nat.le_add_right _ _))
  have Rf : refN (I 0) (I 6 + I 29) (N1 1) (N1 2) (N1 3) (J1 4) (J1 5) (N2 20) (B2 21) (B2 22) (J2 23) (J2 24) (J2 25) := wk_ref W hlf
  have hm1 : mOK (va_up I 6 (I 6 + I 29)) N1 := by
    obtain ⟨⟨a0, a1, a2, a3, a4⟩, ⟨b1, b2, b3⟩, ⟨c1, c2, c3, c4⟩, d, e⟩ := hm
    refine ⟨⟨a0, by show I 6 + I 29 ≤ 6400; omega, a2, a3, a4⟩, ⟨?_, ?_, ?_⟩, ⟨?_, ?_, ?_, ?_⟩, ?_, ?_⟩
    · rw [t1]; exact nset_all (P := fun z => z ≤ 2) b1 (fun _ => by decide)
    · rw [t2]; exact nset_all (P := fun z => z < 64) b2 e
    · rw [t3]; exact nset_all (P := fun z => z < 64) b3 e
    · rw [t4 7 (by decide) (by decide) (by decide)]; exact c1
    · rw [t4 10 (by decide) (by decide) (by decide)]; exact c2
    · rw [t4 11 (by decide) (by decide) (by decide)]; exact c3
    · rw [t4 12 (by decide) (by decide) (by decide)]; exact c4
    · rw [t4 20 (by decide) (by decide) (by decide)]; exact d
    · rw [t4 28 (by decide) (by decide) (by decide)]; exact e
  have hm2 := mOK_20 hm1 W.1.2.1 W.1.2.2
  have hm3 : mOK (fgI (va_up I 6 (I 6 + I 29))) N2 := mOK_I hm2 hm2.1.1 hm2.1.2.1 hm2.1.2.2.1 hm2.1.2.2.2.1 hm2.1.2.2.2.2
  refine ⟨⟨⟨z1, z2, z3, z4, z5, z6⟩, g, hm3, fun x => ?_⟩, rR_oth O rr (Nat.le_refl _), ⟨lgOK_S S2 hlf, refN_log S2 Rf, ?_⟩, ⟨fun i hi => rows_oth O (Nat.le_refl _) (hrow i hi), fun i hi => ?_⟩, rM_oth O S3 rm (Nat.le_refl _) (Nat.le_add_right _ _) (Nat.le_refl _), rY_0 rfl rfl rfl rfl⟩
  · show B2 26 x = false
    rw [O.2.1 26 (by decide) (by decide)]; exact h26 x
  · rw [tkB_q (q := 4) (by decide), tkJ_q (q := 5) (by decide), tkJ_q (q := 6) (by decide)]
    exact repN_log S2 rp'
  · exact gd_rows hd hR (fun j hj => (hf j hj).2.2.2) hwg i (by rw [z3]; exact hi)
end TAKE
