/-! label: both search alike -/
theorem levF_congr {fr fr' : Nat → Nat} {x : Nat} : ∀ {n : Nat}, (∀ i, i < n → fr i = fr' i) → levF fr n x = levF fr' n x
  | 0, _ => rfl
  | n + 1, h => by
    show (if levF fr n x ≠ 0 then levF fr n x else if fr n = x then n + 1 else 0) = (if levF fr' n x ≠ 0 then levF fr' n x else if fr' n = x then n + 1 else 0)
    rw [levF_congr (fun i hi => h i (by omega)), h n (by omega)]
/-- the same names are gathered -/
theorem gth_same {pl pl' L L' : Nat → Nat} {K K' : Nat → Bool} {f0 f0' : Nat → Nat} : ∀ m, (∀ i, i < m → pl i = pl' i ∧ L (pl i) = L' (pl' i) ∧ K (L (L (pl i))) = K' (L' (pl' i))) → (gth pl L K 0 f0 m).1 = (gtM pl' L' K' f0' m).1 ∧ ∀ i, i < (gtM pl' L' K' f0' m).1 → (gth pl L K 0 f0 m).2 i = (gtM pl' L' K' f0' m).2 i
  | 0, _ => ⟨rfl, fun i hi => absurd hi (Nat.not_lt_zero i)⟩
  | m + 1, h => by
    obtain ⟨ih1, ih2⟩ := gth_same (f0 := f0) (f0' := f0') m (fun i hi => h i (by omega))
    obtain ⟨h1, h2, h3⟩ := h m (by omega)
    have el : levF (gth pl L K 0 f0 m).2 (gth pl L K 0 f0 m).1 (L (pl m)) = levF (gtM pl' L' K' f0' m).2 (gtM pl' L' K' f0' m).1 (L' (pl' m)) := by
      rw [ih1, h2]; exact levF_congr ih2
    by_cases q : K' (L' (pl' m)) = false ∧ levF (gtM pl' L' K' f0' m).2 (gtM pl' L' K' f0' m).1 (L' (pl' m)) = 0
    · rw [gtM_y q.1 q.2, gth_y (h3.trans q.1) (el.trans q.2)]
      refine ⟨by show _ + 1 = _ + 1; rw [ih1], fun i hi => ?_⟩
      show va_up _ _ _ i = va_up _ _ _ i
      have hi' : i < (gtM pl' L' K' f0' m).1 + 1 := hi
      by_cases z : i = (gtM pl' L' K' f0' m).1
      · rw [ih1, z, up_s, up_s, h2]
      · rw [ih1, up_n z, up_n z]; exact ih2 i (by omega)
    · have e1 : gtM pl' L' K' f0' (m + 1) = gtM pl' L' K' f0' m := if_neg q
      have e2 : gth pl L K 0 f0 (m + 1) = gth pl L K 0 f0 m := if_neg (fun z => q ⟨h3.symm.trans z.1, el.symm.trans z.2⟩)
      rw [e1, e2]; exact ⟨ih1, ih2⟩
theorem gtA_all {pl L : Nat → Nat} {K S : Nat → Bool} {f0 : Nat → Nat} : ∀ m, gtA pl L K S f0 m = allb (fun i => S ((gtM pl L K f0 m).2 i)) (gtM pl L K f0 m).1
  | 0 => rfl
  | m + 1 => by
    have ih := gtA_all (pl := pl) (L := L) (K := K) (S := S) (f0 := f0) m
    by_cases q : K (L (pl m)) = false ∧ levF (gtM pl L K f0 m).2 (gtM pl L K f0 m).1 (L (pl m)) = 0
    · rw [gtM_y q.1 q.2, gtA_y q.1 q.2, ih]
      show _ = allb (fun i => S (va_up (gtM pl L K f0 m).2 (gtM pl L K f0 m).1 (L (pl m)) i)) ((gtM pl L K f0 m).1 + 1)
      rw [allb_s, up_s]
      congr 1
      exact allb_congr (fun i hi => by rw [up_n (by omega)])
    · have e1 : gtM pl L K f0 (m + 1) = gtM pl L K f0 m := if_neg q
      have e2 : gtA pl L K S f0 (m + 1) = gtA pl L K S f0 m := if_neg q
      rw [e1, e2]; exact ih
theorem nxt_congr {hi hi' cur : Nat → Int64} : ∀ {m : Nat}, (∀ j, j < m → hi j = hi' j) → nxt hi cur m = nxt hi' cur m
  | 0, _ => rfl
  | m + 1, h => by
    show (if cur m = hi m then nxt hi cur m else m + 1) = (if cur m = hi' m then nxt hi' cur m else m + 1)
    rw [h m (by omega), nxt_congr (fun j hj => h j (by omega))]
theorem nxt_le {hi cur : Nat → Int64} : ∀ {m : Nat}, nxt hi cur m ≤ m
  | 0 => Nat.le_refl 0
  | m + 1 => by
    have := nxt_le (hi := hi) (cur := cur) (m := m)
    show (if cur m = hi m then nxt hi cur m else m + 1) ≤ m + 1
    split <;> omega
theorem nxt_ne {hi cur : Nat → Int64} {j : Nat} : ∀ {m : Nat}, nxt hi cur m = j + 1 → cur j ≠ hi j
  | 0, h => by cases h
  | m + 1, h => by
    have h' : (if cur m = hi m then nxt hi cur m else m + 1) = j + 1 := h
    by_cases q : cur m = hi m
    · rw [if_pos q] at h'; exact nxt_ne h'
    · rw [if_neg q] at h'
      rw [show j = m by omega]; exact q
theorem it_congr {n : Nat} {lo hi lo' hi' : Nat → Int64} {gd gd' : Nat → (Nat → Int64) → Bool} (hlo : ∀ j, j < n → lo j = lo' j) (hhi : ∀ j, j < n → hi j = hi' j) (hg : ∀ m cur, m ≤ n → gd m cur = gd' m cur) : ∀ k a cur wc acc, a < n → it n lo hi gd k a cur wc acc = it n lo' hi' gd' k a cur wc acc
  | 0, _, _, _, _, _ => rfl
  | k + 1, a, cur, wc, acc, ha => by
    have ih := it_congr hlo hhi hg k
    have e : gd (a + 1) cur = gd' (a + 1) cur := hg _ _ (by omega)
    have eB : ∀ wc acc, itB n lo hi gd k (a + 1) cur wc acc = itB n lo' hi' gd' k (a + 1) cur wc acc := by
      intro wc acc
      unfold itB
      rw [nxt_congr (hi' := hi') (fun j hj => hhi j (by omega))]
      have hle := nxt_le (hi := hi') (cur := cur) (m := a + 1)
      cases hx : nxt hi' cur (a + 1) with
      | zero => rfl
      | succ j => exact ih _ _ _ _ (by omega)
    cases hgd : gd' (a + 1) cur with
    | true =>
      have hgd' := e.trans hgd
      by_cases h1 : a + 1 < n
      · rw [it_down hgd' h1, it_down hgd h1, hlo _ h1]; exact ih _ _ _ _ h1
      · by_cases h2 : wc = 200
        · rw [it_full hgd' h1 h2, it_full hgd h1 h2]
        · rw [it_way hgd' h1 h2, it_way hgd h1 h2]; exact eB _ _
    | false => rw [it_bad (e.trans hgd), it_bad hgd]; exact eB _ _
theorem l_succ {x y : Int64} (h : x ≤ y) (hne : x ≠ y) : x ≤ x + 1 ∧ x + 1 ≤ y := by
  rw [Int64.le_iff_toInt_le] at h
  have h2 : x.toInt ≠ y.toInt := fun q => hne (Int64.toInt_inj.mp q)
  have b1 := Int64.le_toInt x
  have b2 := Int64.toInt_lt y
  have e : (x + 1).toInt = x.toInt + 1 := by
    rw [Int64.toInt_add, show (1 : Int64).toInt = 1 from rfl]
    rw [Int.bmod_def]
    split <;> omega
  rw [Int64.le_iff_toInt_le, Int64.le_iff_toInt_le, e]
  omega
theorem nI_neg {w : Nat} (hw : w ≤ 300) : nI w ≠ -3 ∧ nI w ≠ -4 := by
  constructor
  · intro q
    have := congrArg Int32.toInt q
    rw [nI_toInt (by omega), show (-3 : Int32).toInt = -3 from rfl] at this; omega
  · intro q
    have := congrArg Int32.toInt q
    rw [nI_toInt (by omega), show (-4 : Int32).toInt = -4 from rfl] at this; omega
/-- every way lies within the spans, and is good -/
theorem it_ways {n : Nat} {lo hi : Nat → Int64} {gd : Nat → (Nat → Int64) → Bool} (hl : ∀ j, j < n → lo j ≤ hi j) : ∀ k a cur wc acc, a < n → (∀ j, j ≤ a → lo j ≤ cur j ∧ cur j ≤ hi j) → wc ≤ 200 → (∀ i, i < wc → (∀ j, j < n → lo j ≤ acc i j ∧ acc i j ≤ hi j) ∧ gd n (acc i) = true) → ∀ w, w ≤ 200 → (it n lo hi gd k a cur wc acc).1 = nI w → ∀ i, i < w → (∀ j, j < n → lo j ≤ (it n lo hi gd k a cur wc acc).2.2 i j ∧ (it n lo hi gd k a cur wc acc).2.2 i j ≤ hi j) ∧ gd n ((it n lo hi gd k a cur wc acc).2.2 i) = true
  | 0, a, cur, wc, acc, ha, hc, hw, hacc, w, hw2, hr => by
    rw [it_0] at hr
    exact absurd hr.symm (nI_neg (by omega)).1
  | k + 1, a, cur, wc, acc, ha, hc, hw, hacc, w, hw2, hr => by
    have ih := it_ways (gd := gd) hl k
    have back : ∀ wc acc, wc ≤ 200 → (∀ i, i < wc → (∀ j, j < n → lo j ≤ acc i j ∧ acc i j ≤ hi j) ∧ gd n (acc i) = true) → (itB n lo hi gd k (a + 1) cur wc acc).1 = nI w → ∀ i, i < w → (∀ j, j < n → lo j ≤ (itB n lo hi gd k (a + 1) cur wc acc).2.2 i j ∧ (itB n lo hi gd k (a + 1) cur wc acc).2.2 i j ≤ hi j) ∧ gd n ((itB n lo hi gd k (a + 1) cur wc acc).2.2 i) = true := by
      intro wc acc hw hacc
      have hle := nxt_le (hi := hi) (cur := cur) (m := a + 1)
      unfold itB
      cases hx : nxt hi cur (a + 1) with
      | zero =>
        intro hr i hi
        have hr' : nI wc = nI w := hr
        have := (nI_eq (by omega) (by omega)).mp hr'
        exact hacc i (by omega)
      | succ j =>
        have hne := nxt_ne hx
        have hj := hc j (by omega)
        have hs := l_succ hj.2 hne
        refine ih _ _ _ _ (by omega) (fun m hm => ?_) hw hacc w hw2
        by_cases q : m = j
        · rw [q, up_s]; exact ⟨l_tr hj.1 hs.1, hs.2⟩
        · rw [up_n q]; exact hc m (by omega)
    cases hgd : gd (a + 1) cur with
    | true =>
      by_cases h1 : a + 1 < n
      · rw [it_down hgd h1] at hr ⊢
        refine ih _ _ _ _ h1 (fun m hm => ?_) hw hacc w hw2 hr
        by_cases q : m = a + 1
        · rw [q, up_s]; exact ⟨l_rf _, hl _ h1⟩
        · rw [up_n q]; exact hc m (by omega)
      · by_cases h2 : wc = 200
        · rw [it_full hgd h1 h2] at hr
          exact absurd hr.symm (nI_neg (by omega)).2
        · rw [it_way hgd h1 h2] at hr ⊢
          refine back _ _ (by omega) (fun i hi => ?_) hr
          by_cases q : i = wc
          · rw [q, up_s]; exact ⟨fun j hj => hc j (by omega), by rw [show n = a + 1 by omega]; exact hgd⟩
          · rw [up_n q]; exact hacc i (by omega)
    | false =>
      rw [it_bad hgd] at hr ⊢
      exact back _ _ hw hacc hr
theorem hoF_row {kind many : Nat} {pl pl' : Nat → Nat} {bf bf' : Nat → Int64} {k : Int64} {kn kn' : Nat → Bool} {nu nu' : Nat → Int64} (h1 : ∀ j, j < many → kn (pl j) = kn' (pl' j)) (h2 : ∀ j, j < many → bf j = bf' j) (h3 : ∀ j, j < many → kn (pl j) = true → nu (pl j) = nu' (pl' j)) : hoF kind many pl bf k kn nu = hoF kind many pl' bf' k kn' nu' := by
  unfold hoF
  rw [allb_congr (P := fun j => kn (pl j)) (Q := fun j => kn' (pl' j)) h1]
  by_cases h : allb (fun j => kn' (pl' j)) many = true
  · rw [if_pos h, if_pos h]
    exact soF_congr h2 (fun j hj => h3 j hj (by rw [h1 j hj]; exact allb_iff.mp h j hj))
  · rw [if_neg h, if_neg h]
