/-! the class's world: its object, names, row, search, kept rows, saved names -/
def isL (G : fw_G) (f : fw_F) (b h n : Nat) (g : Nat → Nat) : Prop := ∃ md q cap go, f h = some (b, eB 0 [.int (nI md), .ref q, .int (nI n)]) ∧ ((q = G.2.2 ∧ cap = 0) ∨ (f q = some (b + 2, eO G cap go) ∧ 0 < cap)) ∧ n ≤ cap ∧ cap ≤ 96 ∧ (∀ i, i < n → go i = some (g i)) ∧ (∀ i, n ≤ i → go i = none)
theorem isL_fr {G : fw_G} {f f' : fw_F} {b h n lo hi : Nat} {g : Nat → Nat} (H : isL G f b h n g) (fr : fw_fr f f' lo hi) (hd : b + 3 ≤ lo ∨ hi ≤ b) : isL G f' b h n g := by
  obtain ⟨md, q, cap, go, h1, h2, h3⟩ := H
  exact ⟨md, q, cap, go, fr _ _ _ h1 (by omega), h2.imp id (fun d => ⟨fr _ _ _ d.1 (by omega), d.2⟩), h3⟩
theorem isL_ex {G : fw_G} {f f' : fw_F} {b h n : Nat} {g : Nat → Nat} (H : isL G f b h n g) (fr : fw_ex f f') : isL G f' b h n g := by
  obtain ⟨md, q, cap, go, h1, h2, h3⟩ := H
  exact ⟨md, q, cap, go, fr _ _ h1, h2.imp id (fun d => ⟨fr _ _ d.1, d.2⟩), h3⟩
theorem isL_sz {G : fw_G} {f : fw_F} {b h n : Nat} {g : Nat → Nat} (H : isL G f b h n g) : ∃ fs, f h = some (b, eB 0 fs) := by
  obtain ⟨md, q, cap, go, h1, h2⟩ := H
  exact ⟨_, h1⟩
theorem L_size {l : Launch} {G : fw_G} {A : Nat → Prop} {f0 : fw_F} {b h n : Nat} {g : Nat → Nat} (H : isL G f0 b h n g) : Met l yJx4a65c_size_8abf5 wsJx4a65c_size_8abf5 ({ frames := 0, cells := 0, slots := 0, locals := 0 }) (va_Pc [.ref h] (fw_P G A f0)) (vp_Si (fun (r : Int32) => r = nI n)) 0 0 (fun _ => False) := by
  obtain ⟨md, q, cap, go, h1, h2⟩ := H
  exact l_size h1
theorem L_get {l : Launch} {G : fw_G} {A : Nat → Prop} {f0 : fw_F} {b h n : Nat} {g : Nat → Nat} (H : isL G f0 b h n g) (i : Nat) (hi : i < n) : Met l yJx4a65c_get_915e3 wsJx4a65c_get_915e3 ({ frames := 2, cells := 0, slots := 0, locals := 43 }) (va_Pc [.ref h, .int (nI i)] (fw_P G A f0)) (va_Sq (fun (r : Option Nat) => r = some (g i))) 0 0 (fun _ => False) := by
  obtain ⟨md, q, cap, go, h1, h2, h3, h4, h5, h6⟩ := H
  rcases h2 with h2 | h2
  · exact absurd h2.2 (by omega)
  · exact l_get h1 h2.1 i hi h3 (by omega) (h5 i hi)
theorem L_rm {G : fw_G} {f1 : fw_F} {b h i cap md q : Nat} {g : Nat → Nat} {go : Nat → Option Nat} (h1 : f1 h = some (b, eB 0 [.int (nI md), .ref q, .int (nI i)])) (h2 : f1 q = some (b + 2, eO G cap (va_up go i none))) (h3 : i + 1 ≤ cap) (h4 : cap ≤ 96) (h5 : ∀ j, j < i + 1 → go j = some (g j)) (h6 : ∀ j, i + 1 ≤ j → go j = none) : isL G f1 b h i g :=
  ⟨md, q, cap, _, h1, Or.inr ⟨h2, by omega⟩, by omega, h4, fun j hj => by rw [up_n (by omega)]; exact h5 j (by omega), fun j hj => by
    by_cases e : j = i
    · rw [e, up_s]
    · rw [up_n e]; exact h6 j (by omega)⟩
theorem L_ad {G : fw_G} {f1 : fw_F} {b h n cap md q x : Nat} {g : Nat → Nat} {go g2 : Nat → Option Nat} (h1 : f1 h = some (b, eB 0 [.int (nI md), .ref q, .int (nI (n + 1))])) (h2 : f1 q = some (b + 2, eO G cap g2)) (h3 : n + 1 ≤ cap) (h4 : cap ≤ 96) (h5 : ∀ j, j < n → go j = some (g j)) (h6 : ∀ j, n ≤ j → go j = none) (h7 : ∀ i, i < n → g2 i = go i) (h8 : g2 n = some x) (h9 : ∀ i y, g2 i = some y → (i = n ∧ y = x) ∨ go i = some y) : isL G f1 b h (n + 1) (va_up g n x) :=
  ⟨md, q, cap, g2, h1, Or.inr ⟨h2, by omega⟩, h3, h4, fun j hj => by
    by_cases e : j = n
    · rw [e, up_s, h8]
    · rw [up_n e, h7 j (by omega), h5 j (by omega)], fun j hj => by
    cases hz : g2 j with
    | none => rfl
    | some y =>
      rcases h9 j y hz with q | q
      · omega
      · rw [h6 j (by omega)] at q; cases q⟩
/-- a kept row: its address, width, kind, number, places, factors -/
abbrev kRT : Type := Nat × Nat × Nat × Int64 × (Nat → Nat) × (Nat → Int64)
def isKR (G : fw_G) (f : fw_F) (b : Nat) (k : kRT) : Prop := ∃ a N B J, isO G (dK k.2.1) f b k.1 a (fun _ => k.2.2.1) N B J ∧ N 1 = k.2.2.2.2.1 ∧ J 2 0 = k.2.2.2.1 ∧ J 3 = k.2.2.2.2.2
def kOK (k : kRT) : Prop := k.2.1 ≤ 32 ∧ k.2.2.1 ≤ 2 ∧ ∀ i, k.2.2.2.2.1 i < 64
theorem isKR_fr {G : fw_G} {f f' : fw_F} {b lo hi : Nat} {k : kRT} (H : isKR G f b k) (fr : fw_fr f f' lo hi) (hd : b + 5 ≤ lo ∨ hi ≤ b) : isKR G f' b k := by
  obtain ⟨a, N, B, J, h1, h2⟩ := H
  exact ⟨a, N, B, J, o_fr h1 fr (by show b + 4 + 1 ≤ lo ∨ hi ≤ b; omega), h2⟩
theorem o_ex {G : fw_G} {d : o_D} {f f' : fw_F} {b h : Nat} {a : Nat → Nat} {I : Nat → Nat} {N : Nat → Nat → Nat} {B : Nat → Nat → Bool} {J : Nat → Nat → Int64} (ho : isO G d f b h a I N B J) (fr : fw_ex f f') : isO G d f' b h a I N B J := by
  refine ⟨fr _ _ ho.1, fun k hk => ?_⟩
  obtain ⟨h1, h2, h3, h4⟩ := ho.2 k hk
  exact ⟨fun q => fr _ _ (h1 q), fun q => fr _ _ (h2 q), fun q => fr _ _ (h3 q), fun q => fr _ _ (h4 q)⟩
theorem isKR_ex {G : fw_G} {f f' : fw_F} {b : Nat} {k : kRT} (H : isKR G f b k) (fr : fw_ex f f') : isKR G f' b k := by
  obtain ⟨a, N, B, J, h1, h2⟩ := H
  exact ⟨a, N, B, J, o_ex h1 fr, h2⟩
def KS (G : fw_G) (f : fw_F) (hl n : Nat) (K : Nat → kRT) : Prop := isL G f 3500 hl n (fun i => (K i).1) ∧ (∀ i, i < n → isKR G f (10000 + 10 * i) (K i) ∧ kOK (K i)) ∧ n ≤ 60
theorem KS_fr {G : fw_G} {f f' : fw_F} {hl n lo hi : Nat} {K : Nat → kRT} (H : KS G f hl n K) (fr : fw_fr f f' lo hi) (hd : 3503 ≤ lo ∨ hi ≤ 3500) (hd2 : 10000 + 10 * n ≤ lo ∨ hi ≤ 10000) : KS G f' hl n K := by
  obtain ⟨h1, h2, h3⟩ := H
  exact ⟨isL_fr h1 fr (by omega), fun i hi => ⟨isKR_fr (h2 i hi).1 fr (by omega), (h2 i hi).2⟩, h3⟩
theorem KS_ex {G : fw_G} {f f' : fw_F} {hl n : Nat} {K : Nat → kRT} (H : KS G f hl n K) (fr : fw_ex f f') : KS G f' hl n K := by
  obtain ⟨h1, h2, h3⟩ := H
  exact ⟨isL_ex h1 fr, fun i hi => ⟨isKR_ex (h2 i hi).1 fr, (h2 i hi).2⟩, h3⟩
/-- saved names: address, arrays, numbers -/
abbrev sNT : Type := Nat × (Nat → Nat) × (Nat → Nat) × (Nat → Nat → Nat) × (Nat → Nat → Bool) × (Nat → Nat → Int64)
def isSN (G : fw_G) (f : fw_F) (b : Nat) (k : sNT) : Prop := isO G dN f b k.1 k.2.1 k.2.2.1 k.2.2.2.1 k.2.2.2.2.1 k.2.2.2.2.2
def sOK (k : sNT) : Prop := k.2.2.1 0 ≤ 64 ∧ ∀ i, k.2.2.2.1 1 i < 64
def MS (G : fw_G) (f : fw_F) (hl n : Nat) (M : Nat → sNT) : Prop := isL G f 3510 hl n (fun i => (M i).1) ∧ (∀ i, i < n → isSN G f (20000 + 10 * i) (M i) ∧ sOK (M i)) ∧ n ≤ 40
theorem MS_fr {G : fw_G} {f f' : fw_F} {hl n lo hi : Nat} {M : Nat → sNT} (H : MS G f hl n M) (fr : fw_fr f f' lo hi) (hd : 3513 ≤ lo ∨ hi ≤ 3510) (hd2 : 20000 + 10 * n ≤ lo ∨ hi ≤ 20000) : MS G f' hl n M := by
  obtain ⟨h1, h2, h3⟩ := H
  exact ⟨isL_fr h1 fr (by omega), fun i hi => ⟨o_fr (h2 i hi).1 fr (by show 20000 + 10 * i + 7 + 1 ≤ lo ∨ _; omega), (h2 i hi).2⟩, h3⟩
theorem MS_ex {G : fw_G} {f f' : fw_F} {hl n : Nat} {M : Nat → sNT} (H : MS G f hl n M) (fr : fw_ex f f') : MS G f' hl n M := by
  obtain ⟨h1, h2, h3⟩ := H
  exact ⟨isL_ex h1 fr, fun i hi => ⟨o_ex (h2 i hi).1 fr, (h2 i hi).2⟩, h3⟩
def CL (G : fw_G) (f0 f : fw_F) (hc : Nat) (aC an ar as_ : Nat → Nat) (In : Nat → Nat) (Nn : Nat → Nat → Nat) (Bn : Nat → Nat → Bool) (Jn : Nat → Nat → Int64) (Ir : Nat → Nat) (Nr : Nat → Nat → Nat) (Br : Nat → Nat → Bool) (Jr : Nat → Nat → Int64) (Is : Nat → Nat) (Ns : Nat → Nat → Nat) (Bs : Nat → Nat → Bool) (Js : Nat → Nat → Int64) (Ic : Nat → Nat) (Nc : Nat → Nat → Nat) (kn : Nat) (K : Nat → kRT) (mn : Nat) (M : Nat → sNT) : Prop :=
  fw_fr f0 f 3000 100000 ∧ isO G dC f 3400 hc aC Ic Nc (fun _ _ => false) (fun _ _ => 0) ∧ isO G dN f 3100 (aC 0) an In Nn Bn Jn ∧ isO G dR f 3200 (aC 1) ar Ir Nr Br Jr ∧ isO G dS f 3300 (aC 3) as_ Is Ns Bs Js ∧ KS G f (aC 2) kn K ∧ MS G f (aC 4) mn M
section CLS
variable {G : fw_G} {f0 f f1 : fw_F} {hc : Nat} {aC an ar as_ : Nat → Nat} {In In' : Nat → Nat} {Nn Nn' : Nat → Nat → Nat} {Bn Bn' : Nat → Nat → Bool} {Jn Jn' : Nat → Nat → Int64} {Ir Ir' : Nat → Nat} {Nr Nr' : Nat → Nat → Nat} {Br Br' : Nat → Nat → Bool} {Jr Jr' : Nat → Nat → Int64} {Is Is' : Nat → Nat} {Ns Ns' : Nat → Nat → Nat} {Bs Bs' : Nat → Nat → Bool} {Js Js' : Nat → Nat → Int64} {Ic Ic' : Nat → Nat} {Nc Nc' : Nat → Nat → Nat} {kn kn' : Nat} {K K' : Nat → kRT} {mn mn' : Nat} {M M' : Nat → sNT}
theorem CL_n (h : CL G f0 f hc aC an ar as_ In Nn Bn Jn Ir Nr Br Jr Is Ns Bs Js Ic Nc kn K mn M) (F1 : fw_fr f f1 3100 (3100 + 8)) (O : isO G dN f1 3100 (aC 0) an In' Nn' Bn' Jn') : CL G f0 f1 hc aC an ar as_ In' Nn' Bn' Jn' Ir Nr Br Jr Is Ns Bs Js Ic Nc kn K mn M := by
  obtain ⟨h1, h2, h3, h4, h5, h6, h7⟩ := h
  exact ⟨fw_fr_tr h1 (fw_fr_wd F1 (by omega) (by omega)), o_fr h2 F1 (by decide), O, o_fr h4 F1 (by decide), o_fr h5 F1 (by decide), KS_fr h6 F1 (by omega) (by omega), MS_fr h7 F1 (by omega) (by omega)⟩
theorem CL_r (h : CL G f0 f hc aC an ar as_ In Nn Bn Jn Ir Nr Br Jr Is Ns Bs Js Ic Nc kn K mn M) (F1 : fw_fr f f1 3200 (3200 + 4)) (O : isO G dR f1 3200 (aC 1) ar Ir' Nr' Br' Jr') : CL G f0 f1 hc aC an ar as_ In Nn Bn Jn Ir' Nr' Br' Jr' Is Ns Bs Js Ic Nc kn K mn M := by
  obtain ⟨h1, h2, h3, h4, h5, h6, h7⟩ := h
  exact ⟨fw_fr_tr h1 (fw_fr_wd F1 (by omega) (by omega)), o_fr h2 F1 (by decide), o_fr h3 F1 (by decide), O, o_fr h5 F1 (by decide), KS_fr h6 F1 (by omega) (by omega), MS_fr h7 F1 (by omega) (by omega)⟩
theorem CL_s (h : CL G f0 f hc aC an ar as_ In Nn Bn Jn Ir Nr Br Jr Is Ns Bs Js Ic Nc kn K mn M) (F1 : fw_fr f f1 3300 (3300 + 7)) (O : isO G dS f1 3300 (aC 3) as_ Is' Ns' Bs' Js') : CL G f0 f1 hc aC an ar as_ In Nn Bn Jn Ir Nr Br Jr Is' Ns' Bs' Js' Ic Nc kn K mn M := by
  obtain ⟨h1, h2, h3, h4, h5, h6, h7⟩ := h
  exact ⟨fw_fr_tr h1 (fw_fr_wd F1 (by omega) (by omega)), o_fr h2 F1 (by decide), o_fr h3 F1 (by decide), o_fr h4 F1 (by decide), O, KS_fr h6 F1 (by omega) (by omega), MS_fr h7 F1 (by omega) (by omega)⟩
theorem CL_c (h : CL G f0 f hc aC an ar as_ In Nn Bn Jn Ir Nr Br Jr Is Ns Bs Js Ic Nc kn K mn M) (F1 : fw_fr f f1 3400 (3400 + 8)) (O : isO G dC f1 3400 hc aC Ic' Nc' (fun _ _ => false) (fun _ _ => 0)) : CL G f0 f1 hc aC an ar as_ In Nn Bn Jn Ir Nr Br Jr Is Ns Bs Js Ic' Nc' kn K mn M := by
  obtain ⟨h1, h2, h3, h4, h5, h6, h7⟩ := h
  exact ⟨fw_fr_tr h1 (fw_fr_wd F1 (by omega) (by omega)), O, o_fr h3 F1 (by decide), o_fr h4 F1 (by decide), o_fr h5 F1 (by decide), KS_fr h6 F1 (by omega) (by omega), MS_fr h7 F1 (by omega) (by omega)⟩
/-- the kept rows' list changed -/
theorem CL_k (h : CL G f0 f hc aC an ar as_ In Nn Bn Jn Ir Nr Br Jr Is Ns Bs Js Ic Nc kn K mn M) (F1 : fw_fr f f1 3500 (3500 + 3)) (O : KS G f1 (aC 2) kn' K') : CL G f0 f1 hc aC an ar as_ In Nn Bn Jn Ir Nr Br Jr Is Ns Bs Js Ic Nc kn' K' mn M := by
  obtain ⟨h1, h2, h3, h4, h5, h6, h7⟩ := h
  exact ⟨fw_fr_tr h1 (fw_fr_wd F1 (by omega) (by omega)), o_fr h2 F1 (by decide), o_fr h3 F1 (by decide), o_fr h4 F1 (by decide), o_fr h5 F1 (by decide), O, MS_fr h7 F1 (by omega) (by omega)⟩
/-- the saved names' list changed -/
theorem CL_m (h : CL G f0 f hc aC an ar as_ In Nn Bn Jn Ir Nr Br Jr Is Ns Bs Js Ic Nc kn K mn M) (F1 : fw_fr f f1 3510 (3510 + 3)) (O : MS G f1 (aC 4) mn' M') : CL G f0 f1 hc aC an ar as_ In Nn Bn Jn Ir Nr Br Jr Is Ns Bs Js Ic Nc kn K mn' M' := by
  obtain ⟨h1, h2, h3, h4, h5, h6, h7⟩ := h
  exact ⟨fw_fr_tr h1 (fw_fr_wd F1 (by omega) (by omega)), o_fr h2 F1 (by decide), o_fr h3 F1 (by decide), o_fr h4 F1 (by decide), o_fr h5 F1 (by decide), KS_fr h6 F1 (by omega) (by omega), O⟩
/-- a new kept row is laid -/
theorem CL_kb (h : CL G f0 f hc aC an ar as_ In Nn Bn Jn Ir Nr Br Jr Is Ns Bs Js Ic Nc kn K mn M) (F1 : fw_fr f f1 (10000 + 10 * kn) (10000 + 10 * kn + 5)) : CL G f0 f1 hc aC an ar as_ In Nn Bn Jn Ir Nr Br Jr Is Ns Bs Js Ic Nc kn K mn M := by
  obtain ⟨h1, h2, h3, h4, h5, h6, h7⟩ := h
  have hk := h6.2.2
  exact ⟨fw_fr_tr h1 (fw_fr_wd F1 (by omega) (by omega)), o_fr h2 F1 (Or.inl (by show 3400 + 7 + 1 ≤ _; omega)), o_fr h3 F1 (Or.inl (by show 3100 + 7 + 1 ≤ _; omega)), o_fr h4 F1 (Or.inl (by show 3200 + 3 + 1 ≤ _; omega)), o_fr h5 F1 (Or.inl (by show 3300 + 6 + 1 ≤ _; omega)), KS_fr h6 F1 (by omega) (by omega), MS_fr h7 F1 (by omega) (by omega)⟩
/-- new saved names are laid, or those at j are written -/
theorem CL_mb (h : CL G f0 f hc aC an ar as_ In Nn Bn Jn Ir Nr Br Jr Is Ns Bs Js Ic Nc kn K mn M) (F1 : fw_fr f f1 (20000 + 10 * mn) (20000 + 10 * mn + 8)) : CL G f0 f1 hc aC an ar as_ In Nn Bn Jn Ir Nr Br Jr Is Ns Bs Js Ic Nc kn K mn M := by
  obtain ⟨h1, h2, h3, h4, h5, h6, h7⟩ := h
  have hk := h6.2.2
  have hm := h7.2.2
  exact ⟨fw_fr_tr h1 (fw_fr_wd F1 (by omega) (by omega)), o_fr h2 F1 (Or.inl (by show 3400 + 7 + 1 ≤ _; omega)), o_fr h3 F1 (Or.inl (by show 3100 + 7 + 1 ≤ _; omega)), o_fr h4 F1 (Or.inl (by show 3200 + 3 + 1 ≤ _; omega)), o_fr h5 F1 (Or.inl (by show 3300 + 6 + 1 ≤ _; omega)), by
    obtain ⟨g1, g2, g3⟩ := h6
    exact ⟨isL_fr g1 F1 (by omega), fun i hi => ⟨isKR_fr (g2 i hi).1 F1 (by omega), (g2 i hi).2⟩, g3⟩, MS_fr h7 F1 (by omega) (by omega)⟩
theorem CL_mw (h : CL G f0 f hc aC an ar as_ In Nn Bn Jn Ir Nr Br Jr Is Ns Bs Js Ic Nc kn K mn M) {j : Nat} (hj : j < mn) (F1 : fw_fr f f1 (20000 + 10 * j) (20000 + 10 * j + 8)) (x : sNT) (hx : x.1 = (M j).1) (O : isSN G f1 (20000 + 10 * j) x) (hs : sOK x) : CL G f0 f1 hc aC an ar as_ In Nn Bn Jn Ir Nr Br Jr Is Ns Bs Js Ic Nc kn K mn (va_up M j x) := by
  obtain ⟨h1, h2, h3, h4, h5, h6, h7⟩ := h
  have hk := h6.2.2
  have hm := h7.2.2
  refine ⟨fw_fr_tr h1 (fw_fr_wd F1 (by omega) (by omega)), o_fr h2 F1 (Or.inl (by show 3400 + 7 + 1 ≤ _; omega)), o_fr h3 F1 (Or.inl (by show 3100 + 7 + 1 ≤ _; omega)), o_fr h4 F1 (Or.inl (by show 3200 + 3 + 1 ≤ _; omega)), o_fr h5 F1 (Or.inl (by show 3300 + 6 + 1 ≤ _; omega)), ?_, ?_⟩
  · obtain ⟨g1, g2, g3⟩ := h6
    exact ⟨isL_fr g1 F1 (by omega), fun i hi => ⟨isKR_fr (g2 i hi).1 F1 (by omega), (g2 i hi).2⟩, g3⟩
  · obtain ⟨g1, g2, g3⟩ := h7
    have e : (fun i => (va_up M j x i).1) = fun i => (M i).1 := by
      funext i
      by_cases q : i = j
      · rw [q, up_s, hx]
      · rw [up_n q]
    refine ⟨by rw [e]; exact isL_fr g1 F1 (by omega), fun i hi => ?_, g3⟩
    by_cases q : i = j
    · subst q; rw [up_s]; exact ⟨O, hs⟩
    · rw [up_n q]; exact ⟨o_fr (g2 i hi).1 F1 (by show 20000 + 10 * i + 7 + 1 ≤ _ ∨ _; omega), (g2 i hi).2⟩
theorem CL_ex (h : CL G f0 f hc aC an ar as_ In Nn Bn Jn Ir Nr Br Jr Is Ns Bs Js Ic Nc kn K mn M) (F1 : fw_ex f f1) : CL G f0 f1 hc aC an ar as_ In Nn Bn Jn Ir Nr Br Jr Is Ns Bs Js Ic Nc kn K mn M := by
  obtain ⟨h1, h2, h3, h4, h5, h6, h7⟩ := h
  exact ⟨fun q i x hq hi => F1 _ _ (h1 q i x hq hi), o_ex h2 F1, o_ex h3 F1, o_ex h4 F1, o_ex h5 F1, KS_ex h6 F1, MS_ex h7 F1⟩
theorem CL_rf (h : CL G f0 f hc aC an ar as_ In Nn Bn Jn Ir Nr Br Jr Is Ns Bs Js Ic Nc kn K mn M) : CL G f f hc aC an ar as_ In Nn Bn Jn Ir Nr Br Jr Is Ns Bs Js Ic Nc kn K mn M := ⟨fw_fr_rf _ _ _, h.2⟩
theorem CL_tr (h : CL G f0 f hc aC an ar as_ In Nn Bn Jn Ir Nr Br Jr Is Ns Bs Js Ic Nc kn K mn M) (h2 : CL G f f1 hc aC an ar as_ In' Nn' Bn' Jn' Ir' Nr' Br' Jr' Is' Ns' Bs' Js' Ic' Nc' kn' K' mn' M') : CL G f0 f1 hc aC an ar as_ In' Nn' Bn' Jn' Ir' Nr' Br' Jr' Is' Ns' Bs' Js' Ic' Nc' kn' K' mn' M' := ⟨fw_fr_tr h.1 h2.1, h2.2⟩
end CLS
