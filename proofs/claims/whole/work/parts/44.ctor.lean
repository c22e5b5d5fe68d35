/-! objects while they are made -/
def pA (f : fw_F) (b h ci : Nat) (fs : List Value) (l : List (Nat × Nat × va_E)) : Prop := f h = some (b, eB ci fs) ∧ ∀ x ∈ l, x.1 ≠ b ∧ f x.2.1 = some (x.1, x.2.2)
theorem pA_new {f : fw_F} {b h ci : Nat} {fs : List Value} {l : List (Nat × Nat × va_E)} {lab q : Nat} {e : va_E} (P : pA f b h ci fs l) (hq : f q = none) (hl : lab ≠ b) : pA (fw_up f q (lab, e)) b h ci fs ((lab, q, e) :: l) := by
  refine ⟨fw_new P.1 hq, fun x hx => ?_⟩
  rcases List.mem_cons.mp hx with rfl | hx
  · exact ⟨hl, fw_eq _ _ _⟩
  · exact ⟨(P.2 x hx).1, fw_new (P.2 x hx).2 hq⟩
theorem pA_put {f : fw_F} {b h ci : Nat} {fs fs' : List Value} {l : List (Nat × Nat × va_E)} (P : pA f b h ci fs l) : pA (fw_up f h (b, eB ci fs')) b h ci fs' l := ⟨fw_eq _ _ _, fun x hx => ⟨(P.2 x hx).1, fw_keep (P.2 x hx).2 P.1 (P.2 x hx).1⟩⟩
theorem pA_at {f : fw_F} {b h ci : Nat} {fs : List Value} {l : List (Nat × Nat × va_E)} (P : pA f b h ci fs l) (i : Nat) {lab q : Nat} {e : va_E} (hi : l[i]? = some (lab, q, e)) : f q = some (lab, e) := (P.2 _ (List.mem_of_getElem? hi)).2
section CROWS
variable {p : Program} {l : Launch} {e : Env} {R : Room} {s : State} {m : MethodId} {args : Array Value} {below : List Frame} {meth : Method} {c : Code} {H : Heap} {locs : List Loc} {cells slots : Nat} {Q : State → Prop}
variable {cc : ByteArray} {pc nL : Nat} {ls : Array Slot} {rest : List Value} {Ts : List Cond} {own : String} {G : fw_G} {A : Nat → Prop} {f f0 : fw_F} {b h ci lo hi : Nat} {fs : List Value} {al : List (Nat × Nat × va_E)}
theorem q_newN (C : CallFix p m c cc nL s args Ts own) (S : fw_S G A s f H locs) (ha : Cond.arrayClass .int ∈ Ts) (lab : Nat) {n : Nat} (hn : n < 2 ^ 20) (hc : cells + 1 ≤ R.cells) (hs : slots + n ≤ R.slots) (hdg : decode cc pc = .ok (.newarray .int, 2))
    (kk : ∀ (q : Nat) (H1 : Heap), f q = none → fw_S G A s (fw_up f q (lab, eN G n (fun _ => 0))) H1 locs → W p l e R s m args below meth c H1 locs (cells + 1) (slots + n) Q (F0 m (pc + 2) ls (.ref q :: rest))) : W p l e R s m args below meth c H locs cells slots Q (F0 m pc ls (.int (nI n) :: rest)) := by
  refine va_newaK (atype := .int) C.1 C.2.1 (C.2.2.2.2 _ ha) rfl hdg rfl (nI_pos (by omega)) (nI_clamp (by omega)) (by show n * 4 ≤ _; omega) hc hs rfl fun H1 cA e1 z1 o1 hAr hNm => ?_
  have hcA : cA = G.2.1 0 := Option.some.inj (hNm.symm.trans (S.2.2.2.1.1.2 0 _ rfl).2)
  subst hcA
  obtain ⟨S1, hq⟩ := S.born (j := lab) (y := eN G n (fun _ => 0)) e1 z1 o1
  exact kk _ H1 hq S1
theorem q_newY (C : CallFix p m c cc nL s args Ts own) (S : fw_S G A s f H locs) (ha : Cond.arrayClass .boolean ∈ Ts) (lab : Nat) {n : Nat} (hn : n < 2 ^ 20) (hc : cells + 1 ≤ R.cells) (hs : slots + n ≤ R.slots) (hdg : decode cc pc = .ok (.newarray .boolean, 2))
    (kk : ∀ (q : Nat) (H1 : Heap), f q = none → fw_S G A s (fw_up f q (lab, eY G n (fun _ => false))) H1 locs → W p l e R s m args below meth c H1 locs (cells + 1) (slots + n) Q (F0 m (pc + 2) ls (.ref q :: rest))) : W p l e R s m args below meth c H locs cells slots Q (F0 m pc ls (.int (nI n) :: rest)) := by
  refine va_newaK (atype := .boolean) C.1 C.2.1 (C.2.2.2.2 _ ha) rfl hdg rfl (nI_pos (by omega)) (nI_clamp (by omega)) (by show n * 1 ≤ _; omega) hc hs rfl fun H1 cA e1 z1 o1 hAr hNm => ?_
  have hcA : cA = G.2.1 2 := Option.some.inj (hNm.symm.trans (S.2.2.2.1.1.2 2 _ rfl).2)
  subst hcA
  obtain ⟨S1, hq⟩ := S.born (j := lab) (y := eY G n (fun _ => false)) e1 z1 o1
  exact kk _ H1 hq S1
theorem q_newJ (C : CallFix p m c cc nL s args Ts own) (S : fw_S G A s f H locs) (ha : Cond.arrayClass .long ∈ Ts) (lab : Nat) {n : Nat} (hn : n < 2 ^ 20) (hc : cells + 1 ≤ R.cells) (hs : slots + n ≤ R.slots) (hdg : decode cc pc = .ok (.newarray .long, 2))
    (kk : ∀ (q : Nat) (H1 : Heap), f q = none → fw_S G A s (fw_up f q (lab, eJ G n (fun _ => 0))) H1 locs → W p l e R s m args below meth c H1 locs (cells + 1) (slots + n) Q (F0 m (pc + 2) ls (.ref q :: rest))) : W p l e R s m args below meth c H locs cells slots Q (F0 m pc ls (.int (nI n) :: rest)) := by
  refine va_newaK (atype := .long) C.1 C.2.1 (C.2.2.2.2 _ ha) rfl hdg rfl (nI_pos (by omega)) (nI_clamp (by omega)) (by show n * 8 ≤ _; omega) hc hs rfl fun H1 cA e1 z1 o1 hAr hNm => ?_
  have hcA : cA = G.2.1 1 := Option.some.inj (hNm.symm.trans (S.2.2.2.1.1.2 1 _ rfl).2)
  subst hcA
  obtain ⟨S1, hq⟩ := S.born (j := lab) (y := eJ G n (fun _ => 0)) e1 z1 o1
  exact kk _ H1 hq S1
end CROWS
