/-! rows of the kit over lists of cells, lifted to the world: the list of all its cells -/
def fw_ws (f : fw_F) : Nat → va_W
  | 0 => []
  | n + 1 => match f n with
    | some x => (n, x.2) :: fw_ws f n
    | none => fw_ws f n
theorem fw_ws_lt {f : fw_F} : ∀ {n : Nat} {x : Nat × va_E}, x ∈ fw_ws f n → x.1 < n ∧ ∃ i, f x.1 = some (i, x.2)
  | 0, x, h => absurd h List.not_mem_nil
  | n + 1, x, h => by
    unfold fw_ws at h
    cases hf : f n with
    | none =>
      rw [hf] at h
      obtain ⟨h1, h2⟩ := fw_ws_lt h
      exact ⟨by omega, h2⟩
    | some y =>
      rw [hf] at h
      rcases List.mem_cons.mp h with rfl | h
      · exact ⟨by show n < n + 1; omega, y.1, hf⟩
      · obtain ⟨h1, h2⟩ := fw_ws_lt h
        exact ⟨by omega, h2⟩
theorem fw_ws_in {f : fw_F} {a i : Nat} {x : va_E} (h : f a = some (i, x)) : ∀ {n : Nat}, a < n → (a, x) ∈ fw_ws f n
  | 0, hn => absurd hn (Nat.not_lt_zero a)
  | n + 1, hn => by
    unfold fw_ws
    rcases Nat.lt_or_ge a n with q | q
    · have ih := fw_ws_in h (n := n) q
      cases hf : f n with
      | none => exact ih
      | some y => exact List.mem_cons_of_mem _ ih
    · have e : a = n := by omega
      subst e
      rw [h]
      exact List.mem_cons_self
theorem fw_ws_inj {f : fw_F} : ∀ {n : Nat} (i j : Nat) (p q : Nat × va_E), (fw_ws f n)[i]? = some p → (fw_ws f n)[j]? = some q → p.1 = q.1 → i = j
  | 0, i, j, p, q, h, _, _ => by simp [fw_ws] at h
  | n + 1, i, j, p, q, hi, hj, e => by
    unfold fw_ws at hi hj
    cases hf : f n with
    | none =>
      rw [hf] at hi hj
      exact fw_ws_inj i j p q hi hj e
    | some y =>
      rw [hf] at hi hj
      cases i with
      | zero =>
        cases j with
        | zero => rfl
        | succ j =>
          have h1 := (fw_ws_lt (List.mem_of_getElem? (show (fw_ws f n)[j]? = some q from hj))).1
          have h2 : p = (n, y.2) := (Option.some.inj hi).symm
          rw [h2] at e
          dsimp only at e
          omega
      | succ i =>
        cases j with
        | zero =>
          have h1 := (fw_ws_lt (List.mem_of_getElem? (show (fw_ws f n)[i]? = some p from hi))).1
          have h2 : q = (n, y.2) := (Option.some.inj hj).symm
          rw [h2] at e
          dsimp only at e
          omega
        | succ j => rw [fw_ws_inj i j p q hi hj e]
theorem fw_all {G : fw_G} {A : Nat → Prop} {f : fw_F} {s : State} {H : Heap} {locs : List Loc} (S : fw_S G A s f H locs) : va_P G.1 vwCl (fw_ws f H.size) H ∧ va_D A (fw_ws f H.size) := by
  refine ⟨fun k q hk => ?_, fw_ws_inj, fun k q hk => ?_⟩
  · obtain ⟨-, i, h⟩ := fw_ws_lt (List.mem_of_getElem? hk)
    exact S.1 q.1 i q.2 h
  · obtain ⟨-, i, h⟩ := fw_ws_lt (List.mem_of_getElem? hk)
    exact S.2.1 q.1 _ h
theorem fw_at {G : fw_G} {A : Nat → Prop} {f : fw_F} {s : State} {H : Heap} {locs : List Loc} (S : fw_S G A s f H locs) {a i : Nat} {x : va_E} (h : f a = some (i, x)) : ∃ k : Nat, (fw_ws f H.size)[k]? = some (a, x) := List.getElem?_of_mem (fw_ws_in h ((S.1 a i x h).lt))
theorem fw_set {G : fw_G} {A : Nat → Prop} {f : fw_F} {s : State} {H H1 : Heap} {locs locs1 : List Loc} (S : fw_S G A s f H locs) {a i j k : Nat} {x y : va_E} (h : f a = some (i, x)) (hk : (fw_ws f H.size)[k]? = some (a, x)) (hP : va_P G.1 vwCl ((fw_ws f H.size).set k (a, y)) H1) (hS : va_S A s.heap H1 locs1) : fw_S G A s (fw_up f a (j, y)) H1 locs1 := by
  obtain ⟨h1, h2, h3, h4, h5, h6⟩ := S
  have hl := (List.getElem?_eq_some_iff.mp hk).1
  refine ⟨fun b i2 z hb => ?_, fun b z hb => ?_, h3, h4, h5, hS⟩
  · by_cases hba : b = a
    · subst hba
      rw [fw_eq] at hb
      cases hb
      exact hP k _ (List.getElem?_set_self hl)
    · rw [fw_ne hba] at hb
      obtain ⟨k2, hk2⟩ := fw_at ⟨h1, h2, h3, h4, h5, h6⟩ hb
      refine hP k2 _ ?_
      rw [List.getElem?_set_ne (fun e => ?_)]
      · exact hk2
      · subst e
        exact hba (congrArg Prod.fst (Option.some.inj (hk2.symm.trans hk)))
  · by_cases hba : b = a
    · subst hba; exact h2 b _ h
    · rw [fw_ne hba] at hb; exact h2 b z hb
theorem fw_push {G : fw_G} {A : Nat → Prop} {f : fw_F} {s : State} {H H1 : Heap} {locs locs1 : List Loc} (S : fw_S G A s f H locs) {q j : Nat} {y : va_E} (hP : va_P G.1 vwCl (fw_ws f H.size ++ [(q, y)]) H1) (hD : va_D A (fw_ws f H.size ++ [(q, y)])) (hS : va_S A s.heap H1 locs1) : fw_S G A s (fw_up f q (j, y)) H1 locs1 ∧ f q = none := by
  have hlast : (fw_ws f H.size ++ [(q, y)])[(fw_ws f H.size).length]? = some (q, y) := by
    rw [List.getElem?_append_right (Nat.le_refl _), Nat.sub_self]; rfl
  have hold : ∀ {b i : Nat} {z : va_E}, f b = some (i, z) → ∃ k : Nat, k < (fw_ws f H.size).length ∧ (fw_ws f H.size ++ [(q, y)])[k]? = some (b, z) := by
    intro b i z hb
    obtain ⟨k, hk⟩ := fw_at S hb
    have hl := (List.getElem?_eq_some_iff.mp hk).1
    exact ⟨k, hl, by rw [List.getElem?_append_left hl]; exact hk⟩
  have hn : f q = none := by
    cases hf : f q with
    | none => rfl
    | some z =>
      obtain ⟨k, h1, h2⟩ := hold (i := z.1) (z := z.2) hf
      have := hD.1 k _ _ _ h2 hlast rfl
      omega
  obtain ⟨h1, h2, h3, h4, h5, h6⟩ := S
  refine ⟨⟨fun b i2 z hb => ?_, fun b z hb => ?_, h3, h4, h5, hS⟩, hn⟩
  · by_cases hba : b = q
    · subst hba
      rw [fw_eq] at hb
      cases hb
      exact hP _ _ hlast
    · rw [fw_ne hba] at hb
      obtain ⟨k, -, hk⟩ := hold hb
      exact hP k _ hk
  · by_cases hba : b = q
    · subst hba; exact hD.2 _ _ hlast
    · rw [fw_ne hba] at hb; exact h2 b z hb
section LIFT
variable {p : Program} {l : Launch} {e : Env} {R : Room} {s : State} {m : MethodId} {args : Array Value} {below : List Frame} {meth : Method} {c : Code} {H : Heap} {locs : List Loc} {cells slots : Nat} {Q : State → Prop}
variable {cc : ByteArray} {pc nL : Nat} {ls : Array Slot} {rest : List Value} {Ts : List Cond} {own : String} {G : fw_G} {A : Nat → Prop} {f f0 : fw_F}
theorem q_oald (C : CallFix p m c cc nL s args Ts own) (S : fw_S G A s f H locs) {a i n : Nat} {g : Nat → Option Nat} (he : f a = some (i, eO G n g)) {k x : Nat} (hk : k < n) (hn : n < 2 ^ 31) (hx : g k = some x) (hdg : decode cc pc = .ok (.aaload, 1))
    (kk : W p l e R s m args below meth c H locs cells slots Q (F0 m (pc + 1) ls (.ref x :: rest))) : W p l e R s m args below meth c H locs cells slots Q (F0 m pc ls (.int (nI k) :: .ref a :: rest)) := by
  refine va_aldq C.1 C.2.1 S.2.2.2.1.1 (fw_one S he) 0 3 rfl rfl (vp_in_nI hk hn) hdg ?_
  rw [nI_clamp (Nat.lt_trans hk hn), hx]
  exact kk
theorem q_oast (C : CallFix p m c cc nL s args Ts own) (S : fw_S G A s f H locs) {a i n : Nat} {g : Nat → Option Nat} (he : f a = some (i, eO G n g)) {k x j ci : Nat} {vs : List Value} {r : vw_C} (hx : f x = some (j, eB ci vs)) (hc : vwCl[ci]? = some r) (hca : va_Nw (.castable r.1 "java/lang/Object") s) (hk : k < n) (hn : n < 2 ^ 31) (hdg : decode cc pc = .ok (.aastore, 1))
    (kk : ∀ (H1 : Heap) (locs1 : List Loc), fw_S G A s (fw_up f a (i, eO G n (va_up g k (some x)))) H1 locs1 → W p l e R s m args below meth c H1 locs1 cells slots Q (F0 m (pc + 1) ls rest)) : W p l e R s m args below meth c H locs cells slots Q (F0 m pc ls (.ref x :: .int (nI k) :: .ref a :: rest)) := by
  obtain ⟨hP, hD⟩ := fw_all S
  obtain ⟨q0, h0⟩ := fw_at S he
  obtain ⟨q1, h1⟩ := fw_at S hx
  refine va_astqO C.1 C.2.1 S.2.2.2.1.1 hP hD S.2.2.2.2.2 q0 3 q1 ci h0 rfl hca h1 hc (vp_in_nI hk hn) hdg fun H1 locs1 hP1 hD1 hS1 => ?_
  rw [nI_clamp (Nat.lt_trans hk hn)] at hP1
  exact kk H1 locs1 (fw_set S he h0 hP1 hS1)
theorem q_oastN (C : CallFix p m c cc nL s args Ts own) (S : fw_S G A s f H locs) {a i n : Nat} {g : Nat → Option Nat} (he : f a = some (i, eO G n g)) {k : Nat} (hk : k < n) (hn : n < 2 ^ 31) (hdg : decode cc pc = .ok (.aastore, 1))
    (kk : ∀ (H1 : Heap) (locs1 : List Loc), fw_S G A s (fw_up f a (i, eO G n (va_up g k none))) H1 locs1 → W p l e R s m args below meth c H1 locs1 cells slots Q (F0 m (pc + 1) ls rest)) : W p l e R s m args below meth c H locs cells slots Q (F0 m pc ls (.null :: .int (nI k) :: .ref a :: rest)) := by
  obtain ⟨hP, hD⟩ := fw_all S
  obtain ⟨q0, h0⟩ := fw_at S he
  refine va_astqN C.1 C.2.1 S.2.2.2.1.1 hP hD S.2.2.2.2.2 q0 3 h0 rfl (vp_in_nI hk hn) hdg fun H1 locs1 hP1 hD1 hS1 => ?_
  rw [nI_clamp (Nat.lt_trans hk hn)] at hP1
  exact kk H1 locs1 (fw_set S he h0 hP1 hS1)
theorem q_onew (C : CallFix p m c cc nL s args Ts own) (S : fw_S G A s f H locs) {index : Nat} (hl : Cond.classLink own index "java/lang/Object" ∈ Ts) (lab : Nat) {n : Nat} (hn : n < 2 ^ 20) (hc : cells + 1 ≤ R.cells) (hs : slots + n ≤ R.slots) (hdg : decode cc pc = .ok (.anewarray index, 3))
    (kk : ∀ (q : Nat) (H1 : Heap), f q = none → fw_S G A s (fw_up f q (lab, eO G n (fun _ => none))) H1 locs → W p l e R s m args below meth c H1 locs (cells + 1) (slots + n) Q (F0 m (pc + 3) ls (.ref q :: rest))) : W p l e R s m args below meth c H locs cells slots Q (F0 m pc ls (.int (nI n) :: rest)) := by
  obtain ⟨hP, hD⟩ := fw_all S
  refine va_newq C.1 C.2.1 C.2.2.2.1 (C.2.2.2.2 _ hl) S.2.2.2.1.2.2.2.2.1 S.2.2.2.1.1 hP hD S.2.2.2.2.2 S.2.2.1 (N' := n) (nI_pos (by omega)) (nI_clamp (by omega)) (by omega) hc hs hdg fun q cA H1 hK1 hP1 hD1 hS1 => ?_
  have hcA : cA = G.2.1 3 := by
    obtain ⟨kA, comp, -, -, -, h1⟩ := (hK1.2 4 _ rfl).2
    obtain ⟨kB, comp2, -, -, -, h2⟩ := (S.2.2.2.1.1.2 3 _ rfl).2
    exact Option.some.inj (h1.symm.trans h2)
  subst hcA
  obtain ⟨S1, hq⟩ := fw_push S (j := lab) hP1 hD1 hS1
  exact kk q H1 hq S1
theorem q_olen (C : CallFix p m c cc nL s args Ts own) (S : fw_S G A s f H locs) {a i n : Nat} {g : Nat → Option Nat} (he : f a = some (i, eO G n g)) (hdg : decode cc pc = .ok (.arraylength, 1))
    (kk : W p l e R s m args below meth c H locs cells slots Q (F0 m (pc + 1) ls (.int (nI n) :: rest))) : W p l e R s m args below meth c H locs cells slots Q (F0 m pc ls (.ref a :: rest)) :=
  va_alen C.1 C.2.1 S.2.2.2.1.1 (fw_one S he) 0 3 rfl rfl rfl hdg kk
theorem q_tlen (C : CallFix p m c cc nL s args Ts own) (S : fw_S G A s f H locs) (hdg : decode cc pc = .ok (.arraylength, 1))
    (kk : W p l e R s m args below meth c H locs cells slots Q (F0 m (pc + 1) ls (.int (nI 0) :: rest))) : W p l e R s m args below meth c H locs cells slots Q (F0 m pc ls (.ref G.2.2 :: rest)) :=
  va_tlen C.1 C.2.1 S.2.2.2.2.1.2 S.2.2.2.2.2 rfl hdg kk
theorem q_gets (C : CallFix p m c cc nL s args Ts own) (S : fw_S G A s f H locs) {index : Nat} (hl : Cond.fieldLink own index "java/util/ArrayList" "DEFAULTCAPACITY_EMPTY_ELEMENTDATA" "[Ljava/lang/Object;" ∈ Ts) (hdg : decode cc pc = .ok (.getstatic index, 3))
    (kk : W p l e R s m args below meth c H locs cells slots Q (F0 m (pc + 3) ls (.ref G.2.2 :: rest))) : W p l e R s m args below meth c H locs cells slots Q (F0 m pc ls rest) :=
  va_gets C.1 C.2.1 S.2.2.2.2.1.1 S.2.2.2.2.2 C.2.2.2.1 (C.2.2.2.2 _ hl) (fun _ h => h) hdg kk
/-- a field under another class's name -/
theorem q_getI (C : CallFix p m c cc nL s args Ts own) (S : fw_S G A s f H locs) {a i ci index : Nat} {fs : List Value} (he : f a = some (i, eB ci fs)) {Cn ref : String} {T : u_T} {N : Nat} (hc : vwCl[ci]? = some (Cn, T, N)) (hin : ∀ w ∈ u_ws Cn T N, w ∈ Ts) (k : Nat) (hk : k < N) (hl : Cond.fieldLink own index ref (T k).2.1 (T k).2.2.1 ∈ Ts) (hsm : Cond.sameField ref (T k).1 (T k).2.1 (T k).2.2.1 ∈ Ts) {v : Value} (hv : fs[k]? = some v) (hdg : decode cc pc = .ok (.getfield index, 3))
    (kk : W p l e R s m args below meth c H locs cells slots Q (F0 m (pc + 3) ls (v :: rest))) : W p l e R s m args below meth c H locs cells slots Q (F0 m pc ls (.ref a :: rest)) :=
  va_get C.1 C.2.1 C.2.2.2.2 hin C.2.2.2.1 S.2.2.2.1.1 (fw_one S he) 0 rfl hc k hk (C.2.2.2.2 _ hl) (u_same (C.2.2.2.2 _ hsm)) hv hdg kk
theorem q_putI (C : CallFix p m c cc nL s args Ts own) (S : fw_S G A s f H locs) {a i ci index : Nat} {fs : List Value} (he : f a = some (i, eB ci fs)) {Cn ref : String} {T : u_T} {N : Nat} (hc : vwCl[ci]? = some (Cn, T, N)) (hin : ∀ w ∈ u_ws Cn T N, w ∈ Ts) (ty0 : Nat → FieldType) (hty : ∀ k, k < N → parseFieldDescriptor (T k).2.2.1 = some (ty0 k)) (hnm : ∀ a, a < N → ∀ b, b < N → a ≠ b → (T a).2.1 ≠ (T b).2.1) (k : Nat) (hk : k < N) (hl : Cond.fieldLink own index ref (T k).2.1 (T k).2.2.1 ∈ Ts) (hsm : Cond.sameField ref (T k).1 (T k).2.1 (T k).2.2.1 ∈ Ts) (hfin : (T k).2.2.2 = false) {v : Value} (hn : narrow (ty0 k) v = v) (hfit : fits (ty0 k) v = true) (hlen : k < fs.length) (hdg : decode cc pc = .ok (.putfield index, 3))
    (kk : ∀ (H1 : Heap) (locs1 : List Loc), fw_S G A s (fw_up f a (i, eB ci (fs.set k v))) H1 locs1 → W p l e R s m args below meth c H1 locs1 cells slots Q (F0 m (pc + 3) ls rest)) : W p l e R s m args below meth c H locs cells slots Q (F0 m pc ls (v :: .ref a :: rest)) := by
  obtain ⟨hP, hD⟩ := fw_all S
  obtain ⟨q0, h0⟩ := fw_at S he
  exact va_put C.1 C.2.1 C.2.2.2.2 hin ty0 hty hnm C.2.2.2.1 S.2.2.2.1.1 hP hD S.2.2.2.2.2 q0 h0 hc k hk (C.2.2.2.2 _ hl) (u_same (C.2.2.2.2 _ hsm)) hfin (hty k hk) hn hfit hlen hdg fun H1 locs1 hP1 hD1 hS1 => kk H1 locs1 (fw_set S he h0 hP1 hS1)
end LIFT
