/-! OBJECTS: an object with its arrays, by kinds of its fields: 0 a natural, 1 a row of naturals, 2 a row of booleans, 3 a row of longs, 4 a boolean, 5 a row of ints, 6 a long, else a reference -/
abbrev o_D : Type := Nat × Nat × (Nat → Nat) × (Nat → Nat)
def o_fv (kd : Nat → Nat) (a : Nat → Nat) (I : Nat → Nat) (B : Nat → Nat → Bool) (J : Nat → Nat → Int64) (k : Nat) : Value := match kd k with
  | 0 => .int (nI (I k))
  | 4 => .int (bI (B k 0))
  | 6 => .long (J k 0)
  | _ => .ref (a k)
def o_fs (d : o_D) (a : Nat → Nat) (I : Nat → Nat) (B : Nat → Nat → Bool) (J : Nat → Nat → Int64) : List Value := (List.range d.2.1).map (o_fv d.2.2.1 a I B J)
def isO (G : fw_G) (d : o_D) (f : fw_F) (b h : Nat) (a : Nat → Nat) (I : Nat → Nat) (N : Nat → Nat → Nat) (B : Nat → Nat → Bool) (J : Nat → Nat → Int64) : Prop :=
  f h = some (b, eB d.1 (o_fs d a I B J)) ∧ ∀ k, k < d.2.1 → (d.2.2.1 k = 1 → f (a k) = some (b + 1 + k, eN G (d.2.2.2 k) (N k))) ∧ (d.2.2.1 k = 2 → f (a k) = some (b + 1 + k, eY G (d.2.2.2 k) (B k))) ∧ (d.2.2.1 k = 3 → f (a k) = some (b + 1 + k, eJ G (d.2.2.2 k) (J k))) ∧ (d.2.2.1 k = 5 → f (a k) = some (b + 1 + k, eI G (d.2.2.2 k) (fun j => (J k j).toInt32)))
theorem o_fs_get {d : o_D} {a : Nat → Nat} {I : Nat → Nat} {B : Nat → Nat → Bool} {J : Nat → Nat → Int64} {k : Nat} (hk : k < d.2.1) : (o_fs d a I B J)[k]? = some (o_fv d.2.2.1 a I B J k) := by
  unfold o_fs
  rw [List.getElem?_map, List.getElem?_range hk]
  rfl
theorem o_fs_len {d : o_D} {a : Nat → Nat} {I : Nat → Nat} {B : Nat → Nat → Bool} {J : Nat → Nat → Int64} : (o_fs d a I B J).length = d.2.1 := by
  unfold o_fs
  simp
theorem o_fs_set {d : o_D} {a : Nat → Nat} {I I' : Nat → Nat} {B B' : Nat → Nat → Bool} {J J' : Nat → Nat → Int64} {k : Nat} {v : Value} (hk : k < d.2.1) (hv : o_fv d.2.2.1 a I' B' J' k = v) (ho : ∀ j, j ≠ k → o_fv d.2.2.1 a I' B' J' j = o_fv d.2.2.1 a I B J j) : (o_fs d a I B J).set k v = o_fs d a I' B' J' := by
  apply List.ext_getElem?
  intro j
  by_cases hj : j = k
  · subst hj
    rw [List.getElem?_set_self (by rw [o_fs_len]; exact hk), o_fs_get hk, hv]
  · rw [List.getElem?_set_ne (Ne.symm hj)]
    by_cases hl : j < d.2.1
    · rw [o_fs_get hl, o_fs_get hl, ho j hj]
    · rw [List.getElem?_eq_none (by rw [o_fs_len]; omega), List.getElem?_eq_none (by rw [o_fs_len]; omega)]
theorem up_s {α : Type} (g : Nat → α) (k : Nat) (x : α) : va_up g k x k = x := if_pos rfl
theorem up_n {α : Type} {g : Nat → α} {k j : Nat} {x : α} (h : j ≠ k) : va_up g k x j = g j := if_neg h
theorem o_fr {G : fw_G} {d : o_D} {f f' : fw_F} {b h lo hi : Nat} {a : Nat → Nat} {I : Nat → Nat} {N : Nat → Nat → Nat} {B : Nat → Nat → Bool} {J : Nat → Nat → Int64} (ho : isO G d f b h a I N B J) (fr : fw_fr f f' lo hi) (hd : b + d.2.1 + 1 ≤ lo ∨ hi ≤ b) : isO G d f' b h a I N B J := by
  refine ⟨fr _ _ _ ho.1 (by omega), fun k hk => ?_⟩
  obtain ⟨h1, h2, h3, h4⟩ := ho.2 k hk
  exact ⟨fun q => fr _ _ _ (h1 q) (by omega), fun q => fr _ _ _ (h2 q) (by omega), fun q => fr _ _ _ (h3 q) (by omega), fun q => fr _ _ _ (h4 q) (by omega)⟩
/-- one of an object's cells is laid anew -/
theorem o_setN {G : fw_G} {d : o_D} {f : fw_F} {b h : Nat} {a : Nat → Nat} {I : Nat → Nat} {N : Nat → Nat → Nat} {B : Nat → Nat → Bool} {J : Nat → Nat → Int64} (ho : isO G d f b h a I N B J) (k : Nat) (hk : k < d.2.1) (hkd : d.2.2.1 k = 1) (g : Nat → Nat) : isO G d (fw_up f (a k) (b + 1 + k, eN G (d.2.2.2 k) g)) b h a I (va_up N k g) B J := by
  have hc := (ho.2 k hk).1 hkd
  refine ⟨fw_keep ho.1 hc (by omega), fun j hj => ?_⟩
  obtain ⟨h1, h2, h3, h4⟩ := ho.2 j hj
  by_cases hjk : j = k
  · subst hjk
    exact ⟨fun _ => by rw [fw_eq, up_s], fun q => by omega, fun q => by omega, fun q => by omega⟩
  · exact ⟨fun q => by rw [up_n hjk]; exact fw_keep (h1 q) hc (by omega), fun q => fw_keep (h2 q) hc (by omega), fun q => fw_keep (h3 q) hc (by omega), fun q => fw_keep (h4 q) hc (by omega)⟩
theorem o_setY {G : fw_G} {d : o_D} {f : fw_F} {b h : Nat} {a : Nat → Nat} {I : Nat → Nat} {N : Nat → Nat → Nat} {B : Nat → Nat → Bool} {J : Nat → Nat → Int64} (ho : isO G d f b h a I N B J) (k : Nat) (hk : k < d.2.1) (hkd : d.2.2.1 k = 2) (g : Nat → Bool) : isO G d (fw_up f (a k) (b + 1 + k, eY G (d.2.2.2 k) g)) b h a I N (va_up B k g) J := by
  have hc := (ho.2 k hk).2.1 hkd
  have hfs : o_fs d a I (va_up B k g) J = o_fs d a I B J := by
    unfold o_fs
    apply List.map_congr_left
    intro j _
    unfold o_fv
    by_cases hjk : j = k
    · subst hjk; rw [hkd]; rfl
    · rw [up_n hjk]
  refine ⟨by rw [hfs]; exact fw_keep ho.1 hc (by omega), fun j hj => ?_⟩
  obtain ⟨h1, h2, h3, h4⟩ := ho.2 j hj
  by_cases hjk : j = k
  · subst hjk
    exact ⟨fun q => by omega, fun _ => by rw [fw_eq, up_s], fun q => by omega, fun q => by omega⟩
  · exact ⟨fun q => fw_keep (h1 q) hc (by omega), fun q => by rw [up_n hjk]; exact fw_keep (h2 q) hc (by omega), fun q => fw_keep (h3 q) hc (by omega), fun q => fw_keep (h4 q) hc (by omega)⟩
theorem o_setJ {G : fw_G} {d : o_D} {f : fw_F} {b h : Nat} {a : Nat → Nat} {I : Nat → Nat} {N : Nat → Nat → Nat} {B : Nat → Nat → Bool} {J : Nat → Nat → Int64} (ho : isO G d f b h a I N B J) (k : Nat) (hk : k < d.2.1) (hkd : d.2.2.1 k = 3) (g : Nat → Int64) : isO G d (fw_up f (a k) (b + 1 + k, eJ G (d.2.2.2 k) g)) b h a I N B (va_up J k g) := by
  have hc := (ho.2 k hk).2.2.1 hkd
  have hfs : o_fs d a I B (va_up J k g) = o_fs d a I B J := by
    unfold o_fs
    apply List.map_congr_left
    intro j _
    unfold o_fv
    by_cases hjk : j = k
    · subst hjk; rw [hkd]; rfl
    · rw [up_n hjk]
  refine ⟨by rw [hfs]; exact fw_keep ho.1 hc (by omega), fun j hj => ?_⟩
  obtain ⟨h1, h2, h3, h4⟩ := ho.2 j hj
  by_cases hjk : j = k
  · subst hjk
    exact ⟨fun q => by omega, fun q => by omega, fun _ => by rw [fw_eq, up_s], fun q => by omega⟩
  · exact ⟨fun q => fw_keep (h1 q) hc (by omega), fun q => fw_keep (h2 q) hc (by omega), fun q => by rw [up_n hjk]; exact fw_keep (h3 q) hc (by omega), fun q => by rw [up_n hjk]; exact fw_keep (h4 q) hc (by omega)⟩
theorem o_setX {G : fw_G} {d : o_D} {f : fw_F} {b h : Nat} {a : Nat → Nat} {I : Nat → Nat} {N : Nat → Nat → Nat} {B : Nat → Nat → Bool} {J : Nat → Nat → Int64} (ho : isO G d f b h a I N B J) (k : Nat) (hk : k < d.2.1) (hkd : d.2.2.1 k = 5) (g : Nat → Int64) : isO G d (fw_up f (a k) (b + 1 + k, eI G (d.2.2.2 k) (fun j => (g j).toInt32))) b h a I N B (va_up J k g) := by
  have hc := (ho.2 k hk).2.2.2 hkd
  have hfs : o_fs d a I B (va_up J k g) = o_fs d a I B J := by
    unfold o_fs
    apply List.map_congr_left
    intro j _
    unfold o_fv
    by_cases hjk : j = k
    · subst hjk; rw [hkd]; rfl
    · rw [up_n hjk]
  refine ⟨by rw [hfs]; exact fw_keep ho.1 hc (by omega), fun j hj => ?_⟩
  obtain ⟨h1, h2, h3, h4⟩ := ho.2 j hj
  by_cases hjk : j = k
  · subst hjk
    exact ⟨fun q => by omega, fun q => by omega, fun q => by omega, fun _ => by rw [fw_eq, up_s]⟩
  · exact ⟨fun q => fw_keep (h1 q) hc (by omega), fun q => fw_keep (h2 q) hc (by omega), fun q => by rw [up_n hjk]; exact fw_keep (h3 q) hc (by omega), fun q => by rw [up_n hjk]; exact fw_keep (h4 q) hc (by omega)⟩
theorem o_setF {G : fw_G} {d : o_D} {f : fw_F} {b h : Nat} {a : Nat → Nat} {I I' : Nat → Nat} {N : Nat → Nat → Nat} {B B' : Nat → Nat → Bool} {J J' : Nat → Nat → Int64} (ho : isO G d f b h a I N B J) (k : Nat) {v : Value} (hk : k < d.2.1) (hv : o_fv d.2.2.1 a I' B' J' k = v) (hI : ∀ j, j ≠ k → I' j = I j) (hB : ∀ j, j ≠ k → B' j = B j) (hJ : ∀ j, j ≠ k → J' j = J j) (hkd : d.2.2.1 k = 0 ∨ d.2.2.1 k = 4 ∨ d.2.2.1 k = 6) : isO G d (fw_up f h (b, eB d.1 ((o_fs d a I B J).set k v))) b h a I' N B' J' := by
  have hfs : (o_fs d a I B J).set k v = o_fs d a I' B' J' := o_fs_set hk hv (fun j hj => by unfold o_fv; rw [hI j hj, hB j hj, hJ j hj])
  refine ⟨by rw [fw_eq, hfs], fun j hj => ?_⟩
  obtain ⟨h1, h2, h3, h4⟩ := ho.2 j hj
  by_cases hjk : j = k
  · subst hjk
    exact ⟨fun q => by omega, fun q => by omega, fun q => by omega, fun q => by omega⟩
  · exact ⟨fun q => fw_keep (h1 q) ho.1 (by omega), fun q => by rw [hB j hjk]; exact fw_keep (h2 q) ho.1 (by omega), fun q => by rw [hJ j hjk]; exact fw_keep (h3 q) ho.1 (by omega), fun q => by rw [hJ j hjk]; exact fw_keep (h4 q) ho.1 (by omega)⟩
section OROWS
variable {p : Program} {l : Launch} {e : Env} {R : Room} {s : State} {m : MethodId} {args : Array Value} {below : List Frame} {meth : Method} {c : Code} {H : Heap} {locs : List Loc} {cells slots : Nat} {Q : State → Prop}
variable {cc : ByteArray} {pc nL : Nat} {ls : Array Slot} {rest : List Value} {Ts : List Cond} {own : String} {G : fw_G} {A : Nat → Prop} {f f0 : fw_F}
variable {d : o_D} {b h lo hi : Nat} {a : Nat → Nat} {I : Nat → Nat} {N : Nat → Nat → Nat} {B : Nat → Nat → Bool} {J : Nat → Nat → Int64}
theorem o_get (C : CallFix p m c cc nL s args Ts own) (S : fw_S G A s f H locs) (O : isO G d f b h a I N B J) {Cn : String} {T : u_T} {index : Nat} (hc : vwCl[d.1]? = some (Cn, T, d.2.1)) (hin : ∀ w ∈ u_ws Cn T d.2.1, w ∈ Ts) (k : Nat) (hk : k < d.2.1) (hl : Cond.fieldLink own index (T k).1 (T k).2.1 (T k).2.2.1 ∈ Ts) {v : Value} (hv : o_fv d.2.2.1 a I B J k = v) (hdg : decode cc pc = .ok (.getfield index, 3))
    (kk : W p l e R s m args below meth c H locs cells slots Q (F0 m (pc + 3) ls (v :: rest))) : W p l e R s m args below meth c H locs cells slots Q (F0 m pc ls (.ref h :: rest)) :=
  q_get C S O.1 hc hin k hk hl (hv ▸ o_fs_get hk) hdg kk
theorem o_getN (C : CallFix p m c cc nL s args Ts own) (S : fw_S G A s f H locs) (O : isO G d f b h a I N B J) {Cn host : String} {T : u_T} {index : Nat} (hc : vwCl[d.1]? = some (Cn, T, d.2.1)) (hin : ∀ w ∈ u_ws Cn T d.2.1, w ∈ Ts) (k : Nat) (hk : k < d.2.1) (hl : va_Nw (.fieldLinkNest own index (T k).1 (T k).2.1 (T k).2.2.1 host) s) {v : Value} (hv : o_fv d.2.2.1 a I B J k = v) (hdg : decode cc pc = .ok (.getfield index, 3))
    (kk : W p l e R s m args below meth c H locs cells slots Q (F0 m (pc + 3) ls (v :: rest))) : W p l e R s m args below meth c H locs cells slots Q (F0 m pc ls (.ref h :: rest)) :=
  q_getN C S O.1 hc hin k hk hl (hv ▸ o_fs_get hk) hdg kk
theorem o_puti (C : CallFix p m c cc nL s args Ts own) (S : fw_S G A s f H locs) (O : isO G d f b h a I N B J) (F : fw_fr f0 f lo hi) {Cn : String} {T : u_T} {index : Nat} (hc : vwCl[d.1]? = some (Cn, T, d.2.1)) (hin : ∀ w ∈ u_ws Cn T d.2.1, w ∈ Ts) (ty0 : Nat → FieldType) (hty : ∀ k, k < d.2.1 → parseFieldDescriptor (T k).2.2.1 = some (ty0 k)) (hnm : ∀ a, a < d.2.1 → ∀ b, b < d.2.1 → a ≠ b → (T a).2.1 ≠ (T b).2.1) (k : Nat) (hk : k < d.2.1) (hkd : d.2.2.1 k = 0) (hl : Cond.fieldLink own index (T k).1 (T k).2.1 (T k).2.2.1 ∈ Ts) (hfin : (T k).2.2.2 = false) (ht : ty0 k = .int) {x : Nat} (hlb : lo ≤ b ∧ b < hi) (hdg : decode cc pc = .ok (.putfield index, 3))
    (kk : ∀ (f1 : fw_F) (H1 : Heap) (locs1 : List Loc), fw_S G A s f1 H1 locs1 → isO G d f1 b h a (va_up I k x) N B J → fw_fr f0 f1 lo hi → W p l e R s m args below meth c H1 locs1 cells slots Q (F0 m (pc + 3) ls rest)) : W p l e R s m args below meth c H locs cells slots Q (F0 m pc ls (.int (nI x) :: .ref h :: rest)) :=
  q_put C S O.1 hc hin ty0 hty hnm k hk hl hfin (by rw [ht]; rfl) (by rw [ht]; rfl) (by rw [o_fs_len]; exact hk) hdg fun H1 locs1 S1 => kk _ H1 locs1 S1 (o_setF O k (I' := va_up I k x) (B' := B) (J' := J) hk (by unfold o_fv; rw [hkd, up_s]; rfl) (fun j hj => up_n hj) (fun _ _ => rfl) (fun _ _ => rfl) (Or.inl hkd)) (fw_fr_up F O.1 hlb.1 hlb.2)
theorem o_putz (C : CallFix p m c cc nL s args Ts own) (S : fw_S G A s f H locs) (O : isO G d f b h a I N B J) (F : fw_fr f0 f lo hi) {Cn : String} {T : u_T} {index : Nat} (hc : vwCl[d.1]? = some (Cn, T, d.2.1)) (hin : ∀ w ∈ u_ws Cn T d.2.1, w ∈ Ts) (ty0 : Nat → FieldType) (hty : ∀ k, k < d.2.1 → parseFieldDescriptor (T k).2.2.1 = some (ty0 k)) (hnm : ∀ a, a < d.2.1 → ∀ b, b < d.2.1 → a ≠ b → (T a).2.1 ≠ (T b).2.1) (k : Nat) (hk : k < d.2.1) (hkd : d.2.2.1 k = 4) (hl : Cond.fieldLink own index (T k).1 (T k).2.1 (T k).2.2.1 ∈ Ts) (hfin : (T k).2.2.2 = false) (ht : ty0 k = .boolean) {x : Bool} (hlb : lo ≤ b ∧ b < hi) (hdg : decode cc pc = .ok (.putfield index, 3))
    (kk : ∀ (f1 : fw_F) (H1 : Heap) (locs1 : List Loc), fw_S G A s f1 H1 locs1 → isO G d f1 b h a I N (va_up B k (fun _ => x)) J → fw_fr f0 f1 lo hi → W p l e R s m args below meth c H1 locs1 cells slots Q (F0 m (pc + 3) ls rest)) : W p l e R s m args below meth c H locs cells slots Q (F0 m pc ls (.int (bI x) :: .ref h :: rest)) :=
  q_put C S O.1 hc hin ty0 hty hnm k hk hl hfin (by rw [ht]; exact bI_nar x) (by rw [ht]; cases x <;> rfl) (by rw [o_fs_len]; exact hk) hdg fun H1 locs1 S1 => kk _ H1 locs1 S1 (o_setF O k (I' := I) (B' := va_up B k (fun _ => x)) (J' := J) hk (by unfold o_fv; rw [hkd, up_s]; rfl) (fun _ _ => rfl) (fun j hj => up_n hj) (fun _ _ => rfl) (Or.inr (Or.inl hkd))) (fw_fr_up F O.1 hlb.1 hlb.2)
theorem o_nald (C : CallFix p m c cc nL s args Ts own) (S : fw_S G A s f H locs) (O : isO G d f b h a I N B J) (q : Nat) (hq : q < d.2.1) (hkd : d.2.2.1 q = 1) {j : Int32} (k : Nat) (hj : j = nI k) (hk : k < d.2.2.2 q) (hn : d.2.2.2 q < 2 ^ 31) {x : Nat} (hv : N q k = x) (hdg : decode cc pc = .ok (.iaload, 1))
    (kk : W p l e R s m args below meth c H locs cells slots Q (F0 m (pc + 1) ls (.int (nI x) :: rest))) : W p l e R s m args below meth c H locs cells slots Q (F0 m pc ls (.int j :: .ref (a q) :: rest)) := by
  subst hv
  exact q_nald C S ((O.2 q hq).1 hkd) k hj hk hn hdg kk
theorem o_yald (C : CallFix p m c cc nL s args Ts own) (S : fw_S G A s f H locs) (O : isO G d f b h a I N B J) (q : Nat) (hq : q < d.2.1) (hkd : d.2.2.1 q = 2) {j : Int32} (k : Nat) (hj : j = nI k) (hk : k < d.2.2.2 q) (hn : d.2.2.2 q < 2 ^ 31) {x : Bool} (hv : B q k = x) (hdg : decode cc pc = .ok (.baload, 1))
    (kk : W p l e R s m args below meth c H locs cells slots Q (F0 m (pc + 1) ls (.int (bI x) :: rest))) : W p l e R s m args below meth c H locs cells slots Q (F0 m pc ls (.int j :: .ref (a q) :: rest)) := by
  subst hv
  exact q_yald C S ((O.2 q hq).2.1 hkd) k hj hk hn hdg kk
theorem o_lald (C : CallFix p m c cc nL s args Ts own) (S : fw_S G A s f H locs) (O : isO G d f b h a I N B J) (q : Nat) (hq : q < d.2.1) (hkd : d.2.2.1 q = 3) {j : Int32} (k : Nat) (hj : j = nI k) (hk : k < d.2.2.2 q) (hn : d.2.2.2 q < 2 ^ 31) {x : Int64} (hv : J q k = x) (hdg : decode cc pc = .ok (.laload, 1))
    (kk : W p l e R s m args below meth c H locs cells slots Q (F0 m (pc + 1) ls (.long x :: rest))) : W p l e R s m args below meth c H locs cells slots Q (F0 m pc ls (.int j :: .ref (a q) :: rest)) := by
  subst hv
  exact q_lald C S ((O.2 q hq).2.2.1 hkd) k hj hk hn hdg kk
theorem o_iald (C : CallFix p m c cc nL s args Ts own) (S : fw_S G A s f H locs) (O : isO G d f b h a I N B J) (q : Nat) (hq : q < d.2.1) (hkd : d.2.2.1 q = 5) {j : Int32} (k : Nat) (hj : j = nI k) (hk : k < d.2.2.2 q) (hn : d.2.2.2 q < 2 ^ 31) (hdg : decode cc pc = .ok (.iaload, 1))
    (kk : W p l e R s m args below meth c H locs cells slots Q (F0 m (pc + 1) ls (.int (J q k).toInt32 :: rest))) : W p l e R s m args below meth c H locs cells slots Q (F0 m pc ls (.int j :: .ref (a q) :: rest)) :=
  q_iald C S (g := fun j => (J q j).toInt32) ((O.2 q hq).2.2.2 hkd) k hj hk hn hdg kk
theorem o_nast (C : CallFix p m c cc nL s args Ts own) (S : fw_S G A s f H locs) (O : isO G d f b h a I N B J) (F : fw_fr f0 f lo hi) (q : Nat) (hq : q < d.2.1) (hkd : d.2.2.1 q = 1) {j : Int32} {x : Nat} (k : Nat) (hj : j = nI k) (hk : k < d.2.2.2 q) (hn : d.2.2.2 q < 2 ^ 31) (hlb : lo ≤ b + 1 + q ∧ b + 1 + q < hi) (hdg : decode cc pc = .ok (.iastore, 1))
    (kk : ∀ (f1 : fw_F) (H1 : Heap) (locs1 : List Loc), fw_S G A s f1 H1 locs1 → isO G d f1 b h a I (va_up N q (va_up (N q) k x)) B J → fw_fr f0 f1 lo hi → W p l e R s m args below meth c H1 locs1 cells slots Q (F0 m (pc + 1) ls rest)) : W p l e R s m args below meth c H locs cells slots Q (F0 m pc ls (.int (nI x) :: .int j :: .ref (a q) :: rest)) :=
  q_nast C S ((O.2 q hq).1 hkd) k hj hk hn hdg fun H1 locs1 S1 => kk _ H1 locs1 S1 (o_setN O q hq hkd _) (fw_fr_up F ((O.2 q hq).1 hkd) hlb.1 hlb.2)
theorem o_yast (C : CallFix p m c cc nL s args Ts own) (S : fw_S G A s f H locs) (O : isO G d f b h a I N B J) (F : fw_fr f0 f lo hi) (q : Nat) (hq : q < d.2.1) (hkd : d.2.2.1 q = 2) {j : Int32} {x : Bool} (k : Nat) (hj : j = nI k) (hk : k < d.2.2.2 q) (hn : d.2.2.2 q < 2 ^ 31) (hlb : lo ≤ b + 1 + q ∧ b + 1 + q < hi) (hdg : decode cc pc = .ok (.bastore, 1))
    (kk : ∀ (f1 : fw_F) (H1 : Heap) (locs1 : List Loc), fw_S G A s f1 H1 locs1 → isO G d f1 b h a I N (va_up B q (va_up (B q) k x)) J → fw_fr f0 f1 lo hi → W p l e R s m args below meth c H1 locs1 cells slots Q (F0 m (pc + 1) ls rest)) : W p l e R s m args below meth c H locs cells slots Q (F0 m pc ls (.int (bI x) :: .int j :: .ref (a q) :: rest)) :=
  q_yast C S ((O.2 q hq).2.1 hkd) k hj hk hn hdg fun H1 locs1 S1 => kk _ H1 locs1 S1 (o_setY O q hq hkd _) (fw_fr_up F ((O.2 q hq).2.1 hkd) hlb.1 hlb.2)
theorem o_last (C : CallFix p m c cc nL s args Ts own) (S : fw_S G A s f H locs) (O : isO G d f b h a I N B J) (F : fw_fr f0 f lo hi) (q : Nat) (hq : q < d.2.1) (hkd : d.2.2.1 q = 3) {j : Int32} {x : Int64} (k : Nat) (hj : j = nI k) (hk : k < d.2.2.2 q) (hn : d.2.2.2 q < 2 ^ 31) (hlb : lo ≤ b + 1 + q ∧ b + 1 + q < hi) (hdg : decode cc pc = .ok (.lastore, 1))
    (kk : ∀ (f1 : fw_F) (H1 : Heap) (locs1 : List Loc), fw_S G A s f1 H1 locs1 → isO G d f1 b h a I N B (va_up J q (va_up (J q) k x)) → fw_fr f0 f1 lo hi → W p l e R s m args below meth c H1 locs1 cells slots Q (F0 m (pc + 1) ls rest)) : W p l e R s m args below meth c H locs cells slots Q (F0 m pc ls (.long x :: .int j :: .ref (a q) :: rest)) :=
  q_last C S ((O.2 q hq).2.2.1 hkd) k hj hk hn hdg fun H1 locs1 S1 => kk _ H1 locs1 S1 (o_setJ O q hq hkd _) (fw_fr_up F ((O.2 q hq).2.2.1 hkd) hlb.1 hlb.2)
theorem upd_x (g : Nat → Int64) (k : Nat) (x : Int32) : upd (fun j => (g j).toInt32) k x = fun j => (va_up g k x.toInt64 j).toInt32 := by
  funext j
  unfold upd va_up
  split
  · simp
  · rfl
theorem o_iast (C : CallFix p m c cc nL s args Ts own) (S : fw_S G A s f H locs) (O : isO G d f b h a I N B J) (F : fw_fr f0 f lo hi) (q : Nat) (hq : q < d.2.1) (hkd : d.2.2.1 q = 5) {j : Int32} {x : Int32} (k : Nat) (hj : j = nI k) (hk : k < d.2.2.2 q) (hn : d.2.2.2 q < 2 ^ 31) (hlb : lo ≤ b + 1 + q ∧ b + 1 + q < hi) (hdg : decode cc pc = .ok (.iastore, 1))
    (kk : ∀ (f1 : fw_F) (H1 : Heap) (locs1 : List Loc), fw_S G A s f1 H1 locs1 → isO G d f1 b h a I N B (va_up J q (va_up (J q) k x.toInt64)) → fw_fr f0 f1 lo hi → W p l e R s m args below meth c H1 locs1 cells slots Q (F0 m (pc + 1) ls rest)) : W p l e R s m args below meth c H locs cells slots Q (F0 m pc ls (.int x :: .int j :: .ref (a q) :: rest)) :=
  q_iast C S (g := fun j => (J q j).toInt32) ((O.2 q hq).2.2.2 hkd) k hj hk hn hdg fun H1 locs1 S1 => kk _ H1 locs1 S1 (by rw [upd_x]; exact o_setX O q hq hkd _) (fw_fr_up F ((O.2 q hq).2.2.2 hkd) hlb.1 hlb.2)
/-! calls on an object of the world -/
theorem q_recv (S : fw_S G A s f H locs) {r i ci : Nat} {fs : List Value} (he : f r = some (i, eB ci fs)) {q : vw_C} (hc : vwCl[ci]? = some q) : ∃ cell : Cell, H[r]? = some cell ∧ cell.vm.isStatics = false ∧ s.vm.findClass q.1 = some cell.cls :=
  va_recv S.2.2.2.1.1 (fw_one S he) (q0 := 0) hc rfl
variable {y : MethodName} {bytes : ByteArray} {maxL mc ms n index : Nat} {ret : Option FieldType} {ws : List Cond} {rm : Room} {As st0 : List Value} {lv : List (Nat × Value)}
theorem q_callSi {r i ci : Nat} {fs : List Value} {Cq : vw_C} {post : Int32 → Prop} (C : CallFix p m c cc nL s args Ts own) (S : fw_S G A s f H locs) (hl : lv_has ls nL lv) (he : f r = some (i, eB ci fs)) (hc : vwCl[ci]? = some Cq) (hM : Met l y ws rm (va_Pc (.ref r :: As) (fw_P G A f)) (vp_Si post) 0 0 (fun _ => False)) (cw : CallW R s args own Cq.1 index y bytes maxL ret ws rm 0 0 n) (hn : As.length = n) (hst : st0 = As.reverse ++ .ref r :: rest) (hW : (rest.map fun v => v.category).sum ≤ 8) (hR : cells ≤ R.cells ∧ slots ≤ R.slots) (hdg : decode cc pc = .ok (.invokevirtual index, 3))
    (kk : ∀ v : Int32, post v → W p l e R s m args below meth c H locs cells slots Q (F0 m (pc + 3) ls (.int v :: rest))) : W p l e R s m args below meth c H locs cells slots Q (F0 m pc ls st0) :=
  vp_callSi (W.runV (As := As) (rest := rest) C hM cw ⟨fw_blind G A f _, q_recv S he hc, fun U hU hW => ⟨rfl, S.P hU hW⟩⟩ rfl hn hl.1 hst (lv_room hW) hdg hR) kk
theorem q_callSl {r i ci : Nat} {fs : List Value} {Cq : vw_C} {post : Int64 → Prop} (C : CallFix p m c cc nL s args Ts own) (S : fw_S G A s f H locs) (hl : lv_has ls nL lv) (he : f r = some (i, eB ci fs)) (hc : vwCl[ci]? = some Cq) (hM : Met l y ws rm (va_Pc (.ref r :: As) (fw_P G A f)) (vp_Sl post) 0 0 (fun _ => False)) (cw : CallW R s args own Cq.1 index y bytes maxL ret ws rm 0 0 n) (hn : As.length = n) (hst : st0 = As.reverse ++ .ref r :: rest) (hW : (rest.map fun v => v.category).sum ≤ 8) (hR : cells ≤ R.cells ∧ slots ≤ R.slots) (hdg : decode cc pc = .ok (.invokevirtual index, 3))
    (kk : ∀ v : Int64, post v → W p l e R s m args below meth c H locs cells slots Q (F0 m (pc + 3) ls (.long v :: rest))) : W p l e R s m args below meth c H locs cells slots Q (F0 m pc ls st0) :=
  vp_callSl (W.runV (As := As) (rest := rest) C hM cw ⟨fw_blind G A f _, q_recv S he hc, fun U hU hW => ⟨rfl, S.P hU hW⟩⟩ rfl hn hl.1 hst (lv_room hW) hdg hR) kk
theorem q_callQi {r i ci : Nat} {fs : List Value} {Cq : vw_C} {post : Int32 → fw_F → Prop} (C : CallFix p m c cc nL s args Ts own) (S : fw_S G A s f H locs) (hl : lv_has ls nL lv) (he : f r = some (i, eB ci fs)) (hc : vwCl[ci]? = some Cq) (hM : Met l y ws rm (va_Pc (.ref r :: As) (fw_P G A f)) (va_Qi post (fw_B G A) A) mc ms A) (cw : CallW R s args own Cq.1 index y bytes maxL ret ws rm mc ms n) (hn : As.length = n) (hst : st0 = As.reverse ++ .ref r :: rest) (hW : (rest.map fun v => v.category).sum ≤ 8) (hR : cells + mc ≤ R.cells ∧ slots + ms ≤ R.slots) (hdg : decode cc pc = .ok (.invokevirtual index, 3))
    (kk : ∀ (v : Int32) (f1 : fw_F) (H1 : Heap) (locs1 : List Loc), post v f1 → fw_S G A s f1 H1 locs1 → W p l e R s m args below meth c H1 locs1 (cells + mc) (slots + ms) Q (F0 m (pc + 3) ls (.int v :: rest))) : W p l e R s m args below meth c H locs cells slots Q (F0 m pc ls st0) :=
  va_calli (va_runV (As := As) (rest := rest) C hM cw ⟨fw_blind G A f _, q_recv S he hc, fun U hU hW => ⟨rfl, S.P hU hW⟩⟩ rfl hn hl.1 hst (lv_room hW) hdg hR) S.2.2.2.2.2 (fun _ _ h => h) (fun _ h => h) (fun v u t H1 locs1 ht hvm hw hB hz hk hS => kk v u H1 locs1 hw (S.after hB ht hS))
theorem q_callQl {r i ci : Nat} {fs : List Value} {Cq : vw_C} {post : Int64 → fw_F → Prop} (C : CallFix p m c cc nL s args Ts own) (S : fw_S G A s f H locs) (hl : lv_has ls nL lv) (he : f r = some (i, eB ci fs)) (hc : vwCl[ci]? = some Cq) (hM : Met l y ws rm (va_Pc (.ref r :: As) (fw_P G A f)) (va_Ql post (fw_B G A) A) mc ms A) (cw : CallW R s args own Cq.1 index y bytes maxL ret ws rm mc ms n) (hn : As.length = n) (hst : st0 = As.reverse ++ .ref r :: rest) (hW : (rest.map fun v => v.category).sum ≤ 8) (hR : cells + mc ≤ R.cells ∧ slots + ms ≤ R.slots) (hdg : decode cc pc = .ok (.invokevirtual index, 3))
    (kk : ∀ (v : Int64) (f1 : fw_F) (H1 : Heap) (locs1 : List Loc), post v f1 → fw_S G A s f1 H1 locs1 → W p l e R s m args below meth c H1 locs1 (cells + mc) (slots + ms) Q (F0 m (pc + 3) ls (.long v :: rest))) : W p l e R s m args below meth c H locs cells slots Q (F0 m pc ls st0) :=
  va_calll (va_runV (As := As) (rest := rest) C hM cw ⟨fw_blind G A f _, q_recv S he hc, fun U hU hW => ⟨rfl, S.P hU hW⟩⟩ rfl hn hl.1 hst (lv_room hW) hdg hR) S.2.2.2.2.2 (fun _ _ h => h) (fun _ h => h) (fun v u t H1 locs1 ht hvm hw hB hz hk hS => kk v u H1 locs1 hw (S.after hB ht hS))
theorem q_callQv {r i ci : Nat} {fs : List Value} {Cq : vw_C} {post : fw_F → Prop} (C : CallFix p m c cc nL s args Ts own) (S : fw_S G A s f H locs) (hl : lv_has ls nL lv) (he : f r = some (i, eB ci fs)) (hc : vwCl[ci]? = some Cq) (hM : Met l y ws rm (va_Pc (.ref r :: As) (fw_P G A f)) (va_Qv post (fw_B G A) A) mc ms A) (cw : CallW R s args own Cq.1 index y bytes maxL ret ws rm mc ms n) (hn : As.length = n) (hst : st0 = As.reverse ++ .ref r :: rest) (hW : (rest.map fun v => v.category).sum ≤ 8) (hR : cells + mc ≤ R.cells ∧ slots + ms ≤ R.slots) (hdg : decode cc pc = .ok (.invokevirtual index, 3))
    (kk : ∀ (f1 : fw_F) (H1 : Heap) (locs1 : List Loc), post f1 → fw_S G A s f1 H1 locs1 → W p l e R s m args below meth c H1 locs1 (cells + mc) (slots + ms) Q (F0 m (pc + 3) ls rest)) : W p l e R s m args below meth c H locs cells slots Q (F0 m pc ls st0) :=
  va_callv (va_runV (As := As) (rest := rest) C hM cw ⟨fw_blind G A f _, q_recv S he hc, fun U hU hW => ⟨rfl, S.P hU hW⟩⟩ rfl hn hl.1 hst (lv_room hW) hdg hR) S.2.2.2.2.2 (fun _ _ h => h) (fun _ h => h) (fun u t H1 locs1 ht hvm hw hB hz hk hS => kk u H1 locs1 hw (S.after hB ht hS))
end OROWS
