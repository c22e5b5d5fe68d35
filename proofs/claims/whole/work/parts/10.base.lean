/-! BASE: a world as a partial map from addresses to cells, each with a label; rows of the machine over it -/
abbrev fw_F : Type := Nat → Option (Nat × va_E)
abbrev fw_G : Type := va_G × (Nat → ClassId) × Nat
def bI (b : Bool) : Int32 := if b = true then 1 else 0
def eB (ci : Nat) (fs : List Value) : va_E := .inr (ci, fs)
def eI (G : fw_G) (n : Nat) (g : Nat → Int32) : va_E := .inl (G.2.1 0, n, .inl g)
def eJ (G : fw_G) (n : Nat) (g : Nat → Int64) : va_E := .inl (G.2.1 1, n, .inr (.inl g))
def eZ (G : fw_G) (n : Nat) (g : Nat → Int32) : va_E := .inl (G.2.1 2, n, .inl g)
def eO (G : fw_G) (n : Nat) (g : Nat → Option Nat) : va_E := .inl (G.2.1 3, n, .inr (.inr (.inr (.inr g))))
def eN (G : fw_G) (n : Nat) (g : Nat → Nat) : va_E := eI G n (fun j => nI (g j))
def eY (G : fw_G) (n : Nat) (g : Nat → Bool) : va_E := eZ G n (fun j => bI (g j))
def fw_up (f : fw_F) (a : Nat) (x : Nat × va_E) : fw_F := fun b => if b = a then some x else f b
theorem fw_eq (f : fw_F) (a : Nat) (x : Nat × va_E) : fw_up f a x a = some x := if_pos rfl
theorem fw_ne {f : fw_F} {a b : Nat} {x : Nat × va_E} (h : b ≠ a) : fw_up f a x b = f b := if_neg h
theorem fw_lab {f : fw_F} {a b i j : Nat} {x y : va_E} (hb : f b = some (i, x)) (ha : f a = some (j, y)) (hij : i ≠ j) : b ≠ a := by
  intro e
  subst e
  exact hij (congrArg Prod.fst (Option.some.inj (hb.symm.trans ha)))
theorem fw_keep {f : fw_F} {a b i j : Nat} {x y : va_E} {z : Nat × va_E} (hb : f b = some (i, x)) (ha : f a = some (j, y)) (hij : i ≠ j) : fw_up f a z b = some (i, x) := by
  rw [fw_ne (fw_lab hb ha hij)]; exact hb
/-- what lies outside of the labels lo .. hi - 1 stays -/
def fw_fr (f f' : fw_F) (lo hi : Nat) : Prop := ∀ (q i : Nat) (x : va_E), f q = some (i, x) → (i < lo ∨ hi ≤ i) → f' q = some (i, x)
theorem fw_fr_rf (f : fw_F) (lo hi : Nat) : fw_fr f f lo hi := fun _ _ _ h _ => h
theorem fw_fr_up {f f' : fw_F} {lo hi a i : Nat} {x : va_E} {z : Nat × va_E} (h : fw_fr f f' lo hi) (ha : f' a = some (i, x)) (h1 : lo ≤ i) (h2 : i < hi) : fw_fr f (fw_up f' a z) lo hi := fun q j y hq hj => fw_keep (h q j y hq hj) ha (by omega)
theorem fw_fr_tr {f f' f2 : fw_F} {lo hi : Nat} (h : fw_fr f f' lo hi) (h2 : fw_fr f' f2 lo hi) : fw_fr f f2 lo hi := fun q i x hq hi => h2 q i x (h q i x hq hi) hi
theorem fw_fr_wd {f f' : fw_F} {lo hi lo' hi' : Nat} (h : fw_fr f f' lo hi) (h1 : lo' ≤ lo) (h2 : hi ≤ hi') : fw_fr f f' lo' hi' := fun q i x hq hj => h q i x hq (by omega)
def fw_H (G : fw_G) (f : fw_F) (H : Heap) : Prop := ∀ (a i : Nat) (x : va_E), f a = some (i, x) → va_at G.1 vwCl (a, x) H
def fw_tys (G : fw_G) : List (ClassId × FieldType) := [(G.2.1 0, .int), (G.2.1 1, .long), (G.2.1 2, .boolean), (G.2.1 3, .object "java/lang/Object")]
def fw_Nw (G : fw_G) (U : State) : Prop := (va_Nw (.fieldLinkNest RX0 19 RX2 "places" "[I" RX4) U ∧ va_Nw (.fieldLinkNest RX0 35 RX2 "factors" "[J" RX4) U ∧ va_Nw (.fieldLinkNest RX3 60 RX2 "places" "[I" RX4) U) ∧ (va_Nw (.methodLinkNest RX4 18 yX2_init RX4) U ∧ va_Nw (.methodLinkNest RX4 32 yX3_init RX4) U ∧ va_Nw (.methodLinkNest RX4 9 yX1_init RX4) U) ∧ (va_Nw (.castable RX0 RX0) U ∧ va_Nw (.castable RX0 "java/lang/Object") U ∧ va_Nw (.castable RX1 RX1) U ∧ va_Nw (.castable RX1 "java/lang/Object") U ∧ va_Nw (.castable "[I" "java/lang/Cloneable") U ∧ va_Nw (.castable "[J" "java/lang/Cloneable") U) ∧ va_AO "java/lang/Object" U ∧ va_Dc U ∧ va_Mi "[Ljava/lang/Object;" (G.2.1 9) U
def fw_K (G : fw_G) (U : State) : Prop := va_K G.1 vwCl (fw_tys G) U ∧ fw_Nw G U
def fw_Z (G : fw_G) (A : Nat → Prop) (U : State) (H : Heap) : Prop := va_Z "java/util/ArrayList" "DEFAULTCAPACITY_EMPTY_ELEMENTDATA" "[Ljava/lang/Object;" (.ref G.2.2) A U H ∧ va_T (.object "java/lang/Object") G.2.2 0 (fun _ => .null) A U H
def fw_P (G : fw_G) (A : Nat → Prop) (f : fw_F) (U : State) : Prop := fw_H G f U.heap ∧ (∀ (a : Nat) (x : Nat × va_E), f a = some x → A a) ∧ (∀ q : Nat, U.heap.size ≤ q → A q) ∧ fw_K G U ∧ fw_Z G A U U.heap
def fw_B (G : fw_G) (A : Nat → Prop) (f : fw_F) (U : State) : Prop := fw_H G f U.heap ∧ ∀ (a : Nat) (x : Nat × va_E), f a = some x → A a
def fw_S (G : fw_G) (A : Nat → Prop) (s : State) (f : fw_F) (H : Heap) (locs : List Loc) : Prop := fw_H G f H ∧ (∀ (a : Nat) (x : Nat × va_E), f a = some x → A a) ∧ (∀ q : Nat, s.heap.size ≤ q → A q) ∧ fw_K G s ∧ fw_Z G A s s.heap ∧ va_S A s.heap H locs
theorem fw_Nw.warm {G : fw_G} {s U : State} (hW : s.WarmedH U.vm) (h : fw_Nw G s) : fw_Nw G U := by
  obtain ⟨⟨f1, f2, f3⟩, ⟨m1, m2, m3⟩, ⟨c1, c2, c3, c4, c5, c6⟩, ao, dc, hmi⟩ := h
  exact ⟨⟨va_Nw.warmF hW f1, va_Nw.warmF hW f2, va_Nw.warmF hW f3⟩, ⟨va_Nw.warmM hW m1, va_Nw.warmM hW m2, va_Nw.warmM hW m3⟩, ⟨va_Nw.warmC hW c1, va_Nw.warmC hW c2, va_Nw.warmC hW c3, va_Nw.warmC hW c4, va_Nw.warmC hW c5, va_Nw.warmC hW c6⟩, va_AO.moved hW.alike ao, va_Dc.moved hW.alike dc, va_Mi.moved hW.alike hmi⟩
theorem fw_K.warm {G : fw_G} {s U : State} (hW : s.WarmedH U.vm) (h : fw_K G s) : fw_K G U := ⟨va_K.moved hW.alike h.1, fw_Nw.warm hW h.2⟩
theorem fw_P.start {G : fw_G} {A : Nat → Prop} {f : fw_F} {s : State} (h : fw_P G A f s) : fw_S G A s f s.heap [] := ⟨h.1, h.2.1, h.2.2.1, h.2.2.2.1, h.2.2.2.2, va_S.rf⟩
theorem fw_S.P {G : fw_G} {A : Nat → Prop} {f : fw_F} {s U : State} {H : Heap} {locs : List Loc} (h : fw_S G A s f H locs) (hU : U.heap = H) (hW : s.WarmedH U.vm) : fw_P G A f U := by
  obtain ⟨h1, h2, h3, h4, h5, h6⟩ := h
  refine ⟨by rw [hU]; exact h1, h2, fun q hq => h3 q (Nat.le_trans h6.1 (by rw [hU] at hq; exact hq)), h4.warm hW, ?_⟩
  rw [hU]
  exact ⟨va_Z.moved hW.alike (h5.1.kept h6.2.1), va_T.moved hW.alike (h5.2.kept h6.2.1)⟩
theorem fw_S.after {G : fw_G} {A : Nat → Prop} {f f' : fw_F} {s t : State} {H H1 : Heap} {locs locs1 : List Loc} (h : fw_S G A s f H locs) (hB : fw_B G A f' t) (ht : t.heap = H1) (hS : va_S A s.heap H1 locs1) : fw_S G A s f' H1 locs1 := ⟨by rw [← ht]; exact hB.1, hB.2, h.2.2.1, h.2.2.2.1, h.2.2.2.2.1, hS⟩
theorem fw_blind (G : fw_G) (A : Nat → Prop) (f : fw_F) (av : List Value) : FrameBlind (va_Pc av (fw_P G A f)) := fun a U g mk h => ⟨h.1, h.2.1, h.2.2.1, h.2.2.2.1, ⟨va_K.moved (u := U) (U := U.calling g mk a) (Vm.Alike.refl U.vm) h.2.2.2.2.1.1, h.2.2.2.2.1.2⟩, h.2.2.2.2.2⟩
theorem fw_one {G : fw_G} {A : Nat → Prop} {f : fw_F} {s : State} {H : Heap} {locs : List Loc} (h : fw_S G A s f H locs) {a i : Nat} {x : va_E} (e : f a = some (i, x)) : va_P G.1 vwCl [(a, x)] H := by
  intro k q hq
  match k, hq with
  | 0, hq => cases hq; exact h.1 a i x e
  | k + 1, hq => simp at hq
/-- a cell was written -/
theorem fw_S.put {G : fw_G} {A : Nat → Prop} {f : fw_F} {s : State} {H H1 : Heap} {locs : List Loc} (h : fw_S G A s f H locs) {a i j k : Nat} {x y : va_E} (e : f a = some (i, x)) (hy : va_at G.1 vwCl (a, y) H1) (hz : H1.size = H.size) (oq : ∀ q : Nat, q ≠ a → H1[q]? = H[q]?) : fw_S G A s (fw_up f a (j, y)) H1 (locs ++ [⟨a, k⟩]) := by
  obtain ⟨h1, h2, h3, h4, h5, h6⟩ := h
  refine ⟨fun b i2 z hb => ?_, fun b z hb => ?_, h3, h4, h5, h6.put hz oq (h2 a _ e)⟩
  · by_cases hba : b = a
    · subst hba
      rw [fw_eq] at hb
      cases hb
      exact hy
    · rw [fw_ne hba] at hb
      exact (h1 b i2 z hb).kept (oq b hba)
  · by_cases hba : b = a
    · subst hba; exact h2 b _ e
    · rw [fw_ne hba] at hb; exact h2 b z hb
/-- a cell was made -/
theorem fw_S.born {G : fw_G} {A : Nat → Prop} {f : fw_F} {s : State} {H H1 : Heap} {locs : List Loc} (h : fw_S G A s f H locs) {j : Nat} {y : va_E} (hy : va_at G.1 vwCl (H.size, y) H1) (hz : H1.size = H.size + 1) (oq : ∀ q : Nat, q < H.size → H1[q]? = H[q]?) : fw_S G A s (fw_up f H.size (j, y)) H1 locs ∧ f H.size = none := by
  obtain ⟨h1, h2, h3, h4, h5, h6⟩ := h
  have hn : f H.size = none := by
    cases hf : f H.size with
    | none => rfl
    | some z => exact absurd (h1 H.size z.1 z.2 hf).lt (Nat.lt_irrefl _)
  refine ⟨⟨fun b i2 z hb => ?_, fun b z hb => ?_, h3, h4, h5, ⟨Nat.le_trans h6.1 (by omega), fun q hq hA => (oq q (Nat.lt_of_lt_of_le hq h6.1)).trans (h6.2.1 q hq hA), h6.2.2⟩⟩, hn⟩
  · by_cases hba : b = H.size
    · subst hba
      rw [fw_eq] at hb
      cases hb
      exact hy
    · rw [fw_ne hba] at hb
      exact (h1 b i2 z hb).kept (oq b (h1 b i2 z hb).lt)
  · by_cases hba : b = H.size
    · subst hba; exact h3 _ h6.1
    · rw [fw_ne hba] at hb; exact h2 b z hb
theorem fw_new {f : fw_F} {a b i : Nat} {x : va_E} {z : Nat × va_E} (hb : f b = some (i, x)) (ha : f a = none) : fw_up f a z b = some (i, x) := by
  rw [fw_ne (fun e => by subst e; rw [hb] at ha; cases ha)]; exact hb
theorem fw_fr_nw {f f' : fw_F} {lo hi a : Nat} {z : Nat × va_E} (h : fw_fr f f' lo hi) (ha : f' a = none) : fw_fr f (fw_up f' a z) lo hi := fun q j y hq hj => fw_new (h q j y hq hj) ha
/-- a method's head -/
theorem q_head {l : Launch} {y : MethodName} {ws ws' : List Cond} {rm : Room} {Qc : Array Value → State → Outcome → State → Prop} {mc ms : Nat} {free : Addr → Prop} {cc : ByteArray} {maxL : Nat} {ret : Option FieldType} {G : fw_G} {A : Nat → Prop} {f : fw_F} {av : List Value} (hw : ws = Cond.code y cc maxL ret :: ws') (hy : plainName y.cls = true) (hle : (lg_sl av).length ≤ maxL)
    (body : ∀ (p : Program) (e : Env) (s : State) (m : MethodId) (below : List Frame) (meth : Method) (c : Code) (ls : Array Slot), CallFix p m c cc maxL s av.toArray ws y.cls → meth.sig.returnType = ret → meth.locks = false → meth.name = y.name → fw_P G A f s → lv_has ls maxL (lv_args 0 av) → W p l e rm s m av.toArray below meth c s.heap [] 0 0 (MQ below Qc av.toArray s mc ms free) (F0 m 0 ls [])) : Met l y ws rm (va_Pc av (fw_P G A f)) Qc mc ms free := by
  refine Met.ofW (cc := cc) (maxL := maxL) (ret := ret) hy hw ?_
  intro p e s m args below meth c s₁ B hml hv
  obtain ⟨rfl, hP⟩ := hv
  have hts := atoms_spec (ws := ws) B.pre
  have hown : s.vm.findClass y.cls = some m.cls := findClass_of_methodNamed B.named
  have hl := lv_entry av (n := maxL) hle
  rw [lg_entry_eq]
  exact body p e s m below meth c _ ⟨B.exec, B.bytes, hml, hown, hts⟩ B.returns B.notSynchronized (name_of_methodNamed B.named B.method).1 hP hl
