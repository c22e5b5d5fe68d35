/-! arraycopy, clone, calls that answer a reference -/
theorem cpy_nI (f g : Nat → Nat) (sp dp n : Nat) : va_cpy (fun j => nI (f j)) (fun j => nI (g j)) sp dp n = fun j => nI (va_cpy f g sp dp n j) := by
  funext j; unfold va_cpy; split <;> rfl
section LIFT2
variable {p : Program} {l : Launch} {e : Env} {R : Room} {s : State} {m : MethodId} {args : Array Value} {below : List Frame} {meth : Method} {c : Code} {H : Heap} {locs : List Loc} {cells slots : Nat} {Q : State → Prop}
variable {cc : ByteArray} {pc nL : Nat} {ls : Array Slot} {rest : List Value} {Ts : List Cond} {own : String} {G : fw_G} {A : Nat → Prop} {f f0 : fw_F}
variable {index a0 a i0 i1 n0 n1 n : Nat}
theorem q_copyN (C : CallFix p m c cc nL s args Ts own) (S : fw_S G A s f H locs) (hz : ls.size = nL) (w1 : Cond.methodLink own index arraycopyName ∈ Ts) (w2 : Cond.native arraycopyName ∈ Ts) (w3 : Cond.static arraycopyName ∈ Ts) (w4 : Cond.initialized "java/lang/System" ∈ Ts) {g0 g1 : Nat → Nat} (h0 : f a0 = some (i0, eN G n0 g0)) (h1 : f a = some (i1, eN G n1 g1)) (hn0 : n ≤ n0) (hn1 : n ≤ n1) (hn : n < 2 ^ 31) (hfr : 1 ≤ R.frames) (hlo : (rest.map fun v => v.category).sum + (nativeFrameWords "java/lang/System" "arraycopy" 5 + 11) ≤ R.locals) (hdg : decode cc pc = .ok (.invokestatic index, 3))
    (kk : ∀ (H1 : Heap) (locs1 : List Loc), fw_S G A s (fw_up f a (i1, eN G n1 (va_cpy g0 g1 0 0 n))) H1 locs1 → W p l e R s m args below meth c H1 locs1 cells slots Q (F0 m (pc + 3) ls rest)) : W p l e R s m args below meth c H locs cells slots Q (F0 m pc ls (.int (nI n) :: .int (nI 0) :: .ref a :: .int (nI 0) :: .ref a0 :: rest)) := by
  obtain ⟨hP, hD⟩ := fw_all S
  obtain ⟨q0, k0⟩ := fw_at S h0
  obtain ⟨q1, k1⟩ := fw_at S h1
  have hts := C.2.2.2.2
  refine va_copyi C.1 C.2.1 (C.2.2.1.trans hz.symm) C.2.2.2.1 (hts _ w1) (hts _ w2) (hts _ w3) (hts _ w4) S.2.2.2.1.1 hP hD S.2.2.2.2.2 q0 q1 0 0 (f := fun j => nI (g0 j)) (g := fun j => nI (g1 j)) k0 k1 rfl rfl rfl (by decide) (by decide) (nI_pos hn) (by rw [nI_clamp hn]; show 0 + n ≤ n0; omega) (by rw [nI_clamp hn]; show 0 + n ≤ n1; omega) (fun _ _ => rfl) hfr hlo hdg fun H1 locs1 hP1 hD1 hS1 => ?_
  rw [nI_clamp hn, show (nI 0).toNatClampNeg = 0 from rfl, cpy_nI] at hP1
  exact kk H1 locs1 (fw_set S h1 k1 hP1 hS1)
theorem q_copyJ (C : CallFix p m c cc nL s args Ts own) (S : fw_S G A s f H locs) (hz : ls.size = nL) (w1 : Cond.methodLink own index arraycopyName ∈ Ts) (w2 : Cond.native arraycopyName ∈ Ts) (w3 : Cond.static arraycopyName ∈ Ts) (w4 : Cond.initialized "java/lang/System" ∈ Ts) {g0 g1 : Nat → Int64} (h0 : f a0 = some (i0, eJ G n0 g0)) (h1 : f a = some (i1, eJ G n1 g1)) (hn0 : n ≤ n0) (hn1 : n ≤ n1) (hn : n < 2 ^ 31) (hfr : 1 ≤ R.frames) (hlo : (rest.map fun v => v.category).sum + (nativeFrameWords "java/lang/System" "arraycopy" 5 + 11) ≤ R.locals) (hdg : decode cc pc = .ok (.invokestatic index, 3))
    (kk : ∀ (H1 : Heap) (locs1 : List Loc), fw_S G A s (fw_up f a (i1, eJ G n1 (va_cpy g0 g1 0 0 n))) H1 locs1 → W p l e R s m args below meth c H1 locs1 cells slots Q (F0 m (pc + 3) ls rest)) : W p l e R s m args below meth c H locs cells slots Q (F0 m pc ls (.int (nI n) :: .int (nI 0) :: .ref a :: .int (nI 0) :: .ref a0 :: rest)) := by
  obtain ⟨hP, hD⟩ := fw_all S
  obtain ⟨q0, k0⟩ := fw_at S h0
  obtain ⟨q1, k1⟩ := fw_at S h1
  have hts := C.2.2.2.2
  refine va_copyl C.1 C.2.1 (C.2.2.1.trans hz.symm) C.2.2.2.1 (hts _ w1) (hts _ w2) (hts _ w3) (hts _ w4) S.2.2.2.1.1 hP hD S.2.2.2.2.2 q0 q1 1 1 (f := g0) (g := g1) k0 k1 rfl rfl rfl (by decide) (by decide) (nI_pos hn) (by rw [nI_clamp hn]; show 0 + n ≤ n0; omega) (by rw [nI_clamp hn]; show 0 + n ≤ n1; omega) (fun _ _ => rfl) hfr hlo hdg fun H1 locs1 hP1 hD1 hS1 => ?_
  rw [nI_clamp hn, show (nI 0).toNatClampNeg = 0 from rfl] at hP1
  exact kk H1 locs1 (fw_set S h1 k1 hP1 hS1)
theorem q_copyO (C : CallFix p m c cc nL s args Ts own) (S : fw_S G A s f H locs) (hz : ls.size = nL) (w1 : Cond.methodLink own index arraycopyName ∈ Ts) (w2 : Cond.native arraycopyName ∈ Ts) (w3 : Cond.static arraycopyName ∈ Ts) (w4 : Cond.initialized "java/lang/System" ∈ Ts) {g0 g1 : Nat → Option Nat} {ci : Nat} {Cq : vw_C} (hc : vwCl[ci]? = some Cq) (hca : va_Nw (.castable Cq.1 "java/lang/Object") s) (hel : ∀ i y, g0 i = some y → ∃ j fs, f y = some (j, eB ci fs)) (h0 : f a0 = some (i0, eO G n0 g0)) (h1 : f a = some (i1, eO G n1 g1)) (hn0 : n ≤ n0) (hn1 : n ≤ n1) (hn : n < 2 ^ 31) (hfr : 1 ≤ R.frames) (hlo : (rest.map fun v => v.category).sum + (nativeFrameWords "java/lang/System" "arraycopy" 5 + 11) ≤ R.locals) (hdg : decode cc pc = .ok (.invokestatic index, 3))
    (kk : ∀ (H1 : Heap) (locs1 : List Loc), fw_S G A s (fw_up f a (i1, eO G n1 (va_cpy g0 g1 0 0 n))) H1 locs1 → W p l e R s m args below meth c H1 locs1 cells slots Q (F0 m (pc + 3) ls rest)) : W p l e R s m args below meth c H locs cells slots Q (F0 m pc ls (.int (nI n) :: .int (nI 0) :: .ref a :: .int (nI 0) :: .ref a0 :: rest)) := by
  obtain ⟨hP, hD⟩ := fw_all S
  obtain ⟨q0, k0⟩ := fw_at S h0
  obtain ⟨q1, k1⟩ := fw_at S h1
  have hts := C.2.2.2.2
  refine va_copyq C.1 C.2.1 (C.2.2.1.trans hz.symm) C.2.2.2.1 (hts _ w1) (hts _ w2) (hts _ w3) (hts _ w4) S.2.2.2.1.1 hP hD S.2.2.2.2.2 q0 q1 3 3 (f := g0) (g := g1) (C := Cq.1) k0 k1 rfl rfl (by decide) (by decide) (nI_pos hn) (by rw [nI_clamp hn]; show 0 + n ≤ n0; omega) (by rw [nI_clamp hn]; show 0 + n ≤ n1; omega) (fun i _ y hy => ?_) (fun comp c0 h1 h2 => ?_) hfr hlo hdg fun H1 locs1 hP1 hD1 hS1 => ?_
  · obtain ⟨j, fs, hy⟩ := hel _ y hy
    exact q_recv S hy hc
  · obtain ⟨c2, t2, f1, f2, f3⟩ := Cond.castable_spec (va_Nw.use (A := args) rfl hca)
    cases h1.symm.trans f2
    cases h2.symm.trans f1
    exact f3
  · rw [nI_clamp hn, show (nI 0).toNatClampNeg = 0 from rfl] at hP1
    exact kk H1 locs1 (fw_set S h1 k1 hP1 hS1)
theorem q_cloneN (C : CallFix p m c cc nL s args Ts own) (S : fw_S G A s f H locs) (hz : ls.size = nL) (w1 : Cond.methodLink own index ⟨"[I", "clone", "()Ljava/lang/Object;"⟩ ∈ Ts) (w2 : Cond.sameMethod "[I" "java/lang/Object" "clone" "()Ljava/lang/Object;" ∈ Ts) (w3 : Cond.native ⟨"java/lang/Object", "clone", "()Ljava/lang/Object;"⟩ ∈ Ts) (w4 : Cond.instanceMethod ⟨"java/lang/Object", "clone", "()Ljava/lang/Object;"⟩ ∈ Ts) (w5 : Cond.selects "[I" ⟨"[I", "clone", "()Ljava/lang/Object;"⟩ ⟨"java/lang/Object", "clone", "()Ljava/lang/Object;"⟩ ∈ Ts) {g0 : Nat → Nat} (h0 : f a = some (i0, eN G n g0)) (lab : Nat) (hfr : 1 ≤ R.frames) (hlo : (rest.map fun v => v.category).sum + 14 ≤ R.locals) (hc : cells + 1 ≤ R.cells) (hs : slots + n ≤ R.slots) (hdg : decode cc pc = .ok (.invokevirtual index, 3))
    (kk : ∀ (q : Nat) (H1 : Heap), f q = none → fw_S G A s (fw_up f q (lab, eN G n g0)) H1 locs → W p l e R s m args below meth c H1 locs (cells + 1) (slots + n) Q (F0 m (pc + 3) ls (.ref q :: rest))) : W p l e R s m args below meth c H locs cells slots Q (F0 m pc ls (.ref a :: rest)) := by
  obtain ⟨hP, hD⟩ := fw_all S
  obtain ⟨q0, k0⟩ := fw_at S h0
  have hts := C.2.2.2.2
  refine va_clone C.1 C.2.1 (C.2.2.1.trans hz.symm) C.2.2.2.1 (hts _ w1) (hts _ w2) (hts _ w3) (hts _ w4) (hts _ w5) S.2.2.2.1.2.2.2.1.2.2.2.2.1 S.2.2.2.1.1 hP hD S.2.2.2.2.2 S.2.2.1 q0 0 (x := (n, .inl (fun j => nI (g0 j)))) k0 rfl (S.2.2.2.1.1.2 0 _ rfl).2 (fun i v hv => ?_) hfr hlo hc hs hdg fun q H1 hK1 hP1 hD1 hS1 => ?_
  · have hv2 : (arrV (G.2.1 0) n (fun j => Value.int (nI (g0 j)))).slots[i]? = some v := hv
    have hi : i < n := by
      have := (Array.getElem?_eq_some_iff.mp hv2).1
      rw [arrV_size] at this; exact this
    rw [arrV_read _ _ hi] at hv2
    cases hv2
    rfl
  · obtain ⟨S1, hq⟩ := fw_push S (j := lab) hP1 hD1 hS1
    exact kk q H1 hq S1
theorem q_cloneJ (C : CallFix p m c cc nL s args Ts own) (S : fw_S G A s f H locs) (hz : ls.size = nL) (w1 : Cond.methodLink own index ⟨"[J", "clone", "()Ljava/lang/Object;"⟩ ∈ Ts) (w2 : Cond.sameMethod "[J" "java/lang/Object" "clone" "()Ljava/lang/Object;" ∈ Ts) (w3 : Cond.native ⟨"java/lang/Object", "clone", "()Ljava/lang/Object;"⟩ ∈ Ts) (w4 : Cond.instanceMethod ⟨"java/lang/Object", "clone", "()Ljava/lang/Object;"⟩ ∈ Ts) (w5 : Cond.selects "[J" ⟨"[J", "clone", "()Ljava/lang/Object;"⟩ ⟨"java/lang/Object", "clone", "()Ljava/lang/Object;"⟩ ∈ Ts) {g0 : Nat → Int64} (h0 : f a = some (i0, eJ G n g0)) (lab : Nat) (hfr : 1 ≤ R.frames) (hlo : (rest.map fun v => v.category).sum + 14 ≤ R.locals) (hc : cells + 1 ≤ R.cells) (hs : slots + n ≤ R.slots) (hdg : decode cc pc = .ok (.invokevirtual index, 3))
    (kk : ∀ (q : Nat) (H1 : Heap), f q = none → fw_S G A s (fw_up f q (lab, eJ G n g0)) H1 locs → W p l e R s m args below meth c H1 locs (cells + 1) (slots + n) Q (F0 m (pc + 3) ls (.ref q :: rest))) : W p l e R s m args below meth c H locs cells slots Q (F0 m pc ls (.ref a :: rest)) := by
  obtain ⟨hP, hD⟩ := fw_all S
  obtain ⟨q0, k0⟩ := fw_at S h0
  have hts := C.2.2.2.2
  refine va_clone C.1 C.2.1 (C.2.2.1.trans hz.symm) C.2.2.2.1 (hts _ w1) (hts _ w2) (hts _ w3) (hts _ w4) (hts _ w5) S.2.2.2.1.2.2.2.1.2.2.2.2.2 S.2.2.2.1.1 hP hD S.2.2.2.2.2 S.2.2.1 q0 1 (x := (n, .inr (.inl g0))) k0 rfl (S.2.2.2.1.1.2 1 _ rfl).2 (fun i v hv => ?_) hfr hlo hc hs hdg fun q H1 hK1 hP1 hD1 hS1 => ?_
  · have hv2 : (arrV (G.2.1 1) n (fun j => Value.long (g0 j))).slots[i]? = some v := hv
    have hi : i < n := by
      have := (Array.getElem?_eq_some_iff.mp hv2).1
      rw [arrV_size] at this; exact this
    rw [arrV_read _ _ hi] at hv2
    cases hv2
    rfl
  · obtain ⟨S1, hq⟩ := fw_push S (j := lab) hP1 hD1 hS1
    exact kk q H1 hq S1
theorem q_castN (C : CallFix p m c cc nL s args Ts own) (S : fw_S G A s f H locs) (w1 : Cond.classLink own index "[I" ∈ Ts) {g0 : Nat → Nat} (h0 : f a = some (i0, eN G n g0)) (hdg : decode cc pc = .ok (.checkcast index, 3)) (kk : W p l e R s m args below meth c H locs cells slots Q (F0 m (pc + 3) ls (.ref a :: rest))) : W p l e R s m args below meth c H locs cells slots Q (F0 m pc ls (.ref a :: rest)) :=
  va_castA C.1 C.2.1 C.2.2.2.1 (C.2.2.2.2 _ w1) (fw_one S h0) 0 rfl (S.2.2.2.1.1.2 0 _ rfl).2 hdg kk
theorem q_castJ (C : CallFix p m c cc nL s args Ts own) (S : fw_S G A s f H locs) (w1 : Cond.classLink own index "[J" ∈ Ts) {g0 : Nat → Int64} (h0 : f a = some (i0, eJ G n g0)) (hdg : decode cc pc = .ok (.checkcast index, 3)) (kk : W p l e R s m args below meth c H locs cells slots Q (F0 m (pc + 3) ls (.ref a :: rest))) : W p l e R s m args below meth c H locs cells slots Q (F0 m pc ls (.ref a :: rest)) :=
  va_castA C.1 C.2.1 C.2.2.2.1 (C.2.2.2.2 _ w1) (fw_one S h0) 0 rfl (S.2.2.2.1.1.2 1 _ rfl).2 hdg kk
/-! ends and calls with references -/
theorem q_retSq (C : CallFix p m c cc nL s args Ts own) {rt : FieldType} (hr : meth.sig.returnType = some rt) (hrt : (∃ n, rt = .object n) ∨ ∃ t, rt = .array t) (hlk : meth.locks = false) {post : Option Nat → Prop} {x : Nat} (hp : post (some x)) (hdg : decode cc pc = .ok (.areturn, 1)) : W p l e R s m args below meth c s.heap [] 0 0 (MQ below (va_Sq post) args s 0 0 (fun _ => False)) (F0 m pc ls [.ref x]) :=
  W.aret C.1 C.2.1 hr hrt (Or.inr ⟨x, rfl⟩) (fun t ht _ => ⟨some x, rfl, hp, ht⟩) (fun q hq => absurd hq List.not_mem_nil) hdg hlk
/-- a reference comes back with a world -/
def fw_Qr (G : fw_G) (A : Nat → Prop) (post : Nat → fw_F → Prop) : Array Value → State → Outcome → State → Prop := va_Qr (fun (_ : fw_F) => True) (fun f1 x t => fw_B G A f1 t ∧ post x f1) A
theorem q_retQr (C : CallFix p m c cc nL s args Ts own) (S : fw_S G A s f H locs) {rt : FieldType} (hr : meth.sig.returnType = some rt) (hrt : (∃ n, rt = .object n) ∨ ∃ t, rt = .array t) (hlk : meth.locks = false) {post : Nat → fw_F → Prop} {x : Nat} (hp : post x f) (hdg : decode cc pc = .ok (.areturn, 1)) : W p l e R s m args below meth c H locs cells slots (MQ below (fw_Qr G A post) args s cells slots A) (F0 m pc ls [.ref x]) :=
  W.aret C.1 C.2.1 hr hrt (Or.inr ⟨x, rfl⟩) (fun t ht _ => ⟨⟨f, x, rfl, trivial, ⟨by rw [ht]; exact S.1, S.2.1⟩, hp⟩, S.2.2.2.2.2.F ht⟩) S.2.2.2.2.2.2.2 hdg hlk
variable {y : MethodName} {bytes : ByteArray} {maxL mc ms k : Nat} {ret : Option FieldType} {ws : List Cond} {rm : Room} {As st0 : List Value} {lv : List (Nat × Value)}
theorem q_callSq {r i ci : Nat} {fs : List Value} {Cq : vw_C} {post : Option Nat → Prop} (C : CallFix p m c cc nL s args Ts own) (S : fw_S G A s f H locs) (hl : lv_has ls nL lv) (he : f r = some (i, eB ci fs)) (hc : vwCl[ci]? = some Cq) (hM : Met l y ws rm (va_Pc (.ref r :: As) (fw_P G A f)) (va_Sq post) 0 0 (fun _ => False)) (cw : CallW R s args own Cq.1 index y bytes maxL ret ws rm 0 0 k) (hn : As.length = k) (hst : st0 = As.reverse ++ .ref r :: rest) (hW : (rest.map fun v => v.category).sum ≤ 8) (hR : cells ≤ R.cells ∧ slots ≤ R.slots) (hdg : decode cc pc = .ok (.invokevirtual index, 3))
    (kk : ∀ v : Option Nat, post v → W p l e R s m args below meth c H locs cells slots Q (F0 m (pc + 3) ls (va_rf v :: rest))) : W p l e R s m args below meth c H locs cells slots Q (F0 m pc ls st0) :=
  va_csq (W.runV (As := As) (rest := rest) C hM cw ⟨fw_blind G A f _, q_recv S he hc, fun U hU hW => ⟨rfl, S.P hU hW⟩⟩ rfl hn hl.1 hst (lv_room hW) hdg hR) kk
theorem q_callSSi {post : Int32 → Prop} (C : CallFix p m c cc nL s args Ts own) (S : fw_S G A s f H locs) (hl : lv_has ls nL lv) (hM : Met l y ws rm (va_Pc As (fw_P G A f)) (vp_Si post) 0 0 (fun _ => False)) (cw : CallB R s args own index y bytes maxL ret ws rm 0 0 k ∧ (Cond.static y).before args s = true) (hn : As.length = k) (hst : st0 = As.reverse ++ rest) (hW : (rest.map fun v => v.category).sum ≤ 8) (hR : cells ≤ R.cells ∧ slots ≤ R.slots) (hdg : decode cc pc = .ok (.invokestatic index, 3))
    (kk : ∀ v : Int32, post v → W p l e R s m args below meth c H locs cells slots Q (F0 m (pc + 3) ls (.int v :: rest))) : W p l e R s m args below meth c H locs cells slots Q (F0 m pc ls st0) :=
  vp_callSi (W.runS (As := As) (rest := rest) C hM cw ⟨fw_blind G A f _, fun U hU hW => ⟨rfl, S.P hU hW⟩⟩ rfl hn hl.1 hst (lv_room hW) hdg hR) kk
theorem q_callSQr {post : Nat → fw_F → Prop} (C : CallFix p m c cc nL s args Ts own) (S : fw_S G A s f H locs) (hl : lv_has ls nL lv) (hM : Met l y ws rm (va_Pc As (fw_P G A f)) (fw_Qr G A post) mc ms A) (cw : CallB R s args own index y bytes maxL ret ws rm mc ms k ∧ (Cond.static y).before args s = true) (hn : As.length = k) (hst : st0 = As.reverse ++ rest) (hW : (rest.map fun v => v.category).sum ≤ 8) (hR : cells + mc ≤ R.cells ∧ slots + ms ≤ R.slots) (hdg : decode cc pc = .ok (.invokestatic index, 3))
    (kk : ∀ (x : Nat) (f1 : fw_F) (H1 : Heap) (locs1 : List Loc), post x f1 → fw_S G A s f1 H1 locs1 → W p l e R s m args below meth c H1 locs1 (cells + mc) (slots + ms) Q (F0 m (pc + 3) ls (.ref x :: rest))) : W p l e R s m args below meth c H locs cells slots Q (F0 m pc ls st0) :=
  va_callr (va_runS (As := As) (rest := rest) C hM cw ⟨fw_blind G A f _, fun U hU hW => ⟨rfl, S.P hU hW⟩⟩ rfl hn hl.1 hst (lv_room hW) hdg hR) S.2.2.2.2.2 (fun _ _ h => h) (fun _ h => h) (fun u x t H1 locs1 ht hvm hw hB hz hk hS => kk x u H1 locs1 hB.2 (S.after hB.1 ht hS))
theorem q_callQr {r i ci : Nat} {fs : List Value} {Cq : vw_C} {post : Nat → fw_F → Prop} (C : CallFix p m c cc nL s args Ts own) (S : fw_S G A s f H locs) (hl : lv_has ls nL lv) (he : f r = some (i, eB ci fs)) (hc : vwCl[ci]? = some Cq) (hM : Met l y ws rm (va_Pc (.ref r :: As) (fw_P G A f)) (fw_Qr G A post) mc ms A) (cw : CallW R s args own Cq.1 index y bytes maxL ret ws rm mc ms k) (hn : As.length = k) (hst : st0 = As.reverse ++ .ref r :: rest) (hW : (rest.map fun v => v.category).sum ≤ 8) (hR : cells + mc ≤ R.cells ∧ slots + ms ≤ R.slots) (hdg : decode cc pc = .ok (.invokevirtual index, 3))
    (kk : ∀ (x : Nat) (f1 : fw_F) (H1 : Heap) (locs1 : List Loc), post x f1 → fw_S G A s f1 H1 locs1 → W p l e R s m args below meth c H1 locs1 (cells + mc) (slots + ms) Q (F0 m (pc + 3) ls (.ref x :: rest))) : W p l e R s m args below meth c H locs cells slots Q (F0 m pc ls st0) :=
  va_callr (va_runV (As := As) (rest := rest) C hM cw ⟨fw_blind G A f _, q_recv S he hc, fun U hU hW => ⟨rfl, S.P hU hW⟩⟩ rfl hn hl.1 hst (lv_room hW) hdg hR) S.2.2.2.2.2 (fun _ _ h => h) (fun _ h => h) (fun u x t H1 locs1 ht hvm hw hB hz hk hS => kk x u H1 locs1 hB.2 (S.after hB.1 ht hS))
theorem q_callIv {r : Nat} {post : fw_F → Prop} (C : CallFix p m c cc nL s args Ts own) (S : fw_S G A s f H locs) (hl : lv_has ls nL lv) (hM : Met l y ws rm (va_Pc (.ref r :: As) (fw_P G A f)) (va_Qv post (fw_B G A) A) mc ms A) (cw : CallB R s args own index y bytes maxL none ws rm mc ms k ∧ y.name = "<init>" ∧ (Cond.instanceMethod y).before args s = true) (hn : As.length = k) (hst : st0 = As.reverse ++ .ref r :: rest) (hW : (rest.map fun v => v.category).sum ≤ 8) (hR : cells + mc ≤ R.cells ∧ slots + ms ≤ R.slots) (hdg : decode cc pc = .ok (.invokespecial index, 3))
    (kk : ∀ (f1 : fw_F) (H1 : Heap) (locs1 : List Loc), post f1 → fw_S G A s f1 H1 locs1 → W p l e R s m args below meth c H1 locs1 (cells + mc) (slots + ms) Q (F0 m (pc + 3) ls rest)) : W p l e R s m args below meth c H locs cells slots Q (F0 m pc ls st0) :=
  va_callv (va_runI (As := As) (rest := rest) C hM cw ⟨fw_blind G A f _, fun U hU hW => ⟨rfl, S.P hU hW⟩⟩ rfl hn hl.1 hst (lv_room hW) hdg hR) S.2.2.2.2.2 (fun _ _ h => h) (fun _ h => h) (fun u t H1 locs1 ht hvm hw hB hz hk hS => kk u H1 locs1 hw (S.after hB ht hS))
theorem q_callINv {r : Nat} {host : String} {post : fw_F → Prop} (C : CallFix p m c cc nL s args Ts own) (S : fw_S G A s f H locs) (hl : lv_has ls nL lv) (hM : Met l y ws rm (va_Pc (.ref r :: As) (fw_P G A f)) (va_Qv post (fw_B G A) A) mc ms A) (cw : va_CN R s args own index y host bytes maxL none ws rm mc ms k ∧ y.name = "<init>" ∧ (Cond.instanceMethod y).before args s = true) (hn : As.length = k) (hst : st0 = As.reverse ++ .ref r :: rest) (hW : (rest.map fun v => v.category).sum ≤ 8) (hR : cells + mc ≤ R.cells ∧ slots + ms ≤ R.slots) (hdg : decode cc pc = .ok (.invokespecial index, 3))
    (kk : ∀ (f1 : fw_F) (H1 : Heap) (locs1 : List Loc), post f1 → fw_S G A s f1 H1 locs1 → W p l e R s m args below meth c H1 locs1 (cells + mc) (slots + ms) Q (F0 m (pc + 3) ls rest)) : W p l e R s m args below meth c H locs cells slots Q (F0 m pc ls st0) :=
  va_callv (va_runIN (As := As) (rest := rest) C hM cw ⟨fw_blind G A f _, fun U hU hW => ⟨rfl, S.P hU hW⟩⟩ rfl hn hl.1 hst (lv_room hW) hdg hR) S.2.2.2.2.2 (fun _ _ h => h) (fun _ h => h) (fun u t H1 locs1 ht hvm hw hB hz hk hS => kk u H1 locs1 hw (S.after hB ht hS))
/-- an object is made -/
theorem q_new (C : CallFix p m c cc nL s args Ts own) (S : fw_S G A s f H locs) {Cn : String} {T : u_T} {N ci : Nat} (hc : vwCl[ci]? = some (Cn, T, N)) (hin : ∀ w ∈ u_ws Cn T N, w ∈ Ts) (ty : Nat → FieldType) (hty : ∀ k, k < N → parseFieldDescriptor (T k).2.2.1 = some (ty k)) (w1 : Cond.classLink own index Cn ∈ Ts) (w2 : Cond.instantiable Cn N ∈ Ts) (w3 : Cond.initialized Cn ∈ Ts) (lab : Nat) {fs : List Value} (hfs : ∀ j, j < N → defaultValue (ty j) = vp_V fs j) (hcl : cells + 1 ≤ R.cells) (hsl : slots + N ≤ R.slots) (hdg : decode cc pc = .ok (.new index, 3))
    (kk : ∀ (q : Nat) (H1 : Heap), f q = none → fw_S G A s (fw_up f q (lab, eB ci fs)) H1 locs → W p l e R s m args below meth c H1 locs (cells + 1) (slots + N) Q (F0 m (pc + 3) ls (.ref q :: rest))) : W p l e R s m args below meth c H locs cells slots Q (F0 m pc ls rest) := by
  obtain ⟨hP, hD⟩ := fw_all S
  have hts := C.2.2.2.2
  refine va_new C.1 C.2.1 hts hin ty hty C.2.2.2.1 (hts _ w1) (hts _ w2) (hts _ w3) S.2.2.2.1.1 hP hD S.2.2.2.2.2 S.2.2.1 hc hfs hcl hsl hdg fun q H1 hP1 hD1 hS1 => ?_
  obtain ⟨S1, hq⟩ := fw_push S (j := lab) hP1 hD1 hS1
  exact kk q H1 hq S1
end LIFT2
