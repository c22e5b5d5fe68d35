/-! ROWS over the world -/
theorem bI_t : bI true = 1 := rfl
theorem bI_f : bI false = 0 := rfl
theorem bI_eq0 {b : Bool} : bI b = 0 ↔ b = false := by cases b <;> decide
theorem bI_ne0 {b : Bool} : ¬ bI b = 0 ↔ b = true := by cases b <;> decide
theorem bI_nar (b : Bool) : narrow .boolean (.int (bI b)) = .int (bI b) := by cases b <;> decide
theorem bI_vnar (b : Bool) : vp_nar .boolean (bI b) = bI b := by cases b <;> decide
theorem upd_nI (g : Nat → Nat) (k x : Nat) : upd (fun j => nI (g j)) k (nI x) = fun j => nI (va_up g k x j) := by
  funext j; unfold upd va_up; split <;> rfl
theorem upd_bI (g : Nat → Bool) (k : Nat) (x : Bool) : upd (fun j => bI (g j)) k (bI x) = fun j => bI (va_up g k x j) := by
  funext j; unfold upd va_up; split <;> rfl
theorem updL_up (g : Nat → Int64) (k : Nat) (x : Int64) : vp_updL g k x = va_up g k x := by
  funext j; unfold vp_updL va_up; rfl
section ROWS
variable {p : Program} {l : Launch} {e : Env} {R : Room} {s : State} {m : MethodId} {args : Array Value} {below : List Frame} {meth : Method} {c : Code} {H : Heap} {locs : List Loc} {cells slots : Nat} {Q : State → Prop}
variable {cc : ByteArray} {pc nL : Nat} {ls : Array Slot} {rest : List Value} {Ts : List Cond} {own : String} {G : fw_G} {A : Nat → Prop} {f : fw_F}
theorem q_get (C : CallFix p m c cc nL s args Ts own) (S : fw_S G A s f H locs) {a i ci index : Nat} {fs : List Value} (he : f a = some (i, eB ci fs)) {Cn : String} {T : u_T} {N : Nat} (hc : vwCl[ci]? = some (Cn, T, N)) (hin : ∀ w ∈ u_ws Cn T N, w ∈ Ts) (k : Nat) (hk : k < N) (hl : Cond.fieldLink own index (T k).1 (T k).2.1 (T k).2.2.1 ∈ Ts) {v : Value} (hv : fs[k]? = some v) (hdg : decode cc pc = .ok (.getfield index, 3))
    (kk : W p l e R s m args below meth c H locs cells slots Q (F0 m (pc + 3) ls (v :: rest))) : W p l e R s m args below meth c H locs cells slots Q (F0 m pc ls (.ref a :: rest)) :=
  va_get C.1 C.2.1 C.2.2.2.2 hin C.2.2.2.1 S.2.2.2.1.1 (fw_one S he) 0 rfl hc k hk (C.2.2.2.2 _ hl) (fun _ h => h) hv hdg kk
theorem q_getN (C : CallFix p m c cc nL s args Ts own) (S : fw_S G A s f H locs) {a i ci index : Nat} {fs : List Value} (he : f a = some (i, eB ci fs)) {Cn host : String} {T : u_T} {N : Nat} (hc : vwCl[ci]? = some (Cn, T, N)) (hin : ∀ w ∈ u_ws Cn T N, w ∈ Ts) (k : Nat) (hk : k < N) (hl : va_Nw (.fieldLinkNest own index (T k).1 (T k).2.1 (T k).2.2.1 host) s) {v : Value} (hv : fs[k]? = some v) (hdg : decode cc pc = .ok (.getfield index, 3))
    (kk : W p l e R s m args below meth c H locs cells slots Q (F0 m (pc + 3) ls (v :: rest))) : W p l e R s m args below meth c H locs cells slots Q (F0 m pc ls (.ref a :: rest)) :=
  va_getN C.1 C.2.1 C.2.2.2.2 hin C.2.2.2.1 S.2.2.2.1.1 (fw_one S he) 0 rfl hc k hk (va_Nw.use rfl hl) (fun _ h => h) hv hdg kk
theorem q_put (C : CallFix p m c cc nL s args Ts own) (S : fw_S G A s f H locs) {a i ci index : Nat} {fs : List Value} (he : f a = some (i, eB ci fs)) {Cn : String} {T : u_T} {N : Nat} (hc : vwCl[ci]? = some (Cn, T, N)) (hin : ∀ w ∈ u_ws Cn T N, w ∈ Ts) (ty0 : Nat → FieldType) (hty : ∀ k, k < N → parseFieldDescriptor (T k).2.2.1 = some (ty0 k)) (hnm : ∀ a, a < N → ∀ b, b < N → a ≠ b → (T a).2.1 ≠ (T b).2.1) (k : Nat) (hk : k < N) (hl : Cond.fieldLink own index (T k).1 (T k).2.1 (T k).2.2.1 ∈ Ts) (hfin : (T k).2.2.2 = false) {v : Value} (hn : narrow (ty0 k) v = v) (hfit : fits (ty0 k) v = true) (hlen : k < fs.length) (hdg : decode cc pc = .ok (.putfield index, 3))
    (kk : ∀ (H1 : Heap) (locs1 : List Loc), fw_S G A s (fw_up f a (i, eB ci (fs.set k v))) H1 locs1 → W p l e R s m args below meth c H1 locs1 cells slots Q (F0 m (pc + 3) ls rest)) : W p l e R s m args below meth c H locs cells slots Q (F0 m pc ls (v :: .ref a :: rest)) := by
  have hts := C.2.2.2.2
  have hap := va_apart (own := own) hts hin ty0 hty hnm S.2.2.2.1.1 hc
  obtain ⟨r, h1, cell, q1, q2, q3, q4⟩ := S.1 a i _ he
  have hr : r = (Cn, T, N) := Option.some.inj (h1.symm.trans hc)
  subst hr
  obtain ⟨hS, hfc, kC, hkC, hkind⟩ := S.2.2.2.1.1.1 ci _ hc
  obtain ⟨cf, kf, fi, fd, hi, hsl⟩ := hS k hk
  have hlay := hts _ (hin _ (u_in_lay hk))
  unfold u_lay at hlay
  rw [if_neg (by rw [hfin]; decide)] at hlay
  have hst := (u_facts hfc hkC (u_lays hts hin hk) hi).1
  have h6 := u_store hfc hkC hkind hlay hi (hty k hk) hn hfit
  refine W.putK C.1 C.2.1 (f := fd) ⟨C.2.2.2.1, hts _ hl, ⟨_, _, _, hi⟩, hst⟩ (by rw [q2]; exact h6) q1 q3 (by rw [hsl]; exact k2_hasslot (q4 k hk)) rfl rfl hdg fun H' e1 e2 e3 => ?_
  rw [hsl] at e1 ⊢
  exact kk H' _ (S.put he ⟨_, hc, t_OB.to (V := updV (vp_V fs) k v) ⟨_, e1, q2, q3, t_set q4 hap hk v⟩ (fun j _ => vp_updV_set hlen v j)⟩ e2 e3)
theorem q_putF (C : CallFix p m c cc nL s args Ts own) (S : fw_S G A s f H locs) {a i ci index : Nat} {fs : List Value} (he : f a = some (i, eB ci fs)) {Cn : String} {T : u_T} {N : Nat} (hc : vwCl[ci]? = some (Cn, T, N)) (hin : ∀ w ∈ u_ws Cn T N, w ∈ Ts) (ty0 : Nat → FieldType) (hty : ∀ k, k < N → parseFieldDescriptor (T k).2.2.1 = some (ty0 k)) (hnm : ∀ a, a < N → ∀ b, b < N → a ≠ b → (T a).2.1 ≠ (T b).2.1) (k : Nat) (hk : k < N) (hl : Cond.fieldLink own index (T k).1 (T k).2.1 (T k).2.2.1 ∈ Ts) (hfin : (T k).2.2.2 = true) (hin2 : meth.name = "<init>") (hdecl : (T k).1 = own) {v : Value} (hn : narrow (ty0 k) v = v) (hfit : fits (ty0 k) v = true) (hlen : k < fs.length) (hdg : decode cc pc = .ok (.putfield index, 3))
    (kk : ∀ (H1 : Heap) (locs1 : List Loc), fw_S G A s (fw_up f a (i, eB ci (fs.set k v))) H1 locs1 → W p l e R s m args below meth c H1 locs1 cells slots Q (F0 m (pc + 3) ls rest)) : W p l e R s m args below meth c H locs cells slots Q (F0 m pc ls (v :: .ref a :: rest)) := by
  have hts := C.2.2.2.2
  have hown := C.2.2.2.1
  have hap := va_apart (own := own) hts hin ty0 hty hnm S.2.2.2.1.1 hc
  obtain ⟨r, h1, cell, q1, q2, q3, q4⟩ := S.1 a i _ he
  have hr : r = (Cn, T, N) := Option.some.inj (h1.symm.trans hc)
  subst hr
  obtain ⟨hS, hfc, kC, hkC, hkind⟩ := S.2.2.2.1.1.1 ci _ hc
  obtain ⟨cf, kf, fi, fd, hi, hsl⟩ := hS k hk
  have hlay := hts _ (hin _ (u_in_lay hk))
  unfold u_lay at hlay
  rw [if_pos hfin] at hlay
  have hst := (u_facts hfc hkC (u_lays hts hin hk) hi).1
  have hcf : m.cls = cf := by
    obtain ⟨_, _, c', _, _, _, -, -, hf', -, -, -, hown2, -⟩ := Cond.laysFinal_spec hlay
    have e1 : c' = cf := by have := hi.symm.trans hf'; simp at this; exact this.1.symm
    rw [hdecl] at hown2
    rw [← e1]; exact Option.some.inj (hown.symm.trans hown2)
  have h6 := u_fits hfc hkC hkind (Or.inr hlay) hi (hty k hk) hn hfit
  refine W.putFinK C.1 C.2.1 hown (hts _ hl) hi hst hcf hin2 (by rw [q2]; exact h6) q1 q3 (by rw [hsl]; exact k2_hasslot (q4 k hk)) rfl rfl hdg fun H' e1 e2 e3 => ?_
  rw [hsl] at e1 ⊢
  exact kk H' _ (S.put he ⟨_, hc, t_OB.to (V := updV (vp_V fs) k v) ⟨_, e1, q2, q3, t_set q4 hap hk v⟩ (fun j _ => vp_updV_set hlen v j)⟩ e2 e3)
theorem q_iald (C : CallFix p m c cc nL s args Ts own) (S : fw_S G A s f H locs) {a i n : Nat} {g : Nat → Int32} (he : f a = some (i, eI G n g)) {j : Int32} (k : Nat) (hj : j = nI k) (hk : k < n) (hn : n < 2 ^ 31) (hdg : decode cc pc = .ok (.iaload, 1))
    (kk : W p l e R s m args below meth c H locs cells slots Q (F0 m (pc + 1) ls (.int (g k) :: rest))) : W p l e R s m args below meth c H locs cells slots Q (F0 m pc ls (.int j :: .ref a :: rest)) := by
  subst hj
  refine va_iald C.1 C.2.1 S.2.2.2.1.1 (fw_one S he) 0 0 rfl rfl (vp_in_nI hk hn) hdg ?_
  rw [nI_clamp (Nat.lt_trans hk hn)]
  exact kk
theorem q_nald (C : CallFix p m c cc nL s args Ts own) (S : fw_S G A s f H locs) {a i n : Nat} {g : Nat → Nat} (he : f a = some (i, eN G n g)) {j : Int32} (k : Nat) (hj : j = nI k) (hk : k < n) (hn : n < 2 ^ 31) (hdg : decode cc pc = .ok (.iaload, 1))
    (kk : W p l e R s m args below meth c H locs cells slots Q (F0 m (pc + 1) ls (.int (nI (g k)) :: rest))) : W p l e R s m args below meth c H locs cells slots Q (F0 m pc ls (.int j :: .ref a :: rest)) :=
  q_iald C S (g := fun j => nI (g j)) he k hj hk hn hdg kk
theorem q_yald (C : CallFix p m c cc nL s args Ts own) (S : fw_S G A s f H locs) {a i n : Nat} {g : Nat → Bool} (he : f a = some (i, eY G n g)) {j : Int32} (k : Nat) (hj : j = nI k) (hk : k < n) (hn : n < 2 ^ 31) (hdg : decode cc pc = .ok (.baload, 1))
    (kk : W p l e R s m args below meth c H locs cells slots Q (F0 m (pc + 1) ls (.int (bI (g k)) :: rest))) : W p l e R s m args below meth c H locs cells slots Q (F0 m pc ls (.int j :: .ref a :: rest)) := by
  subst hj
  refine va_zald C.1 C.2.1 S.2.2.2.1.1 (fw_one S he) 0 2 rfl rfl (vp_in_nI hk hn) hdg ?_
  rw [nI_clamp (Nat.lt_trans hk hn)]
  exact kk
theorem q_lald (C : CallFix p m c cc nL s args Ts own) (S : fw_S G A s f H locs) {a i n : Nat} {g : Nat → Int64} (he : f a = some (i, eJ G n g)) {j : Int32} (k : Nat) (hj : j = nI k) (hk : k < n) (hn : n < 2 ^ 31) (hdg : decode cc pc = .ok (.laload, 1))
    (kk : W p l e R s m args below meth c H locs cells slots Q (F0 m (pc + 1) ls (.long (g k) :: rest))) : W p l e R s m args below meth c H locs cells slots Q (F0 m pc ls (.int j :: .ref a :: rest)) := by
  subst hj
  refine va_lald C.1 C.2.1 S.2.2.2.1.1 (fw_one S he) 0 1 rfl rfl (vp_in_nI hk hn) hdg ?_
  rw [nI_clamp (Nat.lt_trans hk hn)]
  exact kk
theorem q_iast (C : CallFix p m c cc nL s args Ts own) (S : fw_S G A s f H locs) {a i n : Nat} {g : Nat → Int32} (he : f a = some (i, eI G n g)) {j x : Int32} (k : Nat) (hj : j = nI k) (hk : k < n) (hn : n < 2 ^ 31) (hdg : decode cc pc = .ok (.iastore, 1))
    (kk : ∀ (H1 : Heap) (locs1 : List Loc), fw_S G A s (fw_up f a (i, eI G n (upd g k x))) H1 locs1 → W p l e R s m args below meth c H1 locs1 cells slots Q (F0 m (pc + 1) ls rest)) : W p l e R s m args below meth c H locs cells slots Q (F0 m pc ls (.int x :: .int j :: .ref a :: rest)) := by
  subst hj
  have hin : vp_in (nI k) n := vp_in_nI hk hn
  refine W.iast C.1 C.2.1 (S.1 a i _ he) ((S.2.2.2.1.1.2 0 _ rfl).1 n (fun j => .int (g j))) (fun q => by cases q) (by show ¬ (_ < 0 ∨ (arrV _ _ _).slots.size ≤ _); rw [arrV_size]; exact hin) rfl rfl hdg fun H1 e1 z oq => ?_
  refine kk H1 _ (S.put he ?_ z oq)
  show H1[a]? = some (vp_cell _ _)
  rw [e1, nI_clamp (Nat.lt_trans hk hn)]
  rw [vp_cell_i, vp_cell_i, arrV_store]
  congr 2
  funext q
  by_cases hq : q = k
  · subst hq
    simp [updV, upd]
  · simp [updV, upd, hq]
theorem q_nast (C : CallFix p m c cc nL s args Ts own) (S : fw_S G A s f H locs) {a i n x : Nat} {g : Nat → Nat} (he : f a = some (i, eN G n g)) {j : Int32} (k : Nat) (hj : j = nI k) (hk : k < n) (hn : n < 2 ^ 31) (hdg : decode cc pc = .ok (.iastore, 1))
    (kk : ∀ (H1 : Heap) (locs1 : List Loc), fw_S G A s (fw_up f a (i, eN G n (va_up g k x))) H1 locs1 → W p l e R s m args below meth c H1 locs1 cells slots Q (F0 m (pc + 1) ls rest)) : W p l e R s m args below meth c H locs cells slots Q (F0 m pc ls (.int (nI x) :: .int j :: .ref a :: rest)) := by
  refine q_iast C S (g := fun j => nI (g j)) he k hj hk hn hdg fun H1 locs1 h => kk H1 locs1 ?_
  rw [upd_nI] at h
  exact h
theorem q_yast (C : CallFix p m c cc nL s args Ts own) (S : fw_S G A s f H locs) {a i n : Nat} {x : Bool} {g : Nat → Bool} (he : f a = some (i, eY G n g)) {j : Int32} (k : Nat) (hj : j = nI k) (hk : k < n) (hn : n < 2 ^ 31) (hdg : decode cc pc = .ok (.bastore, 1))
    (kk : ∀ (H1 : Heap) (locs1 : List Loc), fw_S G A s (fw_up f a (i, eY G n (va_up g k x))) H1 locs1 → W p l e R s m args below meth c H1 locs1 cells slots Q (F0 m (pc + 1) ls rest)) : W p l e R s m args below meth c H locs cells slots Q (F0 m pc ls (.int (bI x) :: .int j :: .ref a :: rest)) := by
  subst hj
  have hin : vp_in (nI k) n := vp_in_nI hk hn
  refine W.zast C.1 C.2.1 (S.1 a i _ he) ((S.2.2.2.1.1.2 2 _ rfl).1 n (fun j => .int (bI (g j)))) (fun q => by cases q) (by show ¬ (_ < 0 ∨ (arrV _ _ _).slots.size ≤ _); rw [arrV_size]; exact hin) rfl rfl hdg fun H1 e1 z oq => ?_
  refine kk H1 _ (S.put he ?_ z oq)
  show H1[a]? = some (vp_cell _ _)
  rw [e1, nI_clamp (Nat.lt_trans hk hn), bI_nar]
  rw [vp_cell_i, vp_cell_i, arrV_store]
  congr 2
  funext q
  by_cases hq : q = k
  · subst hq
    simp [updV, va_up]
  · simp [updV, va_up, hq]
theorem q_last (C : CallFix p m c cc nL s args Ts own) (S : fw_S G A s f H locs) {a i n : Nat} {x : Int64} {g : Nat → Int64} (he : f a = some (i, eJ G n g)) {j : Int32} (k : Nat) (hj : j = nI k) (hk : k < n) (hn : n < 2 ^ 31) (hdg : decode cc pc = .ok (.lastore, 1))
    (kk : ∀ (H1 : Heap) (locs1 : List Loc), fw_S G A s (fw_up f a (i, eJ G n (va_up g k x))) H1 locs1 → W p l e R s m args below meth c H1 locs1 cells slots Q (F0 m (pc + 1) ls rest)) : W p l e R s m args below meth c H locs cells slots Q (F0 m pc ls (.long x :: .int j :: .ref a :: rest)) := by
  subst hj
  have hin : vp_in (nI k) n := vp_in_nI hk hn
  refine W.last C.1 C.2.1 (S.1 a i _ he) ((S.2.2.2.1.1.2 1 _ rfl).1 n (fun j => .long (g j))) (fun q => by cases q) (by show ¬ (_ < 0 ∨ (arrV _ _ _).slots.size ≤ _); rw [arrV_size]; exact hin) rfl rfl hdg fun H1 e1 z oq => ?_
  refine kk H1 _ (S.put he ?_ z oq)
  show H1[a]? = some (vp_cell _ _)
  rw [e1, nI_clamp (Nat.lt_trans hk hn)]
  rw [vp_cell_l, vp_cell_l, arrV_store]
  congr 2
  funext q
  by_cases hq : q = k
  · subst hq
    simp [updV, va_up]
  · simp [updV, va_up, hq]
theorem q_alenN (C : CallFix p m c cc nL s args Ts own) (S : fw_S G A s f H locs) {a i n : Nat} {g : Nat → Nat} (he : f a = some (i, eN G n g)) (hdg : decode cc pc = .ok (.arraylength, 1))
    (kk : W p l e R s m args below meth c H locs cells slots Q (F0 m (pc + 1) ls (.int (nI n) :: rest))) : W p l e R s m args below meth c H locs cells slots Q (F0 m pc ls (.ref a :: rest)) :=
  va_alen C.1 C.2.1 S.2.2.2.1.1 (fw_one S he) 0 0 rfl rfl rfl hdg kk
/-! numbers -/
theorem q_iadd (C : CallFix p m c cc nL s args Ts own) {x y : Nat} (hdg : decode cc pc = .ok (.iadd, 1)) (k : W p l e R s m args below meth c H locs cells slots Q (F0 m (pc + 1) ls (.int (nI (x + y)) :: rest))) : W p l e R s m args below meth c H locs cells slots Q (F0 m pc ls (.int (nI y) :: .int (nI x) :: rest)) := by
  refine lv_iadd C.1 C.2.1 hdg ?_
  rw [nI_add]; exact k
theorem q_imul (C : CallFix p m c cc nL s args Ts own) {x y : Nat} (hdg : decode cc pc = .ok (.imul, 1)) (k : W p l e R s m args below meth c H locs cells slots Q (F0 m (pc + 1) ls (.int (nI (x * y)) :: rest))) : W p l e R s m args below meth c H locs cells slots Q (F0 m pc ls (.int (nI y) :: .int (nI x) :: rest)) := by
  refine lv_imul C.1 C.2.1 hdg ?_
  rw [pk_mul]; exact k
theorem q_isub (C : CallFix p m c cc nL s args Ts own) {x y : Nat} (hxy : y ≤ x) (hdg : decode cc pc = .ok (.isub, 1)) (k : W p l e R s m args below meth c H locs cells slots Q (F0 m (pc + 1) ls (.int (nI (x - y)) :: rest))) : W p l e R s m args below meth c H locs cells slots Q (F0 m pc ls (.int (nI y) :: .int (nI x) :: rest)) := by
  refine lv_isub C.1 C.2.1 hdg ?_
  rw [pk_sub hxy]; exact k
theorem q_iinc (C : CallFix p m c cc nL s args Ts own) {i k x : Nat} {n : Int} {d : Nat} {lv lv' : List (Nat × Value)} (hdg : decode cc pc = .ok (.iinc i n, 3)) (h : lv_has ls nL lv) (hk : lv[k]? = some (i, .int (nI x))) (hd : Int32.ofInt n = nI d) (hn : i < nL) (hl : (i, Value.int (nI (x + d))) :: lv.filter (fun q => !(q.1 == i) && !(q.1 + 1 == i && q.2.category == 2)) = lv') (kk : ∀ ls' : Array Slot, lv_has ls' nL lv' → W p l e R s m args below meth c H locs cells slots Q (F0 m (pc + 3) ls' rest)) : W p l e R s m args below meth c H locs cells slots Q (F0 m pc ls rest) :=
  lv_iinc C.1 C.2.1 hdg h hk (by rw [hd, nI_add]) hn hl kk
/-! branches over naturals -/
theorem q_ge (C : CallFix p m c cc nL s args Ts own) {x y : Nat} (hx : x < 2 ^ 31) (hy : y < 2 ^ 31) {off : Int} {tgt : Nat} (hdg : decode cc pc = .ok (.if_icmp .ge off, 3)) (ht : (pc : Int) + off = (tgt : Int)) (kt : y ≤ x → W p l e R s m args below meth c H locs cells slots Q (F0 m tgt ls rest)) (kf : x < y → W p l e R s m args below meth c H locs cells slots Q (F0 m (pc + 3) ls rest)) : W p l e R s m args below meth c H locs cells slots Q (F0 m pc ls (.int (nI y) :: .int (nI x) :: rest)) :=
  lv_icmp_ge C.1 C.2.1 hdg ht (fun h => kt ((nI_leI hy hx).mp h)) (fun h => kf (Nat.not_le.mp fun q => h ((nI_leI hy hx).mpr q)))
theorem q_lt (C : CallFix p m c cc nL s args Ts own) {x y : Nat} (hx : x < 2 ^ 31) (hy : y < 2 ^ 31) {off : Int} {tgt : Nat} (hdg : decode cc pc = .ok (.if_icmp .lt off, 3)) (ht : (pc : Int) + off = (tgt : Int)) (kt : x < y → W p l e R s m args below meth c H locs cells slots Q (F0 m tgt ls rest)) (kf : y ≤ x → W p l e R s m args below meth c H locs cells slots Q (F0 m (pc + 3) ls rest)) : W p l e R s m args below meth c H locs cells slots Q (F0 m pc ls (.int (nI y) :: .int (nI x) :: rest)) :=
  lv_icmp_lt C.1 C.2.1 hdg ht (fun h => kt ((nI_ltI hx hy).mp h)) (fun h => kf (Nat.not_lt.mp fun q => h ((nI_ltI hx hy).mpr q)))
theorem q_gt (C : CallFix p m c cc nL s args Ts own) {x y : Nat} (hx : x < 2 ^ 31) (hy : y < 2 ^ 31) {off : Int} {tgt : Nat} (hdg : decode cc pc = .ok (.if_icmp .gt off, 3)) (ht : (pc : Int) + off = (tgt : Int)) (kt : y < x → W p l e R s m args below meth c H locs cells slots Q (F0 m tgt ls rest)) (kf : x ≤ y → W p l e R s m args below meth c H locs cells slots Q (F0 m (pc + 3) ls rest)) : W p l e R s m args below meth c H locs cells slots Q (F0 m pc ls (.int (nI y) :: .int (nI x) :: rest)) :=
  lv_icmp_gt C.1 C.2.1 hdg ht (fun h => kt ((nI_ltI hy hx).mp h)) (fun h => kf (Nat.not_lt.mp fun q => h ((nI_ltI hy hx).mpr q)))
theorem q_le (C : CallFix p m c cc nL s args Ts own) {x y : Nat} (hx : x < 2 ^ 31) (hy : y < 2 ^ 31) {off : Int} {tgt : Nat} (hdg : decode cc pc = .ok (.if_icmp .le off, 3)) (ht : (pc : Int) + off = (tgt : Int)) (kt : x ≤ y → W p l e R s m args below meth c H locs cells slots Q (F0 m tgt ls rest)) (kf : y < x → W p l e R s m args below meth c H locs cells slots Q (F0 m (pc + 3) ls rest)) : W p l e R s m args below meth c H locs cells slots Q (F0 m pc ls (.int (nI y) :: .int (nI x) :: rest)) :=
  lv_icmp_le C.1 C.2.1 hdg ht (fun h => kt ((nI_leI hx hy).mp h)) (fun h => kf (Nat.not_le.mp fun q => h ((nI_leI hx hy).mpr q)))
theorem q_eq (C : CallFix p m c cc nL s args Ts own) {x y : Nat} (hx : x < 2 ^ 31) (hy : y < 2 ^ 31) {off : Int} {tgt : Nat} (hdg : decode cc pc = .ok (.if_icmp .eq off, 3)) (ht : (pc : Int) + off = (tgt : Int)) (kt : x = y → W p l e R s m args below meth c H locs cells slots Q (F0 m tgt ls rest)) (kf : x ≠ y → W p l e R s m args below meth c H locs cells slots Q (F0 m (pc + 3) ls rest)) : W p l e R s m args below meth c H locs cells slots Q (F0 m pc ls (.int (nI y) :: .int (nI x) :: rest)) :=
  lv_icmp_eq C.1 C.2.1 hdg ht (fun h => kt ((nI_eq hx hy).mp h)) (fun h => kf (fun q => h ((nI_eq hx hy).mpr q)))
theorem q_nee (C : CallFix p m c cc nL s args Ts own) {x y : Nat} (hx : x < 2 ^ 31) (hy : y < 2 ^ 31) {off : Int} {tgt : Nat} (hdg : decode cc pc = .ok (.if_icmp .ne off, 3)) (ht : (pc : Int) + off = (tgt : Int)) (kt : x ≠ y → W p l e R s m args below meth c H locs cells slots Q (F0 m tgt ls rest)) (kf : x = y → W p l e R s m args below meth c H locs cells slots Q (F0 m (pc + 3) ls rest)) : W p l e R s m args below meth c H locs cells slots Q (F0 m pc ls (.int (nI y) :: .int (nI x) :: rest)) :=
  lv_icmp_ne C.1 C.2.1 hdg ht (fun h => kt (fun q => h ((nI_eq hx hy).mpr q))) (fun h => kf ((nI_eq hx hy).mp (by first | exact h | exact Decidable.not_not.mp h)))
theorem q_ifeqB (C : CallFix p m c cc nL s args Ts own) {b : Bool} {off : Int} {tgt : Nat} (hdg : decode cc pc = .ok (.ifCond .eq off, 3)) (ht : (pc : Int) + off = (tgt : Int)) (kt : b = false → W p l e R s m args below meth c H locs cells slots Q (F0 m tgt ls rest)) (kf : b = true → W p l e R s m args below meth c H locs cells slots Q (F0 m (pc + 3) ls rest)) : W p l e R s m args below meth c H locs cells slots Q (F0 m pc ls (.int (bI b) :: rest)) :=
  lv_if_eq C.1 C.2.1 hdg ht (fun h => kt (bI_eq0.mp h)) (fun h => kf (bI_ne0.mp h))
theorem q_ifneB (C : CallFix p m c cc nL s args Ts own) {b : Bool} {off : Int} {tgt : Nat} (hdg : decode cc pc = .ok (.ifCond .ne off, 3)) (ht : (pc : Int) + off = (tgt : Int)) (kt : b = true → W p l e R s m args below meth c H locs cells slots Q (F0 m tgt ls rest)) (kf : b = false → W p l e R s m args below meth c H locs cells slots Q (F0 m (pc + 3) ls rest)) : W p l e R s m args below meth c H locs cells slots Q (F0 m pc ls (.int (bI b) :: rest)) :=
  lv_if_ne C.1 C.2.1 hdg ht (fun h => kt (bI_ne0.mp h)) (fun h => kf (bI_eq0.mp (by first | exact h | exact Decidable.not_not.mp h)))
/-! ends -/
theorem q_retSi (C : CallFix p m c cc nL s args Ts own) (hr : meth.sig.returnType = some .int) (hlk : meth.locks = false) {post : Int32 → Prop} {v : Int32} (hp : post v) (hdg : decode cc pc = .ok (.ireturn, 1)) : W p l e R s m args below meth c s.heap [] 0 0 (MQ below (vp_Si post) args s 0 0 (fun _ => False)) (F0 m pc ls [.int v]) :=
  W.iret C.1 C.2.1 hr (fun t ht _ => ⟨v, rfl, hp, ht⟩) (fun q hq => absurd hq List.not_mem_nil) hdg hlk
theorem q_retSz (C : CallFix p m c cc nL s args Ts own) (hr : meth.sig.returnType = some .boolean) (hlk : meth.locks = false) {post : Int32 → Prop} {b : Bool} {v : Int32} (hv : v = bI b) (hp : post (bI b)) (hdg : decode cc pc = .ok (.ireturn, 1)) : W p l e R s m args below meth c s.heap [] 0 0 (MQ below (vp_Si post) args s 0 0 (fun _ => False)) (F0 m pc ls [.int v]) := by
  subst hv
  exact W.zret C.1 C.2.1 hr (bI_nar b) (fun t ht _ => ⟨bI b, rfl, hp, ht⟩) (fun q hq => absurd hq List.not_mem_nil) hdg hlk
theorem q_retSl (C : CallFix p m c cc nL s args Ts own) (hr : meth.sig.returnType = some .long) (hlk : meth.locks = false) {post : Int64 → Prop} {v : Int64} (hp : post v) (hdg : decode cc pc = .ok (.lreturn, 1)) : W p l e R s m args below meth c s.heap [] 0 0 (MQ below (vp_Sl post) args s 0 0 (fun _ => False)) (F0 m pc ls [.long v]) :=
  W.lret C.1 C.2.1 hr (fun t ht _ => ⟨v, rfl, hp, ht⟩) (fun q hq => absurd hq List.not_mem_nil) hdg hlk
theorem q_retQi (C : CallFix p m c cc nL s args Ts own) (S : fw_S G A s f H locs) (hr : meth.sig.returnType = some .int) (hlk : meth.locks = false) {post : Int32 → fw_F → Prop} {v : Int32} (hp : post v f) (hdg : decode cc pc = .ok (.ireturn, 1)) : W p l e R s m args below meth c H locs cells slots (MQ below (va_Qi post (fw_B G A) A) args s cells slots A) (F0 m pc ls [.int v]) :=
  W.iret C.1 C.2.1 hr (fun t ht _ => ⟨⟨v, f, rfl, hp, ⟨by rw [ht]; exact S.1, S.2.1⟩⟩, S.2.2.2.2.2.F ht⟩) S.2.2.2.2.2.2.2 hdg hlk
theorem q_retQz (C : CallFix p m c cc nL s args Ts own) (S : fw_S G A s f H locs) (hr : meth.sig.returnType = some .boolean) (hlk : meth.locks = false) {post : Int32 → fw_F → Prop} {b : Bool} {v : Int32} (hv : v = bI b) (hp : post (bI b) f) (hdg : decode cc pc = .ok (.ireturn, 1)) : W p l e R s m args below meth c H locs cells slots (MQ below (va_Qi post (fw_B G A) A) args s cells slots A) (F0 m pc ls [.int v]) := by
  subst hv
  exact W.zret C.1 C.2.1 hr (bI_nar b) (fun t ht _ => ⟨⟨bI b, f, rfl, hp, ⟨by rw [ht]; exact S.1, S.2.1⟩⟩, S.2.2.2.2.2.F ht⟩) S.2.2.2.2.2.2.2 hdg hlk
theorem q_retQl (C : CallFix p m c cc nL s args Ts own) (S : fw_S G A s f H locs) (hr : meth.sig.returnType = some .long) (hlk : meth.locks = false) {post : Int64 → fw_F → Prop} {v : Int64} (hp : post v f) (hdg : decode cc pc = .ok (.lreturn, 1)) : W p l e R s m args below meth c H locs cells slots (MQ below (va_Ql post (fw_B G A) A) args s cells slots A) (F0 m pc ls [.long v]) :=
  W.lret C.1 C.2.1 hr (fun t ht _ => ⟨⟨v, f, rfl, hp, ⟨by rw [ht]; exact S.1, S.2.1⟩⟩, S.2.2.2.2.2.F ht⟩) S.2.2.2.2.2.2.2 hdg hlk
theorem q_retQv (C : CallFix p m c cc nL s args Ts own) (S : fw_S G A s f H locs) (hr : meth.sig.returnType = none) (hlk : meth.locks = false) {post : fw_F → Prop} (hp : post f) (hdg : decode cc pc = .ok (.return_, 1)) : W p l e R s m args below meth c H locs cells slots (MQ below (va_Qv post (fw_B G A) A) args s cells slots A) (F0 m pc ls []) :=
  W.vret C.1 C.2.1 hr (fun t ht _ => ⟨⟨f, rfl, hp, ⟨by rw [ht]; exact S.1, S.2.1⟩⟩, S.2.2.2.2.2.F ht⟩) S.2.2.2.2.2.2.2 hdg hlk
end ROWS
theorem q_mn {x y : Nat} (hx : x < 2 ^ 31) (hy : y < 2 ^ 31) : (if nI y < nI x then nI y else nI x) = nI (min x y) := by
  by_cases h : y < x
  · rw [if_pos ((nI_ltI hy hx).mpr h), Nat.min_eq_right (by omega)]
  · rw [if_neg (fun q => h ((nI_ltI hy hx).mp q)), Nat.min_eq_left (by omega)]
theorem q_mx {x y : Nat} (hx : x < 2 ^ 31) (hy : y < 2 ^ 31) : (if nI x < nI y then nI y else nI x) = nI (max x y) := by
  by_cases h : x < y
  · rw [if_pos ((nI_ltI hx hy).mpr h), Nat.max_eq_right (by omega)]
  · rw [if_neg (fun q => h ((nI_ltI hx hy).mp q)), Nat.max_eq_left (by omega)]
section LROWS
variable {p : Program} {l : Launch} {e : Env} {R : Room} {s : State} {m : MethodId} {args : Array Value} {below : List Frame} {meth : Method} {c : Code} {H : Heap} {locs : List Loc} {cells slots : Nat} {Q : State → Prop}
variable {cc : ByteArray} {pc nL : Nat} {ls : Array Slot} {rest : List Value} {Ts : List Cond} {own : String}
theorem q_lcmp_ge (C : CallFix p m c cc nL s args Ts own) {x y : Int64} {off : Int} {tgt : Nat} (hd0 : decode cc pc = .ok (.lcmp, 1)) (hdg : decode cc (pc + 1) = .ok (.ifCond .ge off, 3)) (ht : ((pc + 1 : Nat) : Int) + off = (tgt : Int)) (kt : y ≤ x → W p l e R s m args below meth c H locs cells slots Q (F0 m tgt ls rest)) (kf : ¬ y ≤ x → W p l e R s m args below meth c H locs cells slots Q (F0 m (pc + 1 + 3) ls rest)) : W p l e R s m args below meth c H locs cells slots Q (F0 m pc ls (.long y :: .long x :: rest)) :=
  W.lcmp C.1 C.2.1 hd0 (lv_if_ge C.1 C.2.1 hdg ht (fun h => kt ((lg_cmp_ge x y).mp h)) (fun h => kf (fun q => h ((lg_cmp_ge x y).mpr q))))
theorem q_lcmp_lt (C : CallFix p m c cc nL s args Ts own) {x y : Int64} {off : Int} {tgt : Nat} (hd0 : decode cc pc = .ok (.lcmp, 1)) (hdg : decode cc (pc + 1) = .ok (.ifCond .lt off, 3)) (ht : ((pc + 1 : Nat) : Int) + off = (tgt : Int)) (kt : ¬ y ≤ x → W p l e R s m args below meth c H locs cells slots Q (F0 m tgt ls rest)) (kf : y ≤ x → W p l e R s m args below meth c H locs cells slots Q (F0 m (pc + 1 + 3) ls rest)) : W p l e R s m args below meth c H locs cells slots Q (F0 m pc ls (.long y :: .long x :: rest)) := by
  refine W.lcmp C.1 C.2.1 hd0 (lv_if_lt C.1 C.2.1 hdg ht (fun h => kt fun q => ?_) (fun h => kf ((lg_cmp_ge x y).mp (Int32.not_lt.mp h))))
  exact absurd h (Int32.not_lt.mpr ((lg_cmp_ge x y).mpr q))
theorem lg_cmp_le' (x y : Int64) : (lg_cmp x y ≤ 0) ↔ x ≤ y := by
  unfold lg_cmp
  simp only [gt_iff_lt, Int64.lt_iff_toInt_lt, Int64.le_iff_toInt_le, ← Int64.toInt_inj]
  repeat' split
  all_goals first | omega | (constructor <;> intro h <;> first | omega | exact absurd h (by decide) | decide)
theorem lg_cmp_eq' (x y : Int64) : (lg_cmp x y = 0) ↔ x = y := by
  unfold lg_cmp
  by_cases h1 : x > y
  · rw [if_pos h1]
    constructor
    · intro h; exact absurd h (by decide)
    · intro h; subst h; simp only [gt_iff_lt, Int64.lt_iff_toInt_lt] at h1; omega
  · rw [if_neg h1]
    by_cases h2 : x = y
    · rw [if_pos h2]; exact ⟨fun _ => h2, fun _ => rfl⟩
    · rw [if_neg h2]; exact ⟨fun h => absurd h (by decide), fun h => absurd h h2⟩
theorem q_lcmp_le (C : CallFix p m c cc nL s args Ts own) {x y : Int64} {off : Int} {tgt : Nat} (hd0 : decode cc pc = .ok (.lcmp, 1)) (hdg : decode cc (pc + 1) = .ok (.ifCond .le off, 3)) (ht : ((pc + 1 : Nat) : Int) + off = (tgt : Int)) (kt : x ≤ y → W p l e R s m args below meth c H locs cells slots Q (F0 m tgt ls rest)) (kf : ¬ x ≤ y → W p l e R s m args below meth c H locs cells slots Q (F0 m (pc + 1 + 3) ls rest)) : W p l e R s m args below meth c H locs cells slots Q (F0 m pc ls (.long y :: .long x :: rest)) :=
  W.lcmp C.1 C.2.1 hd0 (lv_if_le C.1 C.2.1 hdg ht (fun h => kt ((lg_cmp_le' x y).mp h)) (fun h => kf (fun q => h ((lg_cmp_le' x y).mpr q))))
theorem q_lcmp_gt (C : CallFix p m c cc nL s args Ts own) {x y : Int64} {off : Int} {tgt : Nat} (hd0 : decode cc pc = .ok (.lcmp, 1)) (hdg : decode cc (pc + 1) = .ok (.ifCond .gt off, 3)) (ht : ((pc + 1 : Nat) : Int) + off = (tgt : Int)) (kt : ¬ x ≤ y → W p l e R s m args below meth c H locs cells slots Q (F0 m tgt ls rest)) (kf : x ≤ y → W p l e R s m args below meth c H locs cells slots Q (F0 m (pc + 1 + 3) ls rest)) : W p l e R s m args below meth c H locs cells slots Q (F0 m pc ls (.long y :: .long x :: rest)) := by
  refine W.lcmp C.1 C.2.1 hd0 (lv_if_gt C.1 C.2.1 hdg ht (fun h => kt fun q => ?_) (fun h => kf ((lg_cmp_le' x y).mp (Int32.not_lt.mp h))))
  exact absurd h (Int32.not_lt.mpr ((lg_cmp_le' x y).mpr q))
theorem q_lcmp_eq (C : CallFix p m c cc nL s args Ts own) {x y : Int64} {off : Int} {tgt : Nat} (hd0 : decode cc pc = .ok (.lcmp, 1)) (hdg : decode cc (pc + 1) = .ok (.ifCond .eq off, 3)) (ht : ((pc + 1 : Nat) : Int) + off = (tgt : Int)) (kt : x = y → W p l e R s m args below meth c H locs cells slots Q (F0 m tgt ls rest)) (kf : ¬ x = y → W p l e R s m args below meth c H locs cells slots Q (F0 m (pc + 1 + 3) ls rest)) : W p l e R s m args below meth c H locs cells slots Q (F0 m pc ls (.long y :: .long x :: rest)) :=
  W.lcmp C.1 C.2.1 hd0 (lv_if_eq C.1 C.2.1 hdg ht (fun h => kt ((lg_cmp_eq' x y).mp h)) (fun h => kf (fun q => h ((lg_cmp_eq' x y).mpr q))))
theorem q_lcmp_ne (C : CallFix p m c cc nL s args Ts own) {x y : Int64} {off : Int} {tgt : Nat} (hd0 : decode cc pc = .ok (.lcmp, 1)) (hdg : decode cc (pc + 1) = .ok (.ifCond .ne off, 3)) (ht : ((pc + 1 : Nat) : Int) + off = (tgt : Int)) (kt : ¬ x = y → W p l e R s m args below meth c H locs cells slots Q (F0 m tgt ls rest)) (kf : x = y → W p l e R s m args below meth c H locs cells slots Q (F0 m (pc + 1 + 3) ls rest)) : W p l e R s m args below meth c H locs cells slots Q (F0 m pc ls (.long y :: .long x :: rest)) :=
  W.lcmp C.1 C.2.1 hd0 (lv_if_ne C.1 C.2.1 hdg ht (fun h => kt (fun q => h ((lg_cmp_eq' x y).mpr q))) (fun h => kf ((lg_cmp_eq' x y).mp (by first | exact h | exact Decidable.not_not.mp h))))
end LROWS
