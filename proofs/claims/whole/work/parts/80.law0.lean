/-! THE CLAIM OUT OF ONE WALK OF THE LAW'S BODY -/
def R_law : String := "SpanRowsLaw"
def lw_P (b : Addr) (xs : List Int32) (args : Array Value) (s : State) : Prop := args = #[.ref b] ∧ s.IntsAt b xs ∧ xs.length ≤ 3072 ∧ (Jvm.Cond.and given_1 narrow_1).before args s = true
def lw_Q (_ : Array Value) (s : State) (o : Outcome) (t : State) : Prop := o = .returned (some (.int 1)) ∧ Framed s o t [] 600000 7302250
def lw_Z (below : List Frame) (a : Array Value) (s : State) : State → Prop := fun t => ∃ o, t.status = .running ∧ Ended t below o ∧ lw_Q a s o t
/-- the law's own end, with 1 on the stack, nothing written that was there before, its room as the claim has it -/
theorem lw_ret {p : Program} {l : Launch} {e : Env} {s : State} {m : MethodId} {below : List Frame} {meth : Method} {c : Code} {b : Nat} (hx : p.tables.exec = Jvm.exec) (hb : c.code = code) (hr : meth.sig.returnType = ret) (hlocks : meth.locks = false) {pc : Nat} {H : Heap} {ls : Array Slot} (hdg : decode code pc = .ok (.ireturn, 1)) : W p l e room_1 s m #[Value.ref b] below meth c H [] 600000 7302250 (lw_Z below #[Value.ref b] s) (F0 m pc ls [.int 1]) := by
  intro T hT X
  obtain ⟨fs, hret, hrun, hended, hW, hframe⟩ := X.leave (v := some (.int 1)) (hlocks := hlocks) (fun h => by rw [hr] at h; cases h)
  have hmeth' : T.vm.method? m = some meth := X.method'
  refine ⟨T.setFrames fs, ?_, .returned (some (.int 1)), hrun, hended, rfl, ⟨_, rfl⟩, hW, hframe⟩
  jvm_step X.here [X.here.top, hx, hb, hdg, hmeth', hr, ret, narrow_b1]
  (try refine ⟨rfl, ?_⟩); (try refine ⟨rfl, ?_⟩)
  first | (intro acts; rw [hret _ acts rfl rfl rfl]) | rw [hret _ _ rfl rfl rfl]
  exact Steps.refl _
/-- what holds at the law's entry: the machine, the code, the tables' words (any of lw_tbl by 'hts w (by decide +kernel)'), the script of L ints xs at the cell b, what the Statement gives of the start (any of its parts by flat_of_before) -/
def lw_At (p : Program) (s : State) (m : MethodId) (meth : Method) (c : Code) (b L : Nat) (xs : Nat → Int32) : Prop :=
  p.tables.exec = Jvm.exec ∧ c.code = code ∧ meth.sig.returnType = ret ∧ c.maxLocals = 4 ∧ s.vm.findClass R_law = some m.cls ∧ (∀ w ∈ lw_tbl, w.before #[Value.ref b] s = true) ∧ va_X b L xs s s.heap ∧ b < s.heap.size ∧ meth.locks = false ∧ (Jvm.Cond.and given_1 narrow_1).before #[Value.ref b] s = true

/-! the world at the law's entry -/
theorem l_gt {i L : Nat} (hL : L ≤ 3072) (hi : i ≤ 4000) (h : ¬ (nI L - 6 < nI i)) : i + 6 ≤ L := by
  have e : (nI L - 6).toInt = (L : Int) - 6 := by
    rw [Int32.toInt_sub, nI_toInt (by omega)]
    show Int.bmod ((L : Int) - 6) (2 ^ 32) = _
    exact Int.bmod_eq_of_le (by omega) (by omega)
  rw [Int32.lt_iff_toInt_lt, e, nI_toInt (by omega)] at h
  omega
theorem and15 (a : Int32) : ∃ k : Nat, k ≤ 15 ∧ a &&& 15 = nI k := by
  refine ⟨(a &&& 15).toBitVec.toNat, ?_, ?_⟩
  · rw [Int32.toBitVec_and, BitVec.toNat_and]
    exact Nat.and_le_right
  · apply Int32.toBitVec_inj.mp
    show _ = BitVec.ofNat 32 _
    rw [BitVec.ofNat_toNat]
    simp
theorem cmp_z {x y : Int64} (h : x = y) : lg_cmp x y = 0 := by
  subst h
  unfold lg_cmp
  rw [if_neg (Int64.lt_irrefl), if_pos rfl]
theorem law_S {s : State} {b : Nat} (hts : ∀ w ∈ lw_tbl, w.before #[Value.ref b] s = true) (hgv : (Jvm.Cond.and given_1 narrow_1).before #[Value.ref b] s = true) : ∃ G : fw_G, fw_S G (fun q : Nat => s.heap.size ≤ q) s (fun _ => none) s.heap [] := by
  have hw : ∀ {i : Nat} {w : Cond}, lw_tbl[i]? = some w → w.before #[Value.ref b] s = true := fun h => hts _ (List.mem_of_getElem? h)
  have hs := flat_of_before _ hgv
  have hA : ∀ a : Nat, a < s.heap.size → ¬ (fun q : Nat => s.heap.size ≤ q) a := fun a h => Nat.not_le.mpr h
  obtain ⟨c0, i0, k0⟩ := u_known (C := RJx4a65c) (T := TJx4a65c) (N := 3) (n := 3) hts (fun w h => (gd_Jx4a65c w h).1) (hw (i := 106) (by decide +kernel))
  obtain ⟨c1, i1, k1⟩ := u_known (C := RX0) (T := TX0) (N := 4) (n := 4) hts (fun w h => (gd_X0 w h).1) (hw (i := 283) (by decide +kernel))
  obtain ⟨c2, i2, k2⟩ := u_known (C := RX1) (T := TX1) (N := 7) (n := 7) hts (fun w h => (gd_X1 w h).1) (hw (i := 52) (by decide +kernel))
  obtain ⟨c3, i3, k3⟩ := u_known (C := RX2) (T := TX2) (N := 3) (n := 3) hts (fun w h => (gd_X2 w h).1) (hw (i := 84) (by decide +kernel))
  obtain ⟨c4, i4, k4⟩ := u_known (C := RX3) (T := TX3) (N := 6) (n := 6) hts (fun w h => (gd_X3 w h).1) (hw (i := 132) (by decide +kernel))
  obtain ⟨c5, i5, k5⟩ := u_known (C := RX4) (T := TX4) (N := 7) (n := 7) hts (fun w h => (gd_X4 w h).1) (hw (i := 44) (by decide +kernel))
  obtain ⟨c6, i6, k6⟩ := u_known (C := RX5) (T := TX5) (N := 34) (n := 34) hts (fun w h => (gd_X5 w h).1) (hw (i := 566) (by decide +kernel))
  obtain ⟨a0, q0, m0, x0, y0, z0⟩ := Cond.arrayClass_spec (hw (i := 80) (w := .arrayClass .int) (by decide +kernel))
  obtain ⟨a1, q1, m1, x1, y1, z1⟩ := Cond.arrayClass_spec (hw (i := 82) (w := .arrayClass .long) (by decide +kernel))
  obtain ⟨a2, q2, m2, x2, y2, z2⟩ := Cond.arrayClass_spec (hw (i := 81) (w := .arrayClass .boolean) (by decide +kernel))
  have ho : (Cond.arrayOver (.object "java/lang/Object")).before #[Value.ref b] s = true := hw (i := 420) (by decide +kernel)
  obtain ⟨m3, a3, q3, v3, w3, x3, y3, z3⟩ := Cond.arrayOver_spec ho
  obtain ⟨mi, hmi⟩ := va_Mi.of (C := "[Ljava/lang/Object;") (args := #[Value.ref b]) (s := s) (hs _ (by decide +kernel))
  have hlen : (Term.length (.static "java/util/ArrayList" "DEFAULTCAPACITY_EMPTY_ELEMENTDATA" "[Ljava/lang/Object;")).eval #[Value.ref b] s none [] s = some (.int (Int32.ofNat 0)) := va_eqt (z := 0) (hs _ (by decide +kernel))
  obtain ⟨t, hv, hT⟩ := va_Tof (tm := .static "java/util/ArrayList" "DEFAULTCAPACITY_EMPTY_ELEMENTDATA" "[Ljava/lang/Object;") (ty := .object "java/lang/Object") (N := 0) (f := fun _ => .null) (by decide) (hs _ (by decide +kernel)) hlen (fun j hj => absurd hj (Nat.not_lt_zero j)) hA
  have hZ := va_Zref (hw (i := 118) (by decide +kernel)) (hw (i := 33) (by decide +kernel)) hv hA
  refine ⟨((fun k => match k with | 0 => c0 | 1 => c1 | 2 => c2 | 3 => c3 | 4 => c4 | 5 => c5 | _ => c6, fun k => match k with | 0 => i0 | 1 => i1 | 2 => i2 | 3 => i3 | 4 => i4 | 5 => i5 | _ => i6), fun k => match k with | 0 => a0 | 1 => a1 | 2 => a2 | 3 => a3 | _ => mi, t), ?_, ?_, ?_, ⟨⟨?_, ?_⟩, ?_⟩, ⟨hZ, hT⟩, va_S.rf⟩
  · intro a i x h; cases h
  · intro a x h; cases h
  · exact fun q h => h
  · intro k q hq
    match k, hq with
    | 0, hq => cases hq; exact k0
    | 1, hq => cases hq; exact k1
    | 2, hq => cases hq; exact k2
    | 3, hq => cases hq; exact k3
    | 4, hq => cases hq; exact k4
    | 5, hq => cases hq; exact k5
    | 6, hq => cases hq; exact k6
    | k + 7, hq => simp [vwCl] at hq
  · intro k q hq
    match k, hq with
    | 0, hq => cases hq; exact ⟨fun n z => ⟨fun k h => (by cases h), q0, y0, m0, z0⟩, x0⟩
    | 1, hq => cases hq; exact ⟨fun n z => ⟨fun k h => (by cases h), q1, y1, m1, z1⟩, x1⟩
    | 2, hq => cases hq; exact ⟨fun n z => ⟨fun k h => (by cases h), q2, y2, m2, z2⟩, x2⟩
    | 3, hq => cases hq; exact ⟨fun n z => ⟨fun k h => (by cases h), q3, x3, m3, y3⟩, q3, m3, x3, y3, v3, z3⟩
    | k + 4, hq => simp [fw_tys] at hq
  · exact ⟨⟨va_Nw.of rfl (hw (i := 94) (by decide +kernel)), va_Nw.of rfl (hw (i := 97) (by decide +kernel)), va_Nw.of rfl (hw (i := 95) (by decide +kernel))⟩, ⟨va_Nw.of rfl (hw (i := 85) (by decide +kernel)), va_Nw.of rfl (hw (i := 133) (by decide +kernel)), va_Nw.of rfl (hw (i := 53) (by decide +kernel))⟩, ⟨va_Nw.of rfl (hw (i := 781) (by decide +kernel)), va_Nw.of rfl (hw (i := 791) (by decide +kernel)), va_Nw.of rfl (hw (i := 782) (by decide +kernel)), va_Nw.of rfl (hw (i := 787) (by decide +kernel)), va_Nw.of rfl (hw (i := 349) (by decide +kernel)), va_Nw.of rfl (hw (i := 361) (by decide +kernel))⟩, va_AO.of ho, va_Dc.of (hw (i := 785) (by decide +kernel)), hmi⟩
