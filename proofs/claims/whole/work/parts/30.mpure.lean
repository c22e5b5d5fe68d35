/-! pure words of the reference -/
section NROWS
variable {p : Program} {l : Launch} {e : Env} {R : Room} {s : State} {m : MethodId} {args : Array Value} {below : List Frame} {meth : Method} {c : Code} {H : Heap} {locs : List Loc} {cells slots : Nat} {Q : State → Prop}
variable {cc : ByteArray} {pc nL : Nat} {ls : Array Slot} {rest : List Value} {Ts : List Cond} {own : String}
theorem q_ifeqN (C : CallFix p m c cc nL s args Ts own) {x : Nat} (hx : x < 2 ^ 31) {off : Int} {tgt : Nat} (hdg : decode cc pc = .ok (.ifCond .eq off, 3)) (ht : (pc : Int) + off = (tgt : Int)) (kt : x = 0 → W p l e R s m args below meth c H locs cells slots Q (F0 m tgt ls rest)) (kf : x ≠ 0 → W p l e R s m args below meth c H locs cells slots Q (F0 m (pc + 3) ls rest)) : W p l e R s m args below meth c H locs cells slots Q (F0 m pc ls (.int (nI x) :: rest)) :=
  lv_if_eq C.1 C.2.1 hdg ht (fun h => kt ((nI_eq hx (by decide)).mp h)) (fun h => kf (fun q => h ((nI_eq hx (by decide)).mpr q)))
theorem q_ifneN (C : CallFix p m c cc nL s args Ts own) {x : Nat} (hx : x < 2 ^ 31) {off : Int} {tgt : Nat} (hdg : decode cc pc = .ok (.ifCond .ne off, 3)) (ht : (pc : Int) + off = (tgt : Int)) (kt : x ≠ 0 → W p l e R s m args below meth c H locs cells slots Q (F0 m tgt ls rest)) (kf : x = 0 → W p l e R s m args below meth c H locs cells slots Q (F0 m (pc + 3) ls rest)) : W p l e R s m args below meth c H locs cells slots Q (F0 m pc ls (.int (nI x) :: rest)) :=
  lv_if_ne C.1 C.2.1 hdg ht (fun h => kt (fun q => h ((nI_eq hx (by decide)).mpr q))) (fun h => kf ((nI_eq hx (by decide)).mp (by first | exact h | exact Decidable.not_not.mp h)))
theorem q_ifleN (C : CallFix p m c cc nL s args Ts own) {x : Nat} (hx : x < 2 ^ 31) {off : Int} {tgt : Nat} (hdg : decode cc pc = .ok (.ifCond .le off, 3)) (ht : (pc : Int) + off = (tgt : Int)) (kt : x = 0 → W p l e R s m args below meth c H locs cells slots Q (F0 m tgt ls rest)) (kf : 0 < x → W p l e R s m args below meth c H locs cells slots Q (F0 m (pc + 3) ls rest)) : W p l e R s m args below meth c H locs cells slots Q (F0 m pc ls (.int (nI x) :: rest)) :=
  lv_if_le C.1 C.2.1 hdg ht (fun h => kt (Nat.le_zero.mp ((nI_leI hx (by decide)).mp h))) (fun h => kf (Nat.pos_of_ne_zero fun q => h ((nI_leI hx (by decide)).mpr (Nat.le_of_eq q))))
theorem q_ifgtN (C : CallFix p m c cc nL s args Ts own) {x : Nat} (hx : x < 2 ^ 31) {off : Int} {tgt : Nat} (hdg : decode cc pc = .ok (.ifCond .gt off, 3)) (ht : (pc : Int) + off = (tgt : Int)) (kt : 0 < x → W p l e R s m args below meth c H locs cells slots Q (F0 m tgt ls rest)) (kf : x = 0 → W p l e R s m args below meth c H locs cells slots Q (F0 m (pc + 3) ls rest)) : W p l e R s m args below meth c H locs cells slots Q (F0 m pc ls (.int (nI x) :: rest)) :=
  lv_if_gt C.1 C.2.1 hdg ht (fun h => kt ((nI_ltI (by decide) hx).mp h)) (fun h => kf (Nat.le_zero.mp (Nat.not_lt.mp fun q => h ((nI_ltI (by decide) hx).mpr q))))
end NROWS
def initL (L : Nat → Nat) (z : Nat) : Nat → Nat := fun x => if x < z then x else L x
theorem initL_0 (L : Nat → Nat) : initL L 0 = L := by funext x; unfold initL; rw [if_neg (by omega)]
theorem initL_s (L : Nat → Nat) (z : Nat) : initL L (z + 1) = va_up (initL L z) z z := by
  funext x
  unfold initL va_up
  by_cases h : x = z
  · subst h; rw [if_pos (by omega), if_pos rfl]
  · rw [if_neg h]
    dsimp only
    by_cases h2 : x < z
    · rw [if_pos h2, if_pos (by omega)]
    · rw [if_neg h2, if_neg (by omega)]
def initB (L : Nat → Bool) (z : Nat) : Nat → Bool := fun x => if x < z then false else L x
theorem initB_0 (L : Nat → Bool) : initB L 0 = L := by funext x; unfold initB; rw [if_neg (by omega)]
theorem initB_s (L : Nat → Bool) (z : Nat) : initB L (z + 1) = va_up (initB L z) z false := by
  funext x
  unfold initB va_up
  by_cases h : x = z
  · subst h; rw [if_pos (by omega), if_pos rfl]
  · rw [if_neg h]
    dsimp only
    by_cases h2 : x < z
    · rw [if_pos h2, if_pos (by omega)]
    · rw [if_neg h2, if_neg (by omega)]
/-- which name each one is one with, by the first e told -/
def wF (n : Nat) (so ofa wi : Nat → Nat) (L0 : Nat → Nat) : Nat → Nat → Nat
  | 0 => initL L0 n
  | e + 1 => if so e = 2 then jn (wF n so ofa wi L0 e) n (min (wF n so ofa wi L0 e (ofa e)) (wF n so ofa wi L0 e (wi e))) (max (wF n so ofa wi L0 e (ofa e)) (wF n so ofa wi L0 e (wi e))) else wF n so ofa wi L0 e
theorem wF_2 {n : Nat} {so ofa wi L0 : Nat → Nat} {e : Nat} (h : so e = 2) : wF n so ofa wi L0 (e + 1) = jn (wF n so ofa wi L0 e) n (min (wF n so ofa wi L0 e (ofa e)) (wF n so ofa wi L0 e (wi e))) (max (wF n so ofa wi L0 e (ofa e)) (wF n so ofa wi L0 e (wi e))) := if_pos h
theorem wF_n {n : Nat} {so ofa wi L0 : Nat → Nat} {e : Nat} (h : so e ≠ 2) : wF n so ofa wi L0 (e + 1) = wF n so ofa wi L0 e := if_neg h
section FOLD
variable (F so ofa : Nat → Nat) (fr to : Nat → Int64)
def hnF (h0 : Nat → Bool) : Nat → Nat → Bool
  | 0 => h0
  | e + 1 => if so e = 1 then va_up (hnF h0 e) (F (ofa e)) true else hnF h0 e
def nuF (h0 : Nat → Int64) : Nat → Nat → Int64
  | 0 => h0
  | e + 1 => if so e = 1 then va_up (nuF h0 e) (F (ofa e)) (fr e) else nuF h0 e
def canF (h0 : Nat → Bool) (n0 : Nat → Int64) : Nat → Bool
  | 0 => true
  | e + 1 => if so e = 1 then canF h0 n0 e && !(hnF F so ofa h0 e (F (ofa e)) && !decide (nuF F so ofa fr n0 e (F (ofa e)) = fr e)) else canF h0 n0 e
def hsF (h0 : Nat → Bool) : Nat → Nat → Bool
  | 0 => h0
  | e + 1 => if so e = 0 then va_up (hsF h0 e) (F (ofa e)) true else hsF h0 e
def loF (h0 : Nat → Bool) (l0 : Nat → Int64) : Nat → Nat → Int64
  | 0 => l0
  | e + 1 => if so e = 0 then va_up (loF h0 l0 e) (F (ofa e)) (if hsF F so ofa h0 e (F (ofa e)) = true then lmax (loF h0 l0 e (F (ofa e))) (fr e) else fr e) else loF h0 l0 e
def hiF (h0 : Nat → Bool) (l0 : Nat → Int64) : Nat → Nat → Int64
  | 0 => l0
  | e + 1 => if so e = 0 then va_up (hiF h0 l0 e) (F (ofa e)) (if hsF F so ofa h0 e (F (ofa e)) = true then lmin (hiF h0 l0 e (F (ofa e))) (to e) else to e) else hiF h0 l0 e
end FOLD
/-- the span of a name is no contradiction -/
def spOk (hn hs : Nat → Bool) (nu lo hi : Nat → Int64) (x : Nat) : Bool := !(hs x && (!decide (lo x ≤ hi x) || (hn x && (!decide (lo x ≤ nu x) || !decide (nu x ≤ hi x)))))
/-- a kept row of the reference holds: all its names known, and so; or one isn't known -/
def hoF (kind many : Nat) (pl : Nat → Nat) (by_ : Nat → Int64) (k : Int64) (kn : Nat → Bool) (nu : Nat → Int64) : Bool := if allb (fun j => kn (pl j)) many = true then soF kind k by_ (fun j => nu (pl j)) many else true
def knM (N : Nat → Nat → Nat) (B : Nat → Nat → Bool) (x : Nat) : Bool := B 21 (N 20 x) || B 26 (N 20 x)
def nuM (N : Nat → Nat → Nat) (B : Nat → Nat → Bool) (J : Nat → Nat → Int64) (x : Nat) : Int64 := if B 21 (N 20 x) = true then J 23 (N 20 x) else J 27 (N 20 x)
def hoM (N : Nat → Nat → Nat) (B : Nat → Nat → Bool) (J : Nat → Nat → Int64) (i : Nat) : Bool := hoF (N 10 i) (N 11 i) (fun k => N 12 (32 * i + k)) (fun k => J 13 (32 * i + k)) (J 14 i) (knM N B) (nuM N B J)
/-- the reference's numbers are within their bounds -/
def mOK (I : Nat → Nat) (N : Nat → Nat → Nat) : Prop := (I 0 ≤ 64 ∧ I 6 ≤ 6400 ∧ I 9 ≤ 32 ∧ I 15 ≤ 60 ∧ I 19 ≤ 40) ∧ ((∀ e, N 1 e ≤ 2) ∧ (∀ e, N 2 e < 64) ∧ (∀ e, N 3 e < 64)) ∧ ((∀ i, N 7 i < 64) ∧ (∀ i, N 10 i ≤ 2) ∧ (∀ i, N 11 i ≤ 32) ∧ (∀ i, N 12 i < 64)) ∧ (∀ i, N 20 i < 64) ∧ (∀ i, N 28 i < 64)
