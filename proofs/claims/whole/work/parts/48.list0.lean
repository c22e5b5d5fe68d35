theorem q_arr {G : fw_G} {A : Nat → Prop} {f : fw_F} {s : State} {H : Heap} {locs : List Loc} (S : fw_S G A s f H locs) {a i n : Nat} {g : Nat → Option Nat} (he : f a = some (i, eO G n g)) : ∃ cell : Cell, H[a]? = some cell ∧ cell.vm.isStatics = false ∧ s.vm.findClass "[Ljava/lang/Object;" = some cell.cls := by
  obtain ⟨kA, comp, -, -, -, h⟩ := (S.2.2.2.1.1.2 3 _ rfl).2
  exact ⟨_, S.1 a i _ he, rfl, h⟩
