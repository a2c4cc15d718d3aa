theorem z_k1 (x : Int32) : (Value.int x).category = 1 := rfl
theorem z_k2 (x : Int64) : (Value.long x).category = 2 := rfl
theorem z_k3 (x : UInt64) : (Value.double x).category = 2 := rfl
theorem z_k4 (x : Nat) : (Value.ref x).category = 1 := rfl
theorem z_k5 : (Value.null).category = 1 := rfl
theorem z_e1 {α : Type} {a r : α} (h : some a = some r) : r = a := (Option.some.inj h).symm
theorem z_e2 {α β : Type} {a r : α} {b t : β} (h : some (a, b) = some (r, t)) : r = a ∧ t = b := by
  have h1 := Option.some.inj h
  exact ⟨(congrArg Prod.fst h1).symm, (congrArg Prod.snd h1).symm⟩
