theorem z_k1 (x : Int32) : (Value.int x).category = 1 := rfl
theorem z_k2 (x : Int64) : (Value.long x).category = 2 := rfl
theorem z_k3 (x : UInt64) : (Value.double x).category = 2 := rfl
theorem z_k4 (x : Nat) : (Value.ref x).category = 1 := rfl
theorem z_k5 : (Value.null).category = 1 := rfl
