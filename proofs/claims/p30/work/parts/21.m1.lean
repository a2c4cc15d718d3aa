/-! THE REFERENCE, method by method, on its one array -/
theorem n32_lit (k : Nat) : (OfNat.ofNat k : Int32) = n32 (OfNat.ofNat k) := rfl
def nn : Int32 := -1
theorem n32_nn : (-1 : Int32) = nn := rfl
theorem n32_nn2 : -(n32 1) = nn := rfl
theorem n32_ne {k : Nat} (h : k < 2147483648) : (n32 k = nn) ↔ False := by
  rw [← Int32.toInt_inj, n32_toInt h]
  have e : nn.toInt = -1 := rfl
  rw [e]
  constructor
  · intro h; omega
  · intro h; cases h
theorem bi_0n (b : Bool) : (bi b = n32 0) ↔ b = false := by cases b <;> decide
theorem bi_t : n32 1 = bi true := rfl
theorem bi_f : n32 0 = bi false := rfl
