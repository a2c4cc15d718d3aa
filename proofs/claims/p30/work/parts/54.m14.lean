theorem i64_le {x : Int32} {k : Nat} (hk : k < 2147483648) : (x.toInt64 ≤ Int64.ofNat k) ↔ x.toInt ≤ k := by
  rw [Int64.le_iff_toInt_le, Int32.toInt_toInt64, Int64.toInt_ofNat_of_lt (by omega)]
theorem i64_ge {x : Int32} {k : Nat} (hk : k < 2147483648) : (Int64.ofNat k ≤ x.toInt64) ↔ (k : Int) ≤ x.toInt := by
  rw [Int64.le_iff_toInt_le, Int32.toInt_toInt64, Int64.toInt_ofNat_of_lt (by omega)]
theorem n32_of2 {x : Int32} {k : Nat} (h0 : 0 ≤ x.toInt) (h1 : x.toInt ≤ k) (hk : k < 2147483648) : ∃ y, y ≤ k ∧ x = n32 y := by
  refine ⟨x.toInt.toNat, by omega, ?_⟩
  rw [← Int32.toInt_inj, n32_toInt (by omega)]
  omega
