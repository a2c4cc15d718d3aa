section TOP
variable {σ : zSt} {b k tl : Nat} {g : zG} {gs : Nat → zG} {tx : Nat → Int32} {B V : Nat}
theorem zC_hs (h : zC σ b g k gs tl tx) : z_R σ b 2 = some (b + 39) ∧ z_ob σ (b + 39) 1 = true := by
  obtain ⟨hl, hsv, _⟩ := h.2.2.2.1
  exact ⟨h.1.2.2.2.1, hsv.1.1⟩
theorem i64_n (k : Nat) (h : k < 2147483648) : Int64.ofNat k = (n32 k).toInt64 := by
  rw [← Int64.toInt_inj, Int32.toInt_toInt64, n32_toInt h, Int64.toInt_ofNat_of_lt (by omega)]
end TOP
