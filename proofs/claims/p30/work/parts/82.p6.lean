section TOP
variable {σ : zSt} {b k tl : Nat} {g : zG} {gs : Nat → zG} {tx : Nat → Int32} {B V : Nat}
theorem c_isFull {a n : Nat} {pl ad : Nat → Nat} {qu : Nat → Nat → Nat} (h : zC0 σ a pl ad qu n g) : f_X2_isFull σ a = some (bi (!decide (n < 8))) := by
  have o1 := h.1.1
  have e5 := (c_L h).1
  have hn := c_n8 h
  simp (disch := omega) only [f_X2_isFull, f_X2_isFull_14, ↓zl_eq, ↓zb_eq, ↓zb2_eq, ↓zc_some, ↓zc_none, ↓zb_pre, ↓zb2_pre, ↓zc_pre, ↓zex_eq, ↓reduceIte, Option.isSome_some, Option.isSome_none, Option.getD_some, n32_lit, o1, e5, n32_lt, bl0, bl1]
  by_cases hc : n < 8
  · rw [if_pos hc, decide_eq_true hc]; rfl
  · rw [if_neg hc, decide_eq_false hc]; rfl
end TOP
