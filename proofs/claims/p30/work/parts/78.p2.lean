/-! WHAT THE CALLS ANSWER: questions -/
section TOP
variable {σ : zSt} {b k tl : Nat} {g : zG} {gs : Nat → zG} {tx : Nat → Int32} {B V : Nat}
theorem bt0 : (bi true = 0) = False := eq_false (by decide)
theorem bt0' : (bi true = n32 0) = False := eq_false (by decide)
theorem bf0' : (bi false = n32 0) = True := eq_true (by decide)
theorem c_has {a : Nat} (hL : zLs σ a) {q : Nat} (hq : q ≤ 100) (h1 : z_I σ (a + 2) 1 = n32 q) (x : Int32) : f_X3_has σ (a + 2) x = some (bi (decide (0 ≤ x.toInt ∧ x.toInt < q))) := by
  have o2 := hL.2.2.2.2.2.2.2.2.1
  have z0 : (n32 0).toInt = 0 := rfl
  simp only [f_X3_has, f_X3_has_16, f_X3_has_17, n32_lit, o2, h1, bl0, bl1, if_true]
  by_cases c1 : x < n32 0
  · rw [if_pos c1]
    rw [Int32.lt_iff_toInt_lt] at c1
    rw [decide_eq_false (by omega)]; rfl
  · rw [if_neg c1]
    rw [Int32.lt_iff_toInt_lt] at c1
    by_cases c2 : n32 q ≤ x
    · rw [if_pos c2]
      rw [Int32.le_iff_toInt_le, n32_toInt (by omega)] at c2
      rw [decide_eq_false (by omega)]; rfl
    · rw [if_neg c2]
      rw [Int32.le_iff_toInt_le, n32_toInt (by omega)] at c2
      rw [decide_eq_true (by omega)]; rfl
end TOP
