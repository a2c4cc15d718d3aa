section CLASS
variable {σ : zSt}
theorem c_isWithin (σ : zSt) (x lo hi : Int32) : f_X9_isWithin σ x lo hi = some (bi (decide (lo.toInt ≤ x.toInt ∧ x.toInt ≤ hi.toInt))) := by
  have b1 : z_bl (n32 1) = true := rfl
  have b0 : z_bl (n32 0) = true := rfl
  unfold f_X9_isWithin f_X9_isWithin_14 f_X9_isWithin_15
  by_cases h1 : x < lo
  · rw [if_pos h1]
    rw [Int32.lt_iff_toInt_lt] at h1
    rw [decide_eq_false (by omega)]
    rfl
  · rw [if_neg h1]
    rw [Int32.lt_iff_toInt_lt] at h1
    by_cases h2 : hi < x
    · rw [if_pos h2]
      rw [Int32.lt_iff_toInt_lt] at h2
      rw [decide_eq_false (by omega)]
      rfl
    · rw [if_neg h2]
      rw [Int32.lt_iff_toInt_lt] at h2
      rw [decide_eq_true (by omega)]
      rfl
theorem c_isAddress (σ : zSt) (x : Int32) : f_X9_isAddress σ x = some (bi (decide (0 ≤ x.toInt ∧ x.toInt ≤ 31))) := by
  unfold f_X9_isAddress
  rw [c_isWithin, zb_eq, if_pos (bi_bl _)]
  rfl
end CLASS
