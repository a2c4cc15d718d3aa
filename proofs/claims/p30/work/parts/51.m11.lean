/-! THE REFERENCE'S COPIES of its array -/
def s_cp (f g : zG) (k : Nat) : zG := fun j => if j < k then f j else g j
theorem s_cp0 (f g : zG) : s_cp f g 0 = g := by funext j; unfold s_cp; rw [if_neg (by omega)]
theorem s_cp_step (f g : zG) (k : Nat) : gu (s_cp f g k) k (f k) = s_cp f g (k + 1) := by
  funext j
  unfold gu s_cp
  by_cases h : j = k
  · subst h; rw [if_pos rfl, if_pos (by omega)]
  · rw [if_neg h]
    by_cases h2 : j < k
    · rw [if_pos h2, if_pos (by omega)]
    · rw [if_neg h2, if_neg (by omega)]
