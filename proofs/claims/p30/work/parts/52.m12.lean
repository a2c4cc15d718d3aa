/-- the saved arrays moved down by one, so far -/
def s_dn1 (f : zG) (k : Nat) : zG := fun j => if j < k then f (j + 942) else f j
/-- an array put behind the saved ones, so far -/
def s_up (f g : zG) (b k : Nat) : zG := fun j => if b ≤ j ∧ j < b + k then g (j - b) else f j
theorem s_dn1_0 (f : zG) : s_dn1 f 0 = f := by funext j; unfold s_dn1; rw [if_neg (by omega)]
theorem s_dn1_step (f : zG) (k : Nat) : gu (s_dn1 f k) k (s_dn1 f k (k + 942)) = s_dn1 f (k + 1) := by
  funext j
  unfold gu s_dn1
  by_cases h : j = k
  · subst h; rw [if_pos rfl, if_neg (by omega), if_pos (by omega)]
  · rw [if_neg h]
    by_cases h2 : j < k
    · rw [if_pos h2, if_pos (by omega)]
    · rw [if_neg h2, if_neg (by omega)]
theorem s_up_0 (f g : zG) (b : Nat) : s_up f g b 0 = f := by funext j; unfold s_up; rw [if_neg (by omega)]
theorem s_up_step (f g : zG) (b k : Nat) : gu (s_up f g b k) (b + k) (g k) = s_up f g b (k + 1) := by
  funext j
  unfold gu s_up
  by_cases h : j = b + k
  · subst h; rw [if_pos rfl, if_pos (by omega)]; congr 1; omega
  · rw [if_neg h]
    by_cases h2 : b ≤ j ∧ j < b + k
    · rw [if_pos h2, if_pos (by omega)]
    · rw [if_neg h2, if_neg (by omega)]
