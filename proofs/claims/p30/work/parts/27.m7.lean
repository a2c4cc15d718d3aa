/-! polling, passing, a visit -/
def s_l1 (g : zG) : Bool := s_loud g (g 3) (g 3 + n32 1 - n32 1)
def s_come (g : zG) (h to : Nat) : zG := gu (gu (gu (gu (gu g (18 + 7 * to + 2) (n32 1)) (18 + 7 * to + 3) (g (18 + 7 * h + 3))) (18 + 7 * to + 4) (n32 to)) (18 + 7 * h + 3) (n32 to)) 13 (g 13 + n32 1)
def s_free (g : zG) (to : Nat) : Bool := decide (g (18 + 7 * to + 0) = n32 1) && decide (g (18 + 7 * to + 1) = n32 1) && decide (g (18 + 7 * to + 2) = n32 0)
/-- what is left of a poll when the first question has been asked -/
def s_asked (g : zG) (h to : Nat) : zG :=
  if s_free g to = true then (if s_l1 g = true then s_tick (s_takes g (n32 1)) else s_come (s_takes g (n32 1)) h to) else s_tick g
def s_poll (g : zG) (h to : Nat) : zG :=
  if s_l1 (gu g (18 + 7 * h + 4) (n32 to)) = true then s_tick (s_takes (gu g (18 + 7 * h + 4) (n32 to)) (n32 1)) else s_asked (s_takes (gu g (18 + 7 * h + 4) (n32 to)) (n32 1)) h to
def s_to (h nx gp : Nat) : Nat := if s_bhd h ((gp + 1) % 32) ≤ s_bhd h nx - 1 then (gp + 1) % 32 else (h + 1) % 32
theorem s_to_lt (h nx gp : Nat) : s_to h nx gp < 32 := by
  unfold s_to; split <;> exact Nat.mod_lt _ (by decide)
theorem s_bhd_le (h o : Nat) : 1 ≤ s_bhd h o ∧ s_bhd h o ≤ 32 := by
  have := Nat.mod_lt (o + 32 - h) (show 32 > 0 by decide)
  unfold s_bhd; split <;> omega
def s_polls (g : zG) (h nx gp : Nat) : zG :=
  if g (18 + 7 * h + 5) - g (18 + 7 * h + 5) / g 2 * g 2 = n32 0 then (if s_bhd h nx - 1 = 0 then g else s_poll g h (s_to h nx gp)) else g
