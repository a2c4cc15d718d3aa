theorem s_takes_ne (g : zG) (t : Int32) {j : Nat} (h : j ≠ 3) (h2 : j ≠ 11) : s_takes g t j = g j := by
  unfold s_takes; rw [gu_ne _ _ h2, gu_ne _ _ h]
theorem s_takes_3 (g : zG) (t : Int32) : s_takes g t 3 = g 3 + t := by
  unfold s_takes; rw [gu_ne _ _ (by decide), gu_same]
theorem n32_div {a b : Nat} (ha : a < 2147483648) (hb : b < 2147483648) : n32 a / n32 b = n32 (a / b) := by
  have h1 : a / b ≤ a := Nat.div_le_self a b
  rw [← Int32.toInt_inj, Int32.toInt_div, n32_toInt ha, n32_toInt hb, n32_toInt (by omega)]
  have e : (a : Int).tdiv (b : Int) = ((a / b : Nat) : Int) := rfl
  rw [e]
  generalize a / b = c at h1 ⊢
  apply Int.bmod_eq_of_le <;> omega
theorem n32_mod {a b : Nat} (ha : a < 2147483648) (hb : b < 2147483648) : n32 a - n32 a / n32 b * n32 b = n32 (a % b) := by
  rw [n32_div ha hb, n32_mul, n32_sub (Nat.div_mul_le_self a b)]
  congr 1
  have := Nat.div_add_mod a b
  rw [Nat.mul_comm] at this
  omega
def s_bhd (h o : Nat) : Nat := if (o + 32 - h) % 32 = 0 then 32 else (o + 32 - h) % 32
def s_tick (g : zG) : zG := gu g 3 (g 3 + g 1)
theorem s_tick_ne (g : zG) {j : Nat} (h : j ≠ 3) : s_tick g j = g j := by unfold s_tick; rw [gu_ne _ _ h]
/-- the wait of the first message of a queue is set: the array behind an unspoilt sending -/
def s_sent (g g1 : zG) (m : Nat) : zG := gu (gu (gu g1 (242 + 5 * m + 4) (g 3 - g (242 + 5 * m + 3))) 10 (g 10 + n32 1)) 15 (g 15 + g (242 + 5 * m + 0))
def s_spoilt (g : zG) (m : Nat) : Bool := s_loud g (g 3) (g 3 + g (242 + 5 * m + 0) - n32 1)
def s_sends (g : zG) (m : Nat) : zG := if s_spoilt g m = true then s_takes g (g (242 + 5 * m + 0)) else s_sent g (s_takes g (g (242 + 5 * m + 0))) m
