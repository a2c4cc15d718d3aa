section MODEL
variable {σ : zSt} {M : Nat}
theorem s_bh_nn (g : zG) (m : Nat) : s_bh g nn m = true := by simp [s_bh]
theorem s_bh_n (g : zG) {b : Nat} (hb : b < 100) (m : Nat) (hm : m < 100) : s_bh g (n32 b) m = (decide (g (242 + 5 * m + 1) < g (242 + 5 * b + 1)) || (decide (g (242 + 5 * m + 1) = g (242 + 5 * b + 1)) && decide (b < m))) := by
  unfold s_bh
  rw [n32_toNat (by omega)]
  have e1 : (n32 b = nn) = False := propext (n32_ne (by omega))
  have e2 : (n32 b < n32 m) = (b < m) := propext (n32_lt (by omega) (by omega))
  simp only [e1, e2, decide_false, Bool.false_or]
theorem s_next_rng (g : zG) (x b : Int32) {n : Nat} (hn : g 5 = n32 n) (hn2 : n ≤ 100) : s_next g x b = nn ∨ ∃ j, j < n ∧ s_next g x b = n32 j := by
  unfold s_next
  rw [hn, n32_toNat (by omega)]
  exact s_nx_rng g x b n
def s_sum (F : Nat → Int32) : Nat → Int32
  | 0 => n32 0
  | k + 1 => s_sum F k + F k
end MODEL
