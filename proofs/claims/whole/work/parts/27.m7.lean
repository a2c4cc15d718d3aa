/-! polling, passing, a visit -/
def s_l1 (g : zG) : Bool := s_loud g (g 3) (g 3 + n32 1 - n32 1)
def s_come (g : zG) (h to : Nat) : zG := gu (gu (gu (gu (gu g (18 + 7 * to + 2) (n32 1)) (18 + 7 * to + 3) (g (18 + 7 * h + 3))) (18 + 7 * to + 4) (n32 to)) (18 + 7 * h + 3) (n32 to)) 13 (g 13 + n32 1)
def s_free (g : zG) (to : Nat) : Bool := decide (g (18 + 7 * to + 0) = n32 1) && decide (g (18 + 7 * to + 1) = n32 1) && decide (g (18 + 7 * to + 2) = n32 0)
/-- what is left of a poll when the first question has been asked -/
def s_asked (g : zG) (h to : Nat) : zG :=
  if s_free g to = true then (if s_l1 g = true then s_tick (s_takes g (n32 1)) else s_come (s_takes g (n32 1)) h to) else s_tick g
def s_poll (g : zG) (h to : Nat) : zG :=
  if s_l1 (gu g (18 + 7 * h + 4) (n32 to)) = true then s_tick (s_takes (gu g (18 + 7 * h + 4) (n32 to)) (n32 1)) else s_asked (s_takes (gu g (18 + 7 * h + 4) (n32 to)) (n32 1)) h to
def s_to (h nx gp : Nat) : Nat := if s_bhd h ((gp + 1) % 32) ≤ s_bhd h nx - 1 then (gp + 1) % 32 else (h + 1) % 32
theorem s_to_lt (h nx gp : Nat) : s_to h nx gp < 32 := by
  unfold s_to; split <;> exact Nat.mod_lt _ (by decide)
theorem s_bhd_le (h o : Nat) : 1 ≤ s_bhd h o ∧ s_bhd h o ≤ 32 := by
  have := Nat.mod_lt (o + 32 - h) (show 32 > 0 by decide)
  unfold s_bhd; split <;> omega
def s_polls (g : zG) (h nx gp : Nat) : zG :=
  if g (18 + 7 * h + 5) - g (18 + 7 * h + 5) / g 2 * g 2 = n32 0 then (if s_bhd h nx - 1 = 0 then g else s_poll g h (s_to h nx gp)) else g
section MODEL
variable {σ : zSt} {M n : Nat}
theorem m_takesA (hM : zMs σ M) (hn2 : n ≤ 20) (g : zG) (t : Int32) (hn : g 6 = n32 n) : f_X10_takes (z_sA σ (M + 1) g) M t = some (bi (s_loud g (g 3) (g 3 + t - n32 1)), z_sA σ (M + 1) (s_takes g t)) := by
  have := m_takes (zMs_sA hM (M + 1) g) (n := n) (by rw [z_I_sA]; exact hn) hn2 t
  rw [z_I_sA, z_sA_sA] at this
  exact this
theorem m_ringA (hM : zMs σ M) (g : zG) {x : Nat} (hx : x < 32) : f_X10_isInRing (z_sA σ (M + 1) g) M (n32 x) = some (bi (s_ring g x)) := by
  have := m_ring (zMs_sA hM (M + 1) g) hx
  rw [z_I_sA] at this
  exact this
theorem m_ofA (hM : zMs σ M) (g : zG) {x w : Nat} (hx : x < 32) (hw : w < 7) : f_X10_of (z_sA σ (M + 1) g) M (n32 x) (n32 w) = some (g (18 + 7 * x + w)) := by
  have := m_of (zMs_sA hM (M + 1) g) hx hw
  rw [z_I_sA] at this
  exact this
theorem m_polls131a (hM : zMs σ M) (g : zG) (h to : Nat) : f_X10_polls_131 (z_sA σ (M + 1) g) M (n32 h) (n32 to) (n32 0) = some (z_sA σ (M + 1) (s_tick g)) := by
  simp (disch := omega) only [f_X10_polls_131, f_X10_polls_216, ↓zl_eq, ↓zb_eq, ↓zb2_eq, ↓zc_some, ↓zc_none, ↓zb_pre, ↓zb2_pre, ↓zc_pre, ↓zex_eq, ↓reduceIte, Option.isSome_some, Option.isSome_none, Option.getD_some, n32_lit, n32_nn, n32_nn2, n32_add, n32_mul, n32_toNat, n32_ix, hM.1, hM.2.1, hM.2.2.1, hM.2.2.2.1, hM.2.2.2.2.1, hM.2.2.2.2.2.1, hM.2.2.2.2.2.2.1, hM.2.2.2.2.2.2.2.1, hM.2.2.2.2.2.2.2.2.1, hM.2.2.2.2.2.2.2.2.2.1, hM.2.2.2.2.2.2.2.2.2.2.1, hM.2.2.2.2.2.2.2.2.2.2.2.1, hM.2.2.2.2.2.2.2.2.2.2.2.2, z_pI_eq, z_sA_sA, z_I_sA, z_J_sA, z_R_sA, z_ob_sA, z_ar_sA, z_ln_sA, z_nx_sA, s_tick]
theorem m_polls131b (hM : zMs σ M) (g : zG) {h to : Nat} (hh : h < 32) (ht : to < 32) : f_X10_polls_131 (z_sA σ (M + 1) g) M (n32 h) (n32 to) (n32 1) = some (z_sA σ (M + 1) (s_come g h to)) := by
  simp (disch := omega) only [f_X10_polls_131, f_X10_polls_216, f_X10_at, ↓zl_eq, ↓zb_eq, ↓zb2_eq, ↓zc_some, ↓zc_none, ↓zb_pre, ↓zb2_pre, ↓zc_pre, ↓zex_eq, ↓reduceIte, Option.isSome_some, Option.isSome_none, Option.getD_some, n32_lit, n32_nn, n32_nn2, n32_add, n32_mul, n32_toNat, n32_ix, hM.1, hM.2.1, hM.2.2.1, hM.2.2.2.1, hM.2.2.2.2.1, hM.2.2.2.2.2.1, hM.2.2.2.2.2.2.1, hM.2.2.2.2.2.2.2.1, hM.2.2.2.2.2.2.2.2.1, hM.2.2.2.2.2.2.2.2.2.1, hM.2.2.2.2.2.2.2.2.2.2.1, hM.2.2.2.2.2.2.2.2.2.2.2.1, hM.2.2.2.2.2.2.2.2.2.2.2.2, z_pI_eq, z_sA_sA, z_I_sA, z_J_sA, z_R_sA, z_ob_sA, z_ar_sA, z_ln_sA, z_nx_sA, n32_eq, m_ofA hM, gu_ne, s_come]
  simp only [Nat.one_ne_zero, if_false]
theorem m_poll (hM : zMs σ M) (hn2 : n ≤ 20) (hn : z_I σ (M + 1) 6 = n32 n) {h to : Nat} (hh : h < 32) (ht : to < 32) : f_X10_polls_65 σ M (n32 h) (n32 to) = some (z_sA σ (M + 1) (s_poll (z_I σ (M + 1)) h to)) := by
  have hn3 : gu (z_I σ (M + 1)) (18 + 7 * h + 4) (n32 to) 6 = n32 n := by rw [gu_ne _ _ (by omega)]; exact hn
  have A := m_takesA hM hn2 _ (n32 1) hn3
  have A2 := m_takesA hM hn2 (s_takes (gu (z_I σ (M + 1)) (18 + 7 * h + 4) (n32 to)) (n32 1)) (n32 1) (by rw [s_takes_ne _ _ (by decide) (by decide)]; exact hn3)
  simp (disch := omega) only [f_X10_polls_65, f_X10_polls_130, f_X10_at, ↓zl_eq, ↓zb_eq, ↓zb2_eq, ↓zc_some, ↓zc_none, ↓zb_pre, ↓zb2_pre, ↓zc_pre, ↓zex_eq, ↓reduceIte, Option.isSome_some, Option.isSome_none, Option.getD_some, n32_lit, n32_nn, n32_nn2, n32_add, n32_mul, n32_toNat, n32_ix, hM.1, hM.2.1, hM.2.2.1, hM.2.2.2.1, hM.2.2.2.2.1, hM.2.2.2.2.2.1, hM.2.2.2.2.2.2.1, hM.2.2.2.2.2.2.2.1, hM.2.2.2.2.2.2.2.2.1, hM.2.2.2.2.2.2.2.2.2.1, hM.2.2.2.2.2.2.2.2.2.2.1, hM.2.2.2.2.2.2.2.2.2.2.2.1, hM.2.2.2.2.2.2.2.2.2.2.2.2, z_pI_eq, z_sA_sA, z_I_sA, z_J_sA, z_R_sA, z_ob_sA, z_ar_sA, z_ln_sA, z_nx_sA, A, A2, m_ofA hM, m_polls131a hM, m_polls131b hM _ hh ht, bi_0n]
  unfold s_poll s_asked s_free s_l1
  generalize gu (z_I σ (M + 1)) (18 + 7 * h + 4) (n32 to) = g1
  generalize hg : s_takes g1 (n32 1) = g
  by_cases h0 : g (18 + 7 * to + 0) = n32 1 <;> by_cases h1 : g (18 + 7 * to + 1) = n32 1 <;> by_cases h2 : g (18 + 7 * to + 2) = n32 0 <;> cases s_loud g1 (g1 3) (g1 3 + n32 1 - n32 1) <;> cases s_loud g (g 3) (g 3 + n32 1 - n32 1) <;> simp only [h0, h1, h2, ↓reduceIte, decide_true, decide_false, Bool.and_false, Bool.false_and, Bool.and_self, Bool.false_eq_true, Bool.true_eq_false]
theorem m_polls (hM : zMs σ M) (hn2 : n ≤ 20) (hn : z_I σ (M + 1) 6 = n32 n) {h nx gp gg : Nat} (hh : h < 32) (hx : nx < 32) (hp : gp < 32) (hgg : gg < 21) (hg1 : 1 ≤ gg) (h3 : z_I σ (M + 1) (18 + 7 * h + 3) = n32 nx) (h4 : z_I σ (M + 1) (18 + 7 * h + 4) = n32 gp) (h2 : z_I σ (M + 1) 2 = n32 gg) :
    f_X10_polls σ M (n32 h) = some (z_sA σ (M + 1) (s_polls (z_I σ (M + 1)) h nx gp)) := by
  have hb1 := s_bhd_le h nx
  have hb2 := s_bhd_le h ((gp + 1) % 32)
  have hm1 := Nat.mod_lt (gp + 1) (show 32 > 0 by decide)
  have hm2 := Nat.mod_lt (h + 1) (show 32 > 0 by decide)
  have e1 : n32 (s_bhd h nx) - n32 1 = n32 (s_bhd h nx - 1) := n32_sub hb1.1
  simp (disch := omega) only [f_X10_polls, f_X10_polls_33, ↓zl_eq, ↓zb_eq, ↓zb2_eq, ↓zc_some, ↓zc_none, ↓zb_pre, ↓zb2_pre, ↓zc_pre, ↓zex_eq, ↓reduceIte, Option.isSome_some, Option.isSome_none, Option.getD_some, n32_lit, n32_add, n32_mod, n32_toNat, n32_ix, hM.1, hM.2.1, hM.2.2.1, hM.2.2.2.1, hM.2.2.2.2.1, hM.2.2.2.2.2.1, hM.2.2.2.2.2.2.1, hM.2.2.2.2.2.2.2.1, hM.2.2.2.2.2.2.2.2.1, hM.2.2.2.2.2.2.2.2.2.1, hM.2.2.2.2.2.2.2.2.2.2.1, hM.2.2.2.2.2.2.2.2.2.2.2.1, hM.2.2.2.2.2.2.2.2.2.2.2.2, m_of hM, h3, h4, m_behind, e1, n32_eq, n32_lt, h2]
  unfold s_polls s_to
  rw [h2, if_pos (show ¬ gg = 0 by omega)]
  by_cases hv : z_I σ (M + 1) (18 + 7 * h + 5) - z_I σ (M + 1) (18 + 7 * h + 5) / n32 gg * n32 gg = n32 0
  · rw [if_pos hv, if_pos hv]
    by_cases hz : s_bhd h nx - 1 = 0
    · rw [if_pos hz, if_pos hz, z_sA_id]
    · rw [if_neg hz, if_neg hz]
      by_cases hq : s_bhd h nx - 1 < s_bhd h ((gp + 1) % 32)
      · rw [if_pos hq, if_neg (by omega)]
        exact m_poll hM hn2 hn hh hm2
      · rw [if_neg hq, if_pos (by omega)]
        exact m_poll hM hn2 hn hh hm1
  · rw [if_neg hv, if_neg hv, z_sA_id]
end MODEL
