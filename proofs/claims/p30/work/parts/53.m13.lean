/-! THE REFERENCE'S QUESTIONS: in, goes -/
section MODEL
variable {σ : zSt} {M : Nat}
theorem m_in64 (σ : zSt) (v lo hi : Int64) : f_X10_in σ v lo hi = some (bi (decide (lo ≤ v) && decide (v ≤ hi))) := by
  unfold f_X10_in f_X10_in_17 f_X10_in_18
  by_cases h1 : lg_cmp v lo < 0
  · rw [if_pos h1]
    rw [lg_cmp_lt] at h1
    have : ¬ lo ≤ v := by rw [Int64.not_le]; exact h1
    simp only [this, decide_false, Bool.false_and]
    rfl
  · rw [if_neg h1]
    rw [lg_cmp_lt, Int64.not_lt] at h1
    by_cases h2 : 0 < lg_cmp v hi
    · rw [if_pos h2]
      rw [lg_cmp_gt] at h2
      have : ¬ v ≤ hi := by rw [Int64.not_le]; exact h2
      simp only [this, decide_false, Bool.and_false]
      rfl
    · rw [if_neg h2]
      rw [lg_cmp_gt, Int64.not_lt] at h2
      simp only [h1, h2, decide_true, Bool.and_self]
      rfl
/-- the row of what `goes` notes -/
def s_goes (a b c : Bool) : Int32 := if a = false then n32 1 else if b = false then n32 2 else if c = false then n32 3 else n32 0
theorem m_goes (hM : zMs σ M) (a b c : Bool) : f_X10_goes σ M (bi a) (bi b) (bi c) = some (bi (a && b && c), z_sA σ M (gu (z_I σ M) 4 (s_goes a b c))) := by
  have n1 : (n32 1 = n32 0) = False := eq_false (by decide)
  have n2 : (n32 2 = n32 0) = False := eq_false (by decide)
  have n3 : (n32 3 = n32 0) = False := eq_false (by decide)
  have b1 : z_bl (n32 1) = true := rfl
  have b0 : z_bl (n32 0) = true := rfl
  unfold s_goes
  cases a <;> cases b <;> cases c <;> simp only [f_X10_goes, f_X10_goes_26, f_X10_goes_41, ↓zl_eq, ↓zb_eq, ↓zb2_eq, ↓zc_some, ↓zc_none, ↓zb_pre, ↓zb2_pre, ↓zc_pre, ↓zex_eq, ↓reduceIte, Option.isSome_some, Option.isSome_none, Option.getD_some, n32_lit, bi_0n, hM.1, z_pI_eq, z_ob_sA, z_I_sA, gu_same, n1, n2, n3, b1, b0, Bool.true_eq_false, Bool.false_eq_true] <;> rfl
end MODEL
