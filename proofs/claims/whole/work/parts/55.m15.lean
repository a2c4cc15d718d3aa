section MODEL
variable {σ : zSt} {M : Nat}
theorem m_isSt1 (hM : zMs σ M) {x : Nat} (hx : x < 32) : f_X10_isStation σ M (n32 x) = some (bi (decide (z_I σ (M + 1) (18 + 7 * x + 0) = n32 1))) := by
  have e : f_X10_in σ (n32 x).toInt64 (0 : Int64) (31 : Int64) = some (bi true) := by
    have := m_inN σ (n32 x) (lo := 0) (hi := 31) (by omega) (by omega)
    rw [n32_toInt (by omega)] at this
    rw [show (0 : Int64) = Int64.ofNat 0 from rfl, show (31 : Int64) = Int64.ofNat 31 from rfl, this]
    congr 2
    exact decide_eq_true (by omega)
  have b1 : z_bl (n32 1) = true := rfl
  have b0 : z_bl (n32 0) = true := rfl
  have t0 : (bi true = 0) = False := eq_false (by decide)
  unfold f_X10_isStation
  rw [e]
  simp (disch := omega) only [f_X10_isStation_26, f_X10_isStation_27, ↓zl_eq, ↓zb_eq, ↓zb2_eq, ↓zc_some, ↓zc_none, ↓zb_pre, ↓zb2_pre, ↓zc_pre, ↓zex_eq, ↓reduceIte, Option.isSome_some, Option.isSome_none, Option.getD_some, t0, hM.1, n32_lit, m_of hM, b1, b0]
  by_cases h : z_I σ (M + 1) (18 + 7 * x + 0) = n32 1
  · simp only [h, if_true, decide_true]; rfl
  · simp only [h, if_false, decide_false]; rfl
theorem m_isSt0 (x : Int32) (hx : ¬ (0 ≤ x.toInt ∧ x.toInt ≤ 31)) : f_X10_isStation σ M x = some (bi false) := by
  have e : f_X10_in σ x.toInt64 (0 : Int64) (31 : Int64) = some (bi false) := by
    have := m_inN σ x (lo := 0) (hi := 31) (by omega) (by omega)
    rw [show (0 : Int64) = Int64.ofNat 0 from rfl, show (31 : Int64) = Int64.ofNat 31 from rfl, this]
    congr 2
    exact decide_eq_false hx
  unfold f_X10_isStation
  rw [e]
  rfl
end MODEL
