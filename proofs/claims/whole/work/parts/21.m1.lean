/-! THE REFERENCE, method by method, on its one array -/
theorem n32_lit (k : Nat) : (OfNat.ofNat k : Int32) = n32 (OfNat.ofNat k) := rfl
def nn : Int32 := -1
theorem n32_nn : (-1 : Int32) = nn := rfl
theorem n32_nn2 : -(n32 1) = nn := rfl
theorem n32_ne {k : Nat} (h : k < 2147483648) : (n32 k = nn) ↔ False := by
  rw [← Int32.toInt_inj, n32_toInt h]
  have e : nn.toInt = -1 := rfl
  rw [e]
  constructor
  · intro h; omega
  · intro h; cases h
theorem bi_0n (b : Bool) : (bi b = n32 0) ↔ b = false := by cases b <;> decide
theorem bi_t : n32 1 = bi true := rfl
theorem bi_f : n32 0 = bi false := rfl
def zMs (σ : zSt) (M : Nat) : Prop :=
  z_ob σ M 9 = true ∧ z_R σ M 0 = some (M + 1) ∧ z_R σ M 1 = some (M + 2) ∧ z_R σ M 2 = some (M + 3) ∧ z_R σ M 5 = some (M + 4) ∧
  z_ar σ (M + 1) 0 = true ∧ z_ar σ (M + 2) 0 = true ∧ z_ar σ (M + 3) 0 = true ∧ z_ar σ (M + 4) 0 = true ∧
  z_ln σ (M + 1) = 942 ∧ z_ln σ (M + 2) = 3768 ∧ z_ln σ (M + 3) = 942 ∧ z_ln σ (M + 4) = 120
theorem zMs_sA {σ : zSt} {M : Nat} (h : zMs σ M) (A : Nat) (g : zG) : zMs (z_sA σ A g) M := h
section MODEL
variable {σ : zSt} {M : Nat}
theorem m_of (hM : zMs σ M) {x w : Nat} (hx : x < 32) (hw : w < 7) : f_X10_of σ M (n32 x) (n32 w) = some (z_I σ (M + 1) (18 + 7 * x + w)) := by
  simp (disch := omega) only [f_X10_of, f_X10_at, ↓zl_eq, ↓zb_eq, ↓zb2_eq, ↓zc_some, ↓zc_none, ↓zb_pre, ↓zb2_pre, ↓zc_pre, ↓zex_eq, ↓reduceIte, Option.isSome_some, Option.isSome_none, Option.getD_some, n32_lit, n32_nn, n32_nn2, n32_add, n32_mul, n32_toNat, n32_ix, hM.1, hM.2.1, hM.2.2.1, hM.2.2.2.1, hM.2.2.2.2.1, hM.2.2.2.2.2.1, hM.2.2.2.2.2.2.1, hM.2.2.2.2.2.2.2.1, hM.2.2.2.2.2.2.2.2.1, hM.2.2.2.2.2.2.2.2.2.1, hM.2.2.2.2.2.2.2.2.2.2.1, hM.2.2.2.2.2.2.2.2.2.2.2.1, hM.2.2.2.2.2.2.2.2.2.2.2.2]
theorem m_ofM (hM : zMs σ M) {x w : Nat} (hx : x < 100) (hw : w < 5) : f_X10_ofMessage σ M (n32 x) (n32 w) = some (z_I σ (M + 1) (242 + 5 * x + w)) := by
  simp (disch := omega) only [f_X10_ofMessage, f_X10_inMessage, ↓zl_eq, ↓zb_eq, ↓zb2_eq, ↓zc_some, ↓zc_none, ↓zb_pre, ↓zb2_pre, ↓zc_pre, ↓zex_eq, ↓reduceIte, Option.isSome_some, Option.isSome_none, Option.getD_some, n32_lit, n32_nn, n32_nn2, n32_add, n32_mul, n32_toNat, n32_ix, hM.1, hM.2.1, hM.2.2.1, hM.2.2.2.1, hM.2.2.2.2.1, hM.2.2.2.2.2.1, hM.2.2.2.2.2.2.1, hM.2.2.2.2.2.2.2.1, hM.2.2.2.2.2.2.2.2.1, hM.2.2.2.2.2.2.2.2.2.1, hM.2.2.2.2.2.2.2.2.2.2.1, hM.2.2.2.2.2.2.2.2.2.2.2.1, hM.2.2.2.2.2.2.2.2.2.2.2.2]
theorem m_isInRing (hM : zMs σ M) {x : Nat} (hx : x < 32) : f_X10_isInRing σ M (n32 x) = some (bi (decide (z_I σ (M + 1) (18 + 7 * x + 0) = n32 1) && decide (z_I σ (M + 1) (18 + 7 * x + 1) = n32 1) && decide (z_I σ (M + 1) (18 + 7 * x + 2) = n32 1))) := by
  simp (disch := omega) only [f_X10_isInRing, f_X10_isInRing_34, f_X10_isInRing_35, ↓zl_eq, ↓zb_eq, ↓zb2_eq, ↓zc_some, ↓zc_none, ↓zb_pre, ↓zb2_pre, ↓zc_pre, ↓zex_eq, ↓reduceIte, Option.isSome_some, Option.isSome_none, Option.getD_some, n32_lit, n32_nn, n32_nn2, n32_add, n32_mul, n32_toNat, n32_ix, m_of hM, hM.1]
  by_cases h0 : z_I σ (M + 1) (18 + 7 * x + 0) = n32 1 <;> by_cases h1 : z_I σ (M + 1) (18 + 7 * x + 1) = n32 1 <;> by_cases h2 : z_I σ (M + 1) (18 + 7 * x + 2) = n32 1 <;> simp only [h0, h1, h2] <;> rfl
theorem m_adds (hM : zMs σ M) {x : Nat} (hx : x < 32) : f_X10_adds σ M (n32 x) = some (z_sA σ (M + 1) (gu (gu (gu (gu (gu (gu (gu (z_I σ (M + 1)) (18 + 7 * x + 0) (n32 1)) (18 + 7 * x + 1) (n32 1)) (18 + 7 * x + 2) (n32 0)) (18 + 7 * x + 3) (n32 x)) (18 + 7 * x + 4) (n32 x)) (18 + 7 * x + 5) (n32 0)) (18 + 7 * x + 6) nn)) := by
  simp (disch := omega) only [f_X10_adds, f_X10_at, ↓zl_eq, ↓zb_eq, ↓zb2_eq, ↓zc_some, ↓zc_none, ↓zb_pre, ↓zb2_pre, ↓zc_pre, ↓zex_eq, ↓reduceIte, Option.isSome_some, Option.isSome_none, Option.getD_some, n32_lit, n32_nn, n32_nn2, n32_add, n32_mul, n32_toNat, n32_ix, z_pI_eq, z_sA_sA, z_I_sA, z_J_sA, z_R_sA, z_ob_sA, z_ar_sA, z_ln_sA, z_nx_sA, hM.1, hM.2.1, hM.2.2.1, hM.2.2.2.1, hM.2.2.2.2.1, hM.2.2.2.2.2.1, hM.2.2.2.2.2.2.1, hM.2.2.2.2.2.2.2.1, hM.2.2.2.2.2.2.2.2.1, hM.2.2.2.2.2.2.2.2.2.1, hM.2.2.2.2.2.2.2.2.2.2.1, hM.2.2.2.2.2.2.2.2.2.2.2.1, hM.2.2.2.2.2.2.2.2.2.2.2.2]
end MODEL
