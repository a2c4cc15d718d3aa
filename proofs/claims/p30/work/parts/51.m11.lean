/-! THE REFERENCE'S COPIES of its array -/
def s_cp (f g : zG) (k : Nat) : zG := fun j => if j < k then f j else g j
theorem s_cp0 (f g : zG) : s_cp f g 0 = g := by funext j; unfold s_cp; rw [if_neg (by omega)]
theorem s_cp_step (f g : zG) (k : Nat) : gu (s_cp f g k) k (f k) = s_cp f g (k + 1) := by
  funext j
  unfold gu s_cp
  by_cases h : j = k
  · subst h; rw [if_pos rfl, if_pos (by omega)]
  · rw [if_neg h]
    by_cases h2 : j < k
    · rw [if_pos h2, if_pos (by omega)]
    · rw [if_neg h2, if_neg (by omega)]
section MODEL
variable {σ : zSt} {M : Nat}
theorem m_lays (hM : zMs σ M) : f_X10_lays σ M = some (z_sA σ (M + 3) (s_cp (z_I σ (M + 1)) (z_I σ (M + 3)) 942)) := by
  unfold f_X10_lays f_X10_lays_2
  have e0 : (σ, (0 : Int32)) = ((fun k => (z_sA σ (M + 3) (s_cp (z_I σ (M + 1)) (z_I σ (M + 3)) k), n32 k)) 0 : zSt × Int32) := by
    simp only [s_cp0, z_sA_id]; rfl
  rw [e0]
  refine zloop_go (N := zN) (fun k => (z_sA σ (M + 3) (s_cp (z_I σ (M + 1)) (z_I σ (M + 3)) k), n32 k)) _ 942 (fun k hk => ?_) ?_ (by unfold zN; omega)
  · show b_X10_lays_2 M (z_sA σ (M + 3) (s_cp (z_I σ (M + 1)) (z_I σ (M + 3)) k)) (n32 k) = some (.inl (z_sA σ (M + 3) (s_cp (z_I σ (M + 1)) (z_I σ (M + 3)) (k + 1)), n32 (k + 1)))
    rw [← s_cp_step]
    simp (disch := omega) only [b_X10_lays_2, ↓zl_eq, ↓zb_eq, ↓zb2_eq, ↓zc_some, ↓zc_none, ↓zb_pre, ↓zb2_pre, ↓zc_pre, ↓zex_eq, ↓reduceIte, Option.isSome_some, Option.isSome_none, Option.getD_some, n32_lit, n32_nn, n32_nn2, n32_add, n32_mul, n32_toNat, n32_ix, hM.1, hM.2.1, hM.2.2.1, hM.2.2.2.1, hM.2.2.2.2.1, hM.2.2.2.2.2.1, hM.2.2.2.2.2.2.1, hM.2.2.2.2.2.2.2.1, hM.2.2.2.2.2.2.2.2.1, hM.2.2.2.2.2.2.2.2.2.1, hM.2.2.2.2.2.2.2.2.2.2.1, hM.2.2.2.2.2.2.2.2.2.2.2.1, hM.2.2.2.2.2.2.2.2.2.2.2.2, z_pI_eq, z_sA_sA, z_I_sA, z_J_sA, z_R_sA, z_ob_sA, z_ar_sA, z_ln_sA, z_nx_sA, n32_le, z_I_sAn]
    rw [if_neg (by omega)]
  · show b_X10_lays_2 M _ (n32 942) = _
    simp (disch := omega) only [b_X10_lays_2, ↓zl_eq, ↓zb_eq, ↓zb2_eq, ↓zc_some, ↓zc_none, ↓zb_pre, ↓zb2_pre, ↓zc_pre, ↓zex_eq, ↓reduceIte, Option.isSome_some, Option.isSome_none, Option.getD_some, n32_lit, n32_nn, n32_nn2, n32_add, n32_mul, n32_toNat, n32_ix, n32_le, Nat.le_refl]
theorem m_takesBack (hM : zMs σ M) : f_X10_takesBack σ M = some (z_sA σ (M + 1) (s_cp (z_I σ (M + 3)) (z_I σ (M + 1)) 942)) := by
  unfold f_X10_takesBack f_X10_takesBack_2
  have e0 : (σ, (0 : Int32)) = ((fun k => (z_sA σ (M + 1) (s_cp (z_I σ (M + 3)) (z_I σ (M + 1)) k), n32 k)) 0 : zSt × Int32) := by
    simp only [s_cp0, z_sA_id]; rfl
  rw [e0]
  refine zloop_go (N := zN) (fun k => (z_sA σ (M + 1) (s_cp (z_I σ (M + 3)) (z_I σ (M + 1)) k), n32 k)) _ 942 (fun k hk => ?_) ?_ (by unfold zN; omega)
  · show b_X10_takesBack_2 M (z_sA σ (M + 1) (s_cp (z_I σ (M + 3)) (z_I σ (M + 1)) k)) (n32 k) = some (.inl (z_sA σ (M + 1) (s_cp (z_I σ (M + 3)) (z_I σ (M + 1)) (k + 1)), n32 (k + 1)))
    rw [← s_cp_step]
    simp (disch := omega) only [b_X10_takesBack_2, ↓zl_eq, ↓zb_eq, ↓zb2_eq, ↓zc_some, ↓zc_none, ↓zb_pre, ↓zb2_pre, ↓zc_pre, ↓zex_eq, ↓reduceIte, Option.isSome_some, Option.isSome_none, Option.getD_some, n32_lit, n32_nn, n32_nn2, n32_add, n32_mul, n32_toNat, n32_ix, hM.1, hM.2.1, hM.2.2.1, hM.2.2.2.1, hM.2.2.2.2.1, hM.2.2.2.2.2.1, hM.2.2.2.2.2.2.1, hM.2.2.2.2.2.2.2.1, hM.2.2.2.2.2.2.2.2.1, hM.2.2.2.2.2.2.2.2.2.1, hM.2.2.2.2.2.2.2.2.2.2.1, hM.2.2.2.2.2.2.2.2.2.2.2.1, hM.2.2.2.2.2.2.2.2.2.2.2.2, z_pI_eq, z_sA_sA, z_I_sA, z_J_sA, z_R_sA, z_ob_sA, z_ar_sA, z_ln_sA, z_nx_sA, n32_le, z_I_sAn]
    rw [if_neg (by omega)]
  · show b_X10_takesBack_2 M _ (n32 942) = _
    simp (disch := omega) only [b_X10_takesBack_2, ↓zl_eq, ↓zb_eq, ↓zb2_eq, ↓zc_some, ↓zc_none, ↓zb_pre, ↓zb2_pre, ↓zc_pre, ↓zex_eq, ↓reduceIte, Option.isSome_some, Option.isSome_none, Option.getD_some, n32_lit, n32_nn, n32_nn2, n32_add, n32_mul, n32_toNat, n32_ix, n32_le, Nat.le_refl]
end MODEL
