/-- the saved arrays moved down by one, so far -/
def s_dn1 (f : zG) (k : Nat) : zG := fun j => if j < k then f (j + 942) else f j
/-- an array put behind the saved ones, so far -/
def s_up (f g : zG) (b k : Nat) : zG := fun j => if b ≤ j ∧ j < b + k then g (j - b) else f j
theorem s_dn1_0 (f : zG) : s_dn1 f 0 = f := by funext j; unfold s_dn1; rw [if_neg (by omega)]
theorem s_dn1_step (f : zG) (k : Nat) : gu (s_dn1 f k) k (s_dn1 f k (k + 942)) = s_dn1 f (k + 1) := by
  funext j
  unfold gu s_dn1
  by_cases h : j = k
  · subst h; rw [if_pos rfl, if_neg (by omega), if_pos (by omega)]
  · rw [if_neg h]
    by_cases h2 : j < k
    · rw [if_pos h2, if_pos (by omega)]
    · rw [if_neg h2, if_neg (by omega)]
theorem s_up_0 (f g : zG) (b : Nat) : s_up f g b 0 = f := by funext j; unfold s_up; rw [if_neg (by omega)]
theorem s_up_step (f g : zG) (b k : Nat) : gu (s_up f g b k) (b + k) (g k) = s_up f g b (k + 1) := by
  funext j
  unfold gu s_up
  by_cases h : j = b + k
  · subst h; rw [if_pos rfl, if_pos (by omega)]; congr 1; omega
  · rw [if_neg h]
    by_cases h2 : b ≤ j ∧ j < b + k
    · rw [if_pos h2, if_pos (by omega)]
    · rw [if_neg h2, if_neg (by omega)]
section MODEL
variable {σ : zSt} {M : Nat}
theorem m_save51 (hM : zMs σ M) {sm : Nat} (hs : sm ≤ 3) (h3 : z_I σ M 3 = n32 sm) : f_X10_save_49 σ M = some (z_sA (z_sA σ (M + 2) (s_up (z_I σ (M + 2)) (z_I σ (M + 1)) (942 * sm) 942)) M (gu (z_I σ M) 3 (n32 (sm + 1)))) := by
  unfold f_X10_save_49 f_X10_save_51
  have e0 : (σ, (0 : Int32)) = ((fun k => (z_sA σ (M + 2) (s_up (z_I σ (M + 2)) (z_I σ (M + 1)) (942 * sm) k), n32 k)) 0 : zSt × Int32) := by
    simp only [s_up_0, z_sA_id]; rfl
  rw [e0]
  refine zloop_go (N := zN) (fun k => (z_sA σ (M + 2) (s_up (z_I σ (M + 2)) (z_I σ (M + 1)) (942 * sm) k), n32 k)) _ 942 (fun k hk => ?_) ?_ (by unfold zN; omega)
  · show b_X10_save_51 M (z_sA σ (M + 2) (s_up (z_I σ (M + 2)) (z_I σ (M + 1)) (942 * sm) k)) (n32 k) = some (.inl (z_sA σ (M + 2) (s_up (z_I σ (M + 2)) (z_I σ (M + 1)) (942 * sm) (k + 1)), n32 (k + 1)))
    rw [← s_up_step]
    simp (disch := omega) only [b_X10_save_51, ↓zl_eq, ↓zb_eq, ↓zb2_eq, ↓zc_some, ↓zc_none, ↓zb_pre, ↓zb2_pre, ↓zc_pre, ↓zex_eq, ↓reduceIte, Option.isSome_some, Option.isSome_none, Option.getD_some, n32_lit, n32_nn, n32_nn2, n32_add, n32_mul, n32_toNat, n32_ix, hM.1, hM.2.1, hM.2.2.1, hM.2.2.2.1, hM.2.2.2.2.1, hM.2.2.2.2.2.1, hM.2.2.2.2.2.2.1, hM.2.2.2.2.2.2.2.1, hM.2.2.2.2.2.2.2.2.1, hM.2.2.2.2.2.2.2.2.2.1, hM.2.2.2.2.2.2.2.2.2.2.1, hM.2.2.2.2.2.2.2.2.2.2.2.1, hM.2.2.2.2.2.2.2.2.2.2.2.2, z_pI_eq, z_sA_sA, z_I_sA, z_J_sA, z_R_sA, z_ob_sA, z_ar_sA, z_ln_sA, z_nx_sA, n32_le, z_I_sAn, h3]
    rw [if_neg (by omega)]
  · show b_X10_save_51 M _ (n32 942) = _
    simp (disch := omega) only [b_X10_save_51, ↓zl_eq, ↓zb_eq, ↓zb2_eq, ↓zc_some, ↓zc_none, ↓zb_pre, ↓zb2_pre, ↓zc_pre, ↓zex_eq, ↓reduceIte, Option.isSome_some, Option.isSome_none, Option.getD_some, n32_lit, n32_nn, n32_nn2, n32_add, n32_mul, n32_toNat, n32_ix, hM.1, hM.2.1, hM.2.2.1, hM.2.2.2.1, hM.2.2.2.2.1, hM.2.2.2.2.2.1, hM.2.2.2.2.2.2.1, hM.2.2.2.2.2.2.2.1, hM.2.2.2.2.2.2.2.2.1, hM.2.2.2.2.2.2.2.2.2.1, hM.2.2.2.2.2.2.2.2.2.2.1, hM.2.2.2.2.2.2.2.2.2.2.2.1, hM.2.2.2.2.2.2.2.2.2.2.2.2, z_pI_eq, z_sA_sA, z_I_sA, z_J_sA, z_R_sA, z_ob_sA, z_ar_sA, z_ln_sA, z_nx_sA, n32_le, Nat.le_refl, z_I_sAn, h3]
theorem m_save (hM : zMs σ M) {sm : Nat} (hs : sm ≤ 3) (h3 : z_I σ M 3 = n32 sm) : f_X10_save σ M = some (z_sA (z_sA σ (M + 2) (s_up (z_I σ (M + 2)) (z_I σ (M + 1)) (942 * sm) 942)) M (gu (z_I σ M) 3 (n32 (sm + 1)))) := by
  simp (disch := omega) only [f_X10_save, ↓zl_eq, ↓zb_eq, ↓zb2_eq, ↓zc_some, ↓zc_none, ↓zb_pre, ↓zb2_pre, ↓zc_pre, ↓zex_eq, ↓reduceIte, Option.isSome_some, Option.isSome_none, Option.getD_some, n32_lit, n32_nn, n32_nn2, n32_add, n32_mul, n32_toNat, n32_ix, hM.1, hM.2.1, hM.2.2.1, hM.2.2.2.1, hM.2.2.2.2.1, hM.2.2.2.2.2.1, hM.2.2.2.2.2.2.1, hM.2.2.2.2.2.2.2.1, hM.2.2.2.2.2.2.2.2.1, hM.2.2.2.2.2.2.2.2.2.1, hM.2.2.2.2.2.2.2.2.2.2.1, hM.2.2.2.2.2.2.2.2.2.2.2.1, hM.2.2.2.2.2.2.2.2.2.2.2.2, n32_eq, h3, m_save51 hM hs h3]
  rw [if_neg (by omega)]
theorem m_save4 (hM : zMs σ M) (h3 : z_I σ M 3 = n32 4) : f_X10_save σ M = some (z_sA (z_sA σ (M + 2) (s_up (s_dn1 (z_I σ (M + 2)) 2826) (z_I σ (M + 1)) 2826 942)) M (gu (z_I σ M) 3 (n32 4))) := by
  simp (disch := omega) only [f_X10_save, f_X10_save_10, ↓zl_eq, ↓zb_eq, ↓zb2_eq, ↓zc_some, ↓zc_none, ↓zb_pre, ↓zb2_pre, ↓zc_pre, ↓zex_eq, ↓reduceIte, Option.isSome_some, Option.isSome_none, Option.getD_some, n32_lit, n32_nn, n32_nn2, n32_add, n32_mul, n32_toNat, n32_ix, hM.1, hM.2.1, hM.2.2.1, hM.2.2.2.1, hM.2.2.2.2.1, hM.2.2.2.2.2.1, hM.2.2.2.2.2.2.1, hM.2.2.2.2.2.2.2.1, hM.2.2.2.2.2.2.2.2.1, hM.2.2.2.2.2.2.2.2.2.1, hM.2.2.2.2.2.2.2.2.2.2.1, hM.2.2.2.2.2.2.2.2.2.2.2.1, hM.2.2.2.2.2.2.2.2.2.2.2.2, h3]
  have e0 : (σ, n32 0) = ((fun k => (z_sA σ (M + 2) (s_dn1 (z_I σ (M + 2)) k), n32 k)) 0 : zSt × Int32) := by
    simp only [s_dn1_0, z_sA_id]
  rw [e0]
  refine zloop_go (N := zN) (fun k => (z_sA σ (M + 2) (s_dn1 (z_I σ (M + 2)) k), n32 k)) _ 2826 (fun k hk => ?_) ?_ (by unfold zN; omega)
  · show b_X10_save_10 M (z_sA σ (M + 2) (s_dn1 (z_I σ (M + 2)) k)) (n32 k) = some (.inl (z_sA σ (M + 2) (s_dn1 (z_I σ (M + 2)) (k + 1)), n32 (k + 1)))
    rw [← s_dn1_step]
    simp (disch := omega) only [b_X10_save_10, ↓zl_eq, ↓zb_eq, ↓zb2_eq, ↓zc_some, ↓zc_none, ↓zb_pre, ↓zb2_pre, ↓zc_pre, ↓zex_eq, ↓reduceIte, Option.isSome_some, Option.isSome_none, Option.getD_some, n32_lit, n32_nn, n32_nn2, n32_add, n32_mul, n32_toNat, n32_ix, hM.1, hM.2.1, hM.2.2.1, hM.2.2.2.1, hM.2.2.2.2.1, hM.2.2.2.2.2.1, hM.2.2.2.2.2.2.1, hM.2.2.2.2.2.2.2.1, hM.2.2.2.2.2.2.2.2.1, hM.2.2.2.2.2.2.2.2.2.1, hM.2.2.2.2.2.2.2.2.2.2.1, hM.2.2.2.2.2.2.2.2.2.2.2.1, hM.2.2.2.2.2.2.2.2.2.2.2.2, z_pI_eq, z_sA_sA, z_I_sA, z_J_sA, z_R_sA, z_ob_sA, z_ar_sA, z_ln_sA, z_nx_sA, n32_le]
    rw [if_neg (by omega)]
  · show b_X10_save_10 M (z_sA σ (M + 2) (s_dn1 (z_I σ (M + 2)) 2826)) (n32 2826) = _
    have e8 : n32 4 - n32 1 = n32 3 := rfl
    have K := m_save51 (σ := z_sA (z_sA σ (M + 2) (s_dn1 (z_I σ (M + 2)) 2826)) M (gu (z_I σ M) 3 (n32 3))) (M := M) hM (sm := 3) (by omega) (by rw [z_I_sA, gu_same])
    have x1 : z_I (z_sA (z_sA σ (M + 2) (s_dn1 (z_I σ (M + 2)) 2826)) M (gu (z_I σ M) 3 (n32 3))) (M + 2) = s_dn1 (z_I σ (M + 2)) 2826 := by rw [z_I_sAn _ _ _ (by omega), z_I_sA]
    have x2 : z_I (z_sA (z_sA σ (M + 2) (s_dn1 (z_I σ (M + 2)) 2826)) M (gu (z_I σ M) 3 (n32 3))) (M + 1) = z_I σ (M + 1) := by rw [z_I_sAn _ _ _ (by omega), z_I_sAn _ _ _ (by omega)]
    rw [x1, x2, z_I_sA] at K
    have comm : ∀ (s : zSt) (f g h k : zG), z_sA (z_sA (z_sA (z_sA s (M + 2) f) M g) (M + 2) h) M k = z_sA (z_sA s (M + 2) h) M k := by
      intro s f g h k
      unfold z_sA
      congr 1; congr 1; congr 1
      funext x j
      by_cases h1 : x = M
      · simp [h1]
      · by_cases h2 : x = M + 2 <;> simp [h1, h2]
    rw [comm] at K
    have e9 : gu (gu (z_I σ M) 3 (n32 3)) 3 (n32 (3 + 1)) = gu (z_I σ M) 3 (n32 4) := by
      funext j; unfold gu; by_cases hj : j = 3 <;> simp [hj]
    rw [e9] at K
    simp (disch := omega) only [b_X10_save_10, ↓zl_eq, ↓zb_eq, ↓zb2_eq, ↓zc_some, ↓zc_none, ↓zb_pre, ↓zb2_pre, ↓zc_pre, ↓zex_eq, ↓reduceIte, Option.isSome_some, Option.isSome_none, Option.getD_some, n32_lit, n32_nn, n32_nn2, n32_add, n32_mul, n32_toNat, n32_ix, hM.1, hM.2.1, hM.2.2.1, hM.2.2.2.1, hM.2.2.2.2.1, hM.2.2.2.2.2.1, hM.2.2.2.2.2.2.1, hM.2.2.2.2.2.2.2.1, hM.2.2.2.2.2.2.2.2.1, hM.2.2.2.2.2.2.2.2.2.1, hM.2.2.2.2.2.2.2.2.2.2.1, hM.2.2.2.2.2.2.2.2.2.2.2.1, hM.2.2.2.2.2.2.2.2.2.2.2.2, z_pI_eq, z_sA_sA, z_I_sA, z_J_sA, z_R_sA, z_ob_sA, z_ar_sA, z_ln_sA, z_nx_sA, n32_le, Nat.le_refl, z_I_sAn, h3, e8, K]
end MODEL
