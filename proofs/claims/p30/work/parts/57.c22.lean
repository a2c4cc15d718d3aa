/-! THE SAVED STATES OF THE CLASS -/
def zHs (σ : zSt) (hs : Nat) (hl : Nat → Nat) : Prop :=
  z_ob σ hs 1 = true ∧ z_R σ hs 0 = some (hs + 1) ∧ z_ar σ (hs + 1) 4 = true ∧ z_ln σ (hs + 1) = 4 ∧ ∀ i, i < 4 → z_R σ (hs + 1) i = some (hl i) ∧ z_ob σ (hl i) 2 = true
section CLASS
variable {σ : zSt} {hs : Nat} {hl : Nat → Nat}
theorem c_stateAt (h : zHs σ hs hl) {i : Nat} (hi : i < 4) : f_X1_stateAt σ hs (n32 i) = some (some (hl i)) := by
  obtain ⟨h1, h2, h3, h4, h5⟩ := h
  have f1 : (i < 0) = False := eq_false (by omega)
  have f2 : (4 ≤ i) = False := eq_false (by omega)
  simp (disch := omega) only [f_X1_stateAt, f_X1_stateAt_22, f_X1_stateAt_23, ↓zl_eq, ↓zb_eq, ↓zb2_eq, ↓zc_some, ↓zc_none, ↓zb_pre, ↓zb2_pre, ↓zc_pre, ↓zex_eq, ↓reduceIte, Option.isSome_some, Option.isSome_none, Option.getD_some, n32_lit, h1, h2, h3, h4, (h5 i hi).1, ofN_n32, n32_lt, n32_le, f1, f2, n32_ix, n32_toNat]
/-- the heap behind the dropping of the oldest state -/
def s_rot4 (σ : zSt) (hs : Nat) (hl : Nat → Nat) : zSt :=
  z_pI (z_pR (z_pR (z_pR (z_pR σ (hs + 1) 0 (some (hl 1))) (hs + 1) 1 (some (hl 2))) (hs + 1) 2 (some (hl 3))) (hs + 1) 3 (some (hl 0))) hs 1 (n32 3)
theorem c_dropOldest (h : zHs σ hs hl) : f_X1_dropOldest σ hs = some (s_rot4 σ hs hl) := by
  have hS := c_stateAt h (i := 0) (by decide)
  obtain ⟨h1, h2, h3, h4, h5⟩ := h
  have hne : ¬ hs = hs + 1 := by omega
  have a1 := h5 1 (by decide)
  have a2 := h5 2 (by decide)
  have a3 := h5 3 (by decide)
  have a0 := h5 0 (by decide)
  have e1 : f_X1_dropOldest σ hs = f_X1_dropOldest_8 hs (some (hl 0)) σ (n32 0) := by
    simp only [f_X1_dropOldest, ↓zl_eq, ↓zb_eq, ↓zb2_eq, ↓zc_some, ↓zc_none, ↓zb_pre, ↓zb2_pre, ↓zc_pre, ↓zex_eq, ↓reduceIte, Option.isSome_some, Option.isSome_none, Option.getD_some, n32_lit, h1, hS]
  rw [e1]
  unfold f_X1_dropOldest_8
  have m1 : n32 0 + n32 1 = n32 1 := rfl
  have m2 : n32 1 + n32 1 = n32 2 := rfl
  have m3 : n32 2 + n32 1 = n32 3 := rfl
  have m4 : n32 3 + n32 1 = n32 4 := rfl
  have g1 : (4 ≤ 1) = False := eq_false (by omega)
  have g2 : (4 ≤ 2) = False := eq_false (by omega)
  have g3 : (4 ≤ 3) = False := eq_false (by omega)
  refine (zloop_l (N := 4999) (t := (z_pR σ (hs + 1) 0 (some (hl 1)), n32 1)) ?_).trans ?_
  · show b_X1_dropOldest_8 hs (some (hl 0)) σ (n32 0) = _
    simp (disch := omega) only [b_X1_dropOldest_8, ↓zl_eq, ↓zb_eq, ↓zb2_eq, ↓zc_some, ↓zc_none, ↓zb_pre, ↓zb2_pre, ↓zc_pre, ↓zex_eq, ↓reduceIte, Option.isSome_some, Option.isSome_none, Option.getD_some, n32_lit, h1, h2, h3, h4, ofN_n32, m1, n32_le, g1, n32_ix, n32_toNat, a1.1, a1.2]
  refine (zloop_l (N := 4998) (t := (z_pR (z_pR σ (hs + 1) 0 (some (hl 1))) (hs + 1) 1 (some (hl 2)), n32 2)) ?_).trans ?_
  · show b_X1_dropOldest_8 hs (some (hl 0)) (z_pR σ (hs + 1) 0 (some (hl 1))) (n32 1) = _
    simp (disch := omega) only [b_X1_dropOldest_8, ↓zl_eq, ↓zb_eq, ↓zb2_eq, ↓zc_some, ↓zc_none, ↓zb_pre, ↓zb2_pre, ↓zc_pre, ↓zex_eq, ↓reduceIte, Option.isSome_some, Option.isSome_none, Option.getD_some, n32_lit, z_ob_pR, z_ar_pR, z_ln_pR, z_R_pR, hne, false_and, true_and, if_false, h1, h2, h3, h4, ofN_n32, m2, n32_le, g2, n32_ix, n32_toNat, a2.1, a2.2, show ((2 : Nat) = 0) = False from eq_false (by decide)]
  refine (zloop_l (N := 4997) (t := (z_pR (z_pR (z_pR σ (hs + 1) 0 (some (hl 1))) (hs + 1) 1 (some (hl 2))) (hs + 1) 2 (some (hl 3)), n32 3)) ?_).trans ?_
  · show b_X1_dropOldest_8 hs (some (hl 0)) (z_pR (z_pR σ (hs + 1) 0 (some (hl 1))) (hs + 1) 1 (some (hl 2))) (n32 2) = _
    simp (disch := omega) only [b_X1_dropOldest_8, ↓zl_eq, ↓zb_eq, ↓zb2_eq, ↓zc_some, ↓zc_none, ↓zb_pre, ↓zb2_pre, ↓zc_pre, ↓zex_eq, ↓reduceIte, Option.isSome_some, Option.isSome_none, Option.getD_some, n32_lit, z_ob_pR, z_ar_pR, z_ln_pR, z_R_pR, hne, false_and, true_and, if_false, h1, h2, h3, h4, ofN_n32, m3, n32_le, g3, n32_ix, n32_toNat, a3.1, a3.2, show ((3 : Nat) = 0) = False from eq_false (by decide), show ((3 : Nat) = 1) = False from eq_false (by decide)]
  refine zloop_r (N := 4996) ?_
  show b_X1_dropOldest_8 hs (some (hl 0)) (z_pR (z_pR (z_pR σ (hs + 1) 0 (some (hl 1))) (hs + 1) 1 (some (hl 2))) (hs + 1) 2 (some (hl 3))) (n32 3) = _
  unfold s_rot4
  simp (disch := omega) only [b_X1_dropOldest_8, f_X1_dropOldest_60, ↓zl_eq, ↓zb_eq, ↓zb2_eq, ↓zc_some, ↓zc_none, ↓zb_pre, ↓zb2_pre, ↓zc_pre, ↓zex_eq, ↓reduceIte, Option.isSome_some, Option.isSome_none, Option.getD_some, n32_lit, z_ob_pR, z_ar_pR, z_ln_pR, z_R_pR, z_ob_pI, z_ar_pI, z_ln_pI, z_R_pI, z_I_pI, and_self, hne, false_and, true_and, if_false, h1, h2, h3, h4, ofN_n32, m4, n32_le, n32_ix, n32_toNat, Nat.le_refl, g3, a0.2]
end CLASS
