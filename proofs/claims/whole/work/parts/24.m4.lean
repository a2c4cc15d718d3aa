/-! a made token -/
def s_low (P : Nat → Bool) (h0 : Int32) : Nat → Int32
  | 0 => h0
  | k + 1 => if P (31 - k) = true then n32 (31 - k) else s_low P h0 k
def s_isOn (g : zG) (x : Nat) : Bool := decide (g (18 + 7 * x + 0) = n32 1) && decide (g (18 + 7 * x + 1) = n32 1)
def s_h1 (g : zG) : Int32 := s_low (s_isOn g) nn 32
def s_h2 (g : zG) : Int32 := s_low (s_ring g) (s_h1 g) 32
def s_dn (k : Nat) : Int32 := if k < 32 then n32 (31 - k) else n32 31 - n32 k
theorem s_low_rng (P : Nat → Bool) (h0 : Int32) (h : h0 = nn ∨ ∃ x, x < 32 ∧ h0 = n32 x) (k : Nat) : s_low P h0 k = nn ∨ ∃ x, x < 32 ∧ s_low P h0 k = n32 x := by
  induction k with
  | zero => exact h
  | succ k ih =>
    unfold s_low
    split
    · exact Or.inr ⟨31 - k, by omega, rfl⟩
    · exact ih
def s_tok (g : zG) (h : Nat) : zG :=
  let g1 := gu g 3 (g 3 + g 1 * n32 (6 + 2 * h))
  let g2 := if s_ring g h = true then g1 else gu (gu g1 (18 + 7 * h + 2) (n32 1)) (18 + 7 * h + 3) (n32 h)
  gu (gu g2 4 (n32 h)) 12 (g 12 + n32 1)
section MODEL
variable {σ : zSt} {M : Nat}
theorem n32_dn {k : Nat} (h : k < 32) : n32 (31 - k) + nn = s_dn (k + 1) := by
  unfold s_dn
  have e0 : nn = n32 0 - n32 1 := rfl
  by_cases h1 : k + 1 < 32
  · rw [if_pos h1]
    have e : n32 (31 - (k + 1)) + n32 1 = n32 (31 - k) := by rw [n32_add]; congr 1; omega
    rw [← e, Int32.add_assoc]
    have e2 : n32 1 + nn = n32 0 := rfl
    rw [e2, n32_add]; rfl
  · have : k = 31 := by omega
    subst this
    rfl
theorem m_low1 (hM : zMs σ M) {h0 : Int32} : ∀ r, f_X10_makesToken_44 σ M (s_low (s_isOn (z_I σ (M + 1))) h0 32) (n32 31) = some r → f_X10_makesToken_5 σ M h0 (n32 31) = some r := by
  intro r hr
  unfold f_X10_makesToken_5
  refine zloop_go (fun k => (s_low (s_isOn (z_I σ (M + 1))) h0 k, s_dn k)) _ 32 (fun k hk => ?_) ?_ (by unfold zN; omega)
  · show b_X10_makesToken_5 σ M _ (s_dn k) = some (.inl (if s_isOn (z_I σ (M + 1)) (31 - k) = true then n32 (31 - k) else s_low (s_isOn (z_I σ (M + 1))) h0 k, s_dn (k + 1)))
    have e : s_dn k = n32 (31 - k) := if_pos hk
    rw [e, ← n32_dn hk]
    simp (disch := omega) only [b_X10_makesToken_5, f_X10_makesToken_33, f_X10_makesToken_34, ↓zl_eq, ↓zb_eq, ↓zb2_eq, ↓zc_some, ↓zc_none, ↓zb_pre, ↓zb2_pre, ↓zc_pre, ↓zex_eq, ↓reduceIte, Option.isSome_some, Option.isSome_none, Option.getD_some, n32_lit, n32_nn, n32_nn2, n32_add, n32_mul, n32_toNat, n32_ix, hM.1, hM.2.1, hM.2.2.1, hM.2.2.2.1, hM.2.2.2.2.1, hM.2.2.2.2.2.1, hM.2.2.2.2.2.2.1, hM.2.2.2.2.2.2.2.1, hM.2.2.2.2.2.2.2.2.1, hM.2.2.2.2.2.2.2.2.2.1, hM.2.2.2.2.2.2.2.2.2.2.1, hM.2.2.2.2.2.2.2.2.2.2.2.1, hM.2.2.2.2.2.2.2.2.2.2.2.2, n32_lt, m_of hM]
    rw [if_neg (by omega)]
    have e9 : s_isOn (z_I σ (M + 1)) (31 - k) = (decide (z_I σ (M + 1) (18 + 7 * (31 - k) + 0) = n32 1) && decide (z_I σ (M + 1) (18 + 7 * (31 - k) + 1) = n32 1)) := rfl
    rw [e9]
    by_cases h1 : z_I σ (M + 1) (18 + 7 * (31 - k) + 0) = n32 1 <;> by_cases h2 : z_I σ (M + 1) (18 + 7 * (31 - k) + 1) = n32 1 <;> simp only [h1, h2, ↓reduceIte, decide_true, decide_false, Bool.and_false, Bool.false_and, Bool.and_self, Bool.false_eq_true]
  · show b_X10_makesToken_5 σ M _ (s_dn 32) = _
    unfold b_X10_makesToken_5
    rw [if_pos (by decide)]
    have e2 : (31 : Int32) = n32 31 := rfl
    rw [e2, hr]
    rfl
theorem m_low2 (hM : zMs σ M) {h0 : Int32} : ∀ r, b_X10_makesToken_44 σ M (s_low (s_ring (z_I σ (M + 1))) h0 32) (s_dn 32) = some (.inr r) → f_X10_makesToken_44 σ M h0 (n32 31) = some r := by
  intro r hr
  unfold f_X10_makesToken_44
  refine zloop_go (fun k => (s_low (s_ring (z_I σ (M + 1))) h0 k, s_dn k)) _ 32 (fun k hk => ?_) hr (by unfold zN; omega)
  show b_X10_makesToken_44 σ M _ (s_dn k) = some (.inl (if s_ring (z_I σ (M + 1)) (31 - k) = true then n32 (31 - k) else s_low (s_ring (z_I σ (M + 1))) h0 k, s_dn (k + 1)))
  have e : s_dn k = n32 (31 - k) := if_pos hk
  rw [e, ← n32_dn hk]
  unfold b_X10_makesToken_44
  have e3 : (0 : Int32) = n32 0 := rfl
  have e4 : ¬ n32 (31 - k) < 0 := by rw [e3, n32_lt (by omega) (by omega)]; omega
  rw [if_neg e4]
  simp (disch := omega) only [f_X10_makesToken_61, ↓zl_eq, ↓zb_eq, ↓zb2_eq, ↓zc_some, ↓zc_none, ↓zb_pre, ↓zb2_pre, ↓zc_pre, ↓zex_eq, ↓reduceIte, Option.isSome_some, Option.isSome_none, Option.getD_some, n32_lit, n32_nn, n32_nn2, n32_add, n32_mul, n32_toNat, n32_ix, hM.1, hM.2.1, hM.2.2.1, hM.2.2.2.1, hM.2.2.2.2.1, hM.2.2.2.2.2.1, hM.2.2.2.2.2.2.1, hM.2.2.2.2.2.2.2.1, hM.2.2.2.2.2.2.2.2.1, hM.2.2.2.2.2.2.2.2.2.1, hM.2.2.2.2.2.2.2.2.2.2.1, hM.2.2.2.2.2.2.2.2.2.2.2.1, hM.2.2.2.2.2.2.2.2.2.2.2.2, m_ring hM, bi_0n]
  cases s_ring (z_I σ (M + 1)) (31 - k) <;> rfl
theorem m_makesToken0 (hM : zMs σ M) (h : s_h2 (z_I σ (M + 1)) = nn) : f_X10_makesToken σ M = some (n32 0, σ) := by
  unfold f_X10_makesToken
  refine m_low1 hM _ (m_low2 hM _ ?_)
  have e : s_low (s_ring (z_I σ (M + 1))) (s_low (s_isOn (z_I σ (M + 1))) (-1) 32) 32 = nn := h
  rw [e]
  rfl
theorem m_makesToken1 (hM : zMs σ M) {x : Nat} (hx : x < 32) (h : s_h2 (z_I σ (M + 1)) = n32 x) : f_X10_makesToken σ M = some (n32 1, z_sA σ (M + 1) (s_tok (z_I σ (M + 1)) x)) := by
  unfold f_X10_makesToken
  refine m_low1 hM _ (m_low2 hM _ ?_)
  have e : s_low (s_ring (z_I σ (M + 1))) (s_low (s_isOn (z_I σ (M + 1))) (-1) 32) 32 = n32 x := h
  rw [e]
  unfold b_X10_makesToken_44
  rw [if_pos (by decide)]
  have e5 : s_ring (gu (z_I σ (M + 1)) 3 (z_I σ (M + 1) 3 + z_I σ (M + 1) 1 * n32 (6 + 2 * x))) x = s_ring (z_I σ (M + 1)) x := by
    unfold s_ring
    simp (disch := omega) only [gu_ne]
  simp (disch := omega) only [f_X10_makesToken_127, f_X10_at, ↓zl_eq, ↓zb_eq, ↓zb2_eq, ↓zc_some, ↓zc_none, ↓zb_pre, ↓zb2_pre, ↓zc_pre, ↓zex_eq, ↓reduceIte, Option.isSome_some, Option.isSome_none, Option.getD_some, n32_lit, n32_nn, n32_nn2, n32_add, n32_mul, n32_toNat, n32_ix, hM.1, hM.2.1, hM.2.2.1, hM.2.2.2.1, hM.2.2.2.2.1, hM.2.2.2.2.2.1, hM.2.2.2.2.2.2.1, hM.2.2.2.2.2.2.2.1, hM.2.2.2.2.2.2.2.2.1, hM.2.2.2.2.2.2.2.2.2.1, hM.2.2.2.2.2.2.2.2.2.2.1, hM.2.2.2.2.2.2.2.2.2.2.2.1, hM.2.2.2.2.2.2.2.2.2.2.2.2, z_pI_eq, z_sA_sA, z_I_sA, z_J_sA, z_R_sA, z_ob_sA, z_ar_sA, z_ln_sA, z_nx_sA, n32_ne, m_ring (zMs_sA hM _ _), e5, bi_0n, gu_ne, gu_same, s_tok]
  cases s_ring (z_I σ (M + 1)) x <;> simp (disch := omega) only [↓reduceIte, gu_ne, gu_same, Bool.true_eq_false, Bool.false_eq_true] <;> rfl
end MODEL
