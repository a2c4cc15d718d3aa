/-! WHAT THE REFERENCE COMPUTES, as functions of its array -/
def s_any (P : Nat → Bool) : Nat → Bool
  | 0 => false
  | k + 1 => s_any P k || P k
def s_cnt (P : Nat → Bool) : Nat → Nat
  | 0 => 0
  | k + 1 => s_cnt P k + (if P k = true then 1 else 0)
theorem s_cnt_le (P : Nat → Bool) (k : Nat) : s_cnt P k ≤ k := by
  induction k with
  | zero => exact Nat.le_refl _
  | succ k ih => unfold s_cnt; split <;> omega
def s_loud (g : zG) (f t : Int32) : Bool := s_any (fun k => decide (g (742 + 2 * k) ≤ t) && decide (f ≤ g (742 + 2 * k + 1))) (g 6).toNatClampNeg
def s_ring (g : zG) (x : Nat) : Bool := decide (g (18 + 7 * x + 0) = n32 1) && decide (g (18 + 7 * x + 1) = n32 1) && decide (g (18 + 7 * x + 2) = n32 1)
def s_wt (g : zG) (x : Int32) (m : Nat) : Bool := decide (g (242 + 5 * m + 2) = x) && decide (g (242 + 5 * m + 4) = nn)
def s_bh (g : zG) (b : Int32) (m : Nat) : Bool := decide (b = nn) || decide (g (242 + 5 * m + 1) < g (242 + 5 * b.toNatClampNeg + 1)) || (decide (g (242 + 5 * m + 1) = g (242 + 5 * b.toNatClampNeg + 1)) && decide (b < n32 m))
def s_nx (g : zG) (x b : Int32) : Nat → Int32
  | 0 => nn
  | k + 1 => if (s_wt g x k && s_bh g b k && (decide (s_nx g x b k = nn) || decide (g (242 + 5 * (s_nx g x b k).toNatClampNeg + 1) < g (242 + 5 * k + 1)))) = true then n32 k else s_nx g x b k
theorem s_nx_rng (g : zG) (x b : Int32) (k : Nat) : s_nx g x b k = nn ∨ ∃ j, j < k ∧ s_nx g x b k = n32 j := by
  induction k with
  | zero => exact Or.inl rfl
  | succ k ih =>
    unfold s_nx
    split
    · exact Or.inr ⟨k, by omega, rfl⟩
    · rcases ih with h | ⟨j, h1, h2⟩
      · exact Or.inl h
      · exact Or.inr ⟨j, by omega, h2⟩
def s_next (g : zG) (x b : Int32) : Int32 := s_nx g x b (g 5).toNatClampNeg
def s_takes (g : zG) (t : Int32) : zG := gu (gu g 3 (g 3 + t)) 11 (g 11 + bi (s_loud g (g 3) (g 3 + t - n32 1)))
section MODEL
variable {σ : zSt} {M : Nat}
theorem m_isLoud (hM : zMs σ M) {n : Nat} (hn : z_I σ (M + 1) 6 = n32 n) (hn2 : n ≤ 20) (f t : Int32) : f_X10_isLoud σ M f t = some (bi (s_loud (z_I σ (M + 1)) f t)) := by
  have e : s_loud (z_I σ (M + 1)) f t = s_any (fun k => decide (z_I σ (M + 1) (742 + 2 * k) ≤ t) && decide (f ≤ z_I σ (M + 1) (742 + 2 * k + 1))) n := by
    unfold s_loud; rw [hn, n32_toNat (by omega)]
  rw [e]
  unfold f_X10_isLoud f_X10_isLoud_5
  refine zloop_go (fun k => (bi (s_any (fun k => decide (z_I σ (M + 1) (742 + 2 * k) ≤ t) && decide (f ≤ z_I σ (M + 1) (742 + 2 * k + 1))) k), n32 k)) _ n (fun k hk => ?_) ?_ (by unfold zN; omega)
  · show b_X10_isLoud_5 σ M f t _ _ = _
    simp (disch := omega) only [b_X10_isLoud_5, f_X10_isLoud_61, f_X10_isLoud_57, f_X10_isLoud_62, ↓zl_eq, ↓zb_eq, ↓zb2_eq, ↓zc_some, ↓zc_none, ↓zb_pre, ↓zb2_pre, ↓zc_pre, ↓zex_eq, ↓reduceIte, Option.isSome_some, Option.isSome_none, Option.getD_some, n32_lit, n32_nn, n32_nn2, n32_add, n32_mul, n32_toNat, n32_ix, hM.1, hM.2.1, hM.2.2.1, hM.2.2.2.1, hM.2.2.2.2.1, hM.2.2.2.2.2.1, hM.2.2.2.2.2.2.1, hM.2.2.2.2.2.2.2.1, hM.2.2.2.2.2.2.2.2.1, hM.2.2.2.2.2.2.2.2.2.1, hM.2.2.2.2.2.2.2.2.2.2.1, hM.2.2.2.2.2.2.2.2.2.2.2.1, hM.2.2.2.2.2.2.2.2.2.2.2.2, hn, n32_le, bi_0n]
    rw [if_neg (by omega)]
    generalize hA : s_any (fun k => decide (z_I σ (M + 1) (742 + 2 * k) ≤ t) && decide (f ≤ z_I σ (M + 1) (742 + 2 * k + 1))) k = A
    have e2 : s_any (fun k => decide (z_I σ (M + 1) (742 + 2 * k) ≤ t) && decide (f ≤ z_I σ (M + 1) (742 + 2 * k + 1))) (k + 1) = (A || (decide (z_I σ (M + 1) (742 + 2 * k) ≤ t) && decide (f ≤ z_I σ (M + 1) (742 + 2 * k + 1)))) := by
      rw [← hA]; rfl
    rw [e2]
    cases A with
    | true => simp only [Bool.true_or]; rfl
    | false =>
      simp only [Bool.false_or, if_true]
      by_cases h1 : t < z_I σ (M + 1) (742 + 2 * k)
      · rw [if_pos h1]
        have h2 : ¬ z_I σ (M + 1) (742 + 2 * k) ≤ t := by rw [Int32.not_le]; exact h1
        simp only [h2, decide_false, Bool.false_and]; rfl
      · rw [if_neg h1]
        have h2 : z_I σ (M + 1) (742 + 2 * k) ≤ t := by rw [Int32.not_lt] at h1; exact h1
        by_cases h3 : z_I σ (M + 1) (742 + 2 * k + 1) < f
        · rw [if_pos h3]
          have h4 : ¬ f ≤ z_I σ (M + 1) (742 + 2 * k + 1) := by rw [Int32.not_le]; exact h3
          simp only [h4, decide_false, Bool.and_false]; rfl
        · rw [if_neg h3]
          have h4 : f ≤ z_I σ (M + 1) (742 + 2 * k + 1) := by rw [Int32.not_lt] at h3; exact h3
          simp only [h2, h4, decide_true, Bool.and_self]; rfl
  · show b_X10_isLoud_5 σ M f t _ _ = _
    simp (disch := omega) only [b_X10_isLoud_5, ↓zl_eq, ↓zb_eq, ↓zb2_eq, ↓zc_some, ↓zc_none, ↓zb_pre, ↓zb2_pre, ↓zc_pre, ↓zex_eq, ↓reduceIte, Option.isSome_some, Option.isSome_none, Option.getD_some, n32_lit, n32_nn, n32_nn2, n32_add, n32_mul, n32_toNat, n32_ix, hM.1, hM.2.1, hM.2.2.1, hM.2.2.2.1, hM.2.2.2.2.1, hM.2.2.2.2.2.1, hM.2.2.2.2.2.2.1, hM.2.2.2.2.2.2.2.1, hM.2.2.2.2.2.2.2.2.1, hM.2.2.2.2.2.2.2.2.2.1, hM.2.2.2.2.2.2.2.2.2.2.1, hM.2.2.2.2.2.2.2.2.2.2.2.1, hM.2.2.2.2.2.2.2.2.2.2.2.2, hn, n32_le, Nat.le_refl, bi_bl]
theorem m_takes (hM : zMs σ M) {n : Nat} (hn : z_I σ (M + 1) 6 = n32 n) (hn2 : n ≤ 20) (t : Int32) : f_X10_takes σ M t = some (bi (s_loud (z_I σ (M + 1)) (z_I σ (M + 1) 3) (z_I σ (M + 1) 3 + t - n32 1)), z_sA σ (M + 1) (s_takes (z_I σ (M + 1)) t)) := by
  simp (disch := omega) only [f_X10_takes, f_X10_takes_48, ↓zl_eq, ↓zb_eq, ↓zb2_eq, ↓zc_some, ↓zc_none, ↓zb_pre, ↓zb2_pre, ↓zc_pre, ↓zex_eq, ↓reduceIte, Option.isSome_some, Option.isSome_none, Option.getD_some, n32_lit, n32_nn, n32_nn2, n32_add, n32_mul, n32_toNat, n32_ix, hM.1, hM.2.1, hM.2.2.1, hM.2.2.2.1, hM.2.2.2.2.1, hM.2.2.2.2.2.1, hM.2.2.2.2.2.2.1, hM.2.2.2.2.2.2.2.1, hM.2.2.2.2.2.2.2.2.1, hM.2.2.2.2.2.2.2.2.2.1, hM.2.2.2.2.2.2.2.2.2.2.1, hM.2.2.2.2.2.2.2.2.2.2.2.1, hM.2.2.2.2.2.2.2.2.2.2.2.2, z_pI_eq, z_sA_sA, z_I_sA, z_J_sA, z_R_sA, z_ob_sA, z_ar_sA, z_ln_sA, z_nx_sA, m_isLoud hM hn hn2, gu_ne, gu_same, bi_0n, bi_bl, s_takes]
  generalize s_loud (z_I σ (M + 1)) (z_I σ (M + 1) 3) (z_I σ (M + 1) 3 + t - n32 1) = A
  cases A <;> rfl
theorem m_queueOf (hM : zMs σ M) {n : Nat} (hn : z_I σ (M + 1) 5 = n32 n) (hn2 : n ≤ 100) (x : Int32) : f_X10_queueOf σ M x = some (n32 (s_cnt (s_wt (z_I σ (M + 1)) x) n)) := by
  unfold f_X10_queueOf f_X10_queueOf_4
  refine zloop_go (fun k => (n32 (s_cnt (s_wt (z_I σ (M + 1)) x) k), n32 k)) _ n (fun k hk => ?_) ?_ (by unfold zN; omega)
  · show b_X10_queueOf_4 σ M x _ _ = some (.inl (n32 (s_cnt (s_wt (z_I σ (M + 1)) x) k + if s_wt (z_I σ (M + 1)) x k = true then 1 else 0), n32 (k + 1)))
    simp (disch := omega) only [b_X10_queueOf_4, f_X10_queueOf_40, f_X10_queueOf_39, ↓zl_eq, ↓zb_eq, ↓zb2_eq, ↓zc_some, ↓zc_none, ↓zb_pre, ↓zb2_pre, ↓zc_pre, ↓zex_eq, ↓reduceIte, Option.isSome_some, Option.isSome_none, Option.getD_some, n32_lit, n32_nn, n32_nn2, n32_add, n32_mul, n32_toNat, n32_ix, hM.1, hM.2.1, hM.2.2.1, hM.2.2.2.1, hM.2.2.2.2.1, hM.2.2.2.2.2.1, hM.2.2.2.2.2.2.1, hM.2.2.2.2.2.2.2.1, hM.2.2.2.2.2.2.2.2.1, hM.2.2.2.2.2.2.2.2.2.1, hM.2.2.2.2.2.2.2.2.2.2.1, hM.2.2.2.2.2.2.2.2.2.2.2.1, hM.2.2.2.2.2.2.2.2.2.2.2.2, hn, n32_le, m_ofM hM]
    rw [if_neg (by omega)]
    unfold s_wt
    by_cases h1 : z_I σ (M + 1) (242 + 5 * k + 2) = x <;> by_cases h2 : z_I σ (M + 1) (242 + 5 * k + 4) = nn <;> simp [h1, h2]
  · show b_X10_queueOf_4 σ M x _ _ = _
    simp (disch := omega) only [b_X10_queueOf_4, ↓zl_eq, ↓zb_eq, ↓zb2_eq, ↓zc_some, ↓zc_none, ↓zb_pre, ↓zb2_pre, ↓zc_pre, ↓zex_eq, ↓reduceIte, Option.isSome_some, Option.isSome_none, Option.getD_some, n32_lit, n32_nn, n32_nn2, n32_add, n32_mul, n32_toNat, n32_ix, hM.1, hM.2.1, hM.2.2.1, hM.2.2.2.1, hM.2.2.2.2.1, hM.2.2.2.2.2.1, hM.2.2.2.2.2.2.1, hM.2.2.2.2.2.2.2.1, hM.2.2.2.2.2.2.2.2.1, hM.2.2.2.2.2.2.2.2.2.1, hM.2.2.2.2.2.2.2.2.2.2.1, hM.2.2.2.2.2.2.2.2.2.2.2.1, hM.2.2.2.2.2.2.2.2.2.2.2.2, hn, n32_le, Nat.le_refl]
end MODEL
