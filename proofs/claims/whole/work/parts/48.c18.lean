/-! A LINE IS COPIED FROM ANOTHER -/
theorem z_cp_sA (σ : zSt) (q0 q1 : Nat) (sp dp n : Int32) : z_cp σ q0 q1 sp dp n = z_sA σ q1 (va_cpy (z_I σ q0) (z_I σ q1) sp.toNatClampNeg dp.toNatClampNeg n.toNatClampNeg) := rfl
theorem va_cpy0 (f g : Nat → Int32) (n j : Nat) : va_cpy f g 0 0 n j = if j < n then f j else g j := by
  unfold va_cpy
  by_cases h : j < n
  · rw [if_pos ⟨Nat.zero_le _, by omega⟩, if_pos h]; congr 1; omega
  · rw [if_neg (by omega), if_neg h]
section CLASS
variable {σ : zSt} {a c : Nat}
theorem c_cpM (hL : zLs σ a) (hL2 : zLs σ c) (hd : a + 19 ≤ c ∨ c + 19 ≤ a) (hw : z_I σ (a + 3) 0 = n32 6) {q : Nat} (hq : q ≤ 100) :
    f_X7_copyFrom σ (a + 3) (c + 3) (n32 q) = some (z_sA σ (a + 4) (va_cpy (z_I σ (c + 4)) (z_I σ (a + 4)) 0 0 (6 * q))) := by
  have e : q * 6 = 6 * q := by omega
  have e1 : (if n32 (6 * q) < n32 600 then n32 (6 * q) else n32 600) = n32 (6 * q) := by
    by_cases h : 6 * q < 600
    · rw [if_pos (by rw [n32_lt (by omega) (by omega)]; exact h)]
    · rw [if_neg (by rw [n32_lt (by omega) (by omega)]; exact h)]; congr 1; omega
  have e2 : (if n32 0 < n32 (6 * q) then n32 (6 * q) else n32 0) = n32 (6 * q) := by
    by_cases h : 0 < 6 * q
    · rw [if_pos (by rw [n32_lt (by omega) (by omega)]; exact h)]
    · rw [if_neg (by rw [n32_lt (by omega) (by omega)]; exact h)]; congr 1; omega
  have g : z_cpg (c + 4) (a + 4) (n32 0) (n32 0) (n32 (6 * q)) 600 600 = true := by
    have e0 : ¬ n32 (6 * q) < 0 := by rw [n32_0, n32_lt (by omega) (by omega)]; omega
    have e00 : ¬ n32 0 < 0 := by decide
    have ez : (n32 0).toNatClampNeg = 0 := n32_toNat (by omega)
    unfold z_cpg
    rw [n32_toNat (show 6 * q < 2147483648 by omega), ez]
    simp only [e0, e00, not_false_eq_true, decide_true, Bool.true_and, Bool.and_true]
    simp; omega
  have c1 := hL2.2.2.2.2.2.2.2.2.2.2.1
  have c2 := hL2.2.2.2.2.2.2.2.2.2.2.2.1
  have c3 := hL2.2.2.2.2.2.2.2.2.2.2.2.2.1
  have c4 := hL2.2.2.2.2.2.2.2.2.2.2.2.2.2.1
  simp only [f_X7_copyFrom, ↓zl_eq, ↓zb_eq, ↓zb2_eq, ↓zc_some, ↓zc_none, ↓zb_pre, ↓zb2_pre, ↓zc_pre, ↓zex_eq, ↓reduceIte, Option.isSome_some, Option.isSome_none, Option.getD_some, n32_lit, hL.1, hL.2.1, hL.2.2.1, hL.2.2.2.1, hL.2.2.2.2.1, hL.2.2.2.2.2.1, hL.2.2.2.2.2.2.1, hL.2.2.2.2.2.2.2.1, hL.2.2.2.2.2.2.2.2.1, hL.2.2.2.2.2.2.2.2.2.1, hL.2.2.2.2.2.2.2.2.2.2.1, hL.2.2.2.2.2.2.2.2.2.2.2.1, hL.2.2.2.2.2.2.2.2.2.2.2.2.1, hL.2.2.2.2.2.2.2.2.2.2.2.2.2.1, hL.2.2.2.2.2.2.2.2.2.2.2.2.2.2.1, hL.2.2.2.2.2.2.2.2.2.2.2.2.2.2.2.1, hL.2.2.2.2.2.2.2.2.2.2.2.2.2.2.2.2.1, hL.2.2.2.2.2.2.2.2.2.2.2.2.2.2.2.2.2.1, hL.2.2.2.2.2.2.2.2.2.2.2.2.2.2.2.2.2.2.1, hL.2.2.2.2.2.2.2.2.2.2.2.2.2.2.2.2.2.2.2.1, hL.2.2.2.2.2.2.2.2.2.2.2.2.2.2.2.2.2.2.2.2.1, hL.2.2.2.2.2.2.2.2.2.2.2.2.2.2.2.2.2.2.2.2.2.1, hL.2.2.2.2.2.2.2.2.2.2.2.2.2.2.2.2.2.2.2.2.2.2.1, hL.2.2.2.2.2.2.2.2.2.2.2.2.2.2.2.2.2.2.2.2.2.2.2.1, hL.2.2.2.2.2.2.2.2.2.2.2.2.2.2.2.2.2.2.2.2.2.2.2.2.1, hL.2.2.2.2.2.2.2.2.2.2.2.2.2.2.2.2.2.2.2.2.2.2.2.2.2, c1, c2, c3, c4, ofN_n32, hw, n32_mul, e, ite_self, e1, e2, g, z_cp_sA]
  rw [n32_toNat (by omega), n32_toNat (by omega)]
theorem c_cpG (hL : zLs σ a) (hL2 : zLs σ c) (hd : a + 19 ≤ c ∨ c + 19 ≤ a) (hw : z_I σ (a + 9) 0 = n32 4) {q : Nat} (hq : q ≤ 40) :
    f_X7_copyFrom σ (a + 9) (c + 9) (n32 q) = some (z_sA σ (a + 10) (va_cpy (z_I σ (c + 10)) (z_I σ (a + 10)) 0 0 (4 * q))) := by
  have e : q * 4 = 4 * q := by omega
  have e1 : (if n32 (4 * q) < n32 160 then n32 (4 * q) else n32 160) = n32 (4 * q) := by
    by_cases h : 4 * q < 160
    · rw [if_pos (by rw [n32_lt (by omega) (by omega)]; exact h)]
    · rw [if_neg (by rw [n32_lt (by omega) (by omega)]; exact h)]; congr 1; omega
  have e2 : (if n32 0 < n32 (4 * q) then n32 (4 * q) else n32 0) = n32 (4 * q) := by
    by_cases h : 0 < 4 * q
    · rw [if_pos (by rw [n32_lt (by omega) (by omega)]; exact h)]
    · rw [if_neg (by rw [n32_lt (by omega) (by omega)]; exact h)]; congr 1; omega
  have g : z_cpg (c + 10) (a + 10) (n32 0) (n32 0) (n32 (4 * q)) 160 160 = true := by
    have e0 : ¬ n32 (4 * q) < 0 := by rw [n32_0, n32_lt (by omega) (by omega)]; omega
    have e00 : ¬ n32 0 < 0 := by decide
    have ez : (n32 0).toNatClampNeg = 0 := n32_toNat (by omega)
    unfold z_cpg
    rw [n32_toNat (show 4 * q < 2147483648 by omega), ez]
    simp only [e0, e00, not_false_eq_true, decide_true, Bool.true_and, Bool.and_true]
    simp; omega
  have c1 := hL2.2.2.2.2.2.2.2.2.2.2.2.2.2.2.2.2.2.2.2.2.2.2.1
  have c2 := hL2.2.2.2.2.2.2.2.2.2.2.2.2.2.2.2.2.2.2.2.2.2.2.2.1
  have c3 := hL2.2.2.2.2.2.2.2.2.2.2.2.2.2.2.2.2.2.2.2.2.2.2.2.2.1
  have c4 := hL2.2.2.2.2.2.2.2.2.2.2.2.2.2.2.2.2.2.2.2.2.2.2.2.2.2
  simp only [f_X7_copyFrom, ↓zl_eq, ↓zb_eq, ↓zb2_eq, ↓zc_some, ↓zc_none, ↓zb_pre, ↓zb2_pre, ↓zc_pre, ↓zex_eq, ↓reduceIte, Option.isSome_some, Option.isSome_none, Option.getD_some, n32_lit, hL.1, hL.2.1, hL.2.2.1, hL.2.2.2.1, hL.2.2.2.2.1, hL.2.2.2.2.2.1, hL.2.2.2.2.2.2.1, hL.2.2.2.2.2.2.2.1, hL.2.2.2.2.2.2.2.2.1, hL.2.2.2.2.2.2.2.2.2.1, hL.2.2.2.2.2.2.2.2.2.2.1, hL.2.2.2.2.2.2.2.2.2.2.2.1, hL.2.2.2.2.2.2.2.2.2.2.2.2.1, hL.2.2.2.2.2.2.2.2.2.2.2.2.2.1, hL.2.2.2.2.2.2.2.2.2.2.2.2.2.2.1, hL.2.2.2.2.2.2.2.2.2.2.2.2.2.2.2.1, hL.2.2.2.2.2.2.2.2.2.2.2.2.2.2.2.2.1, hL.2.2.2.2.2.2.2.2.2.2.2.2.2.2.2.2.2.1, hL.2.2.2.2.2.2.2.2.2.2.2.2.2.2.2.2.2.2.1, hL.2.2.2.2.2.2.2.2.2.2.2.2.2.2.2.2.2.2.2.1, hL.2.2.2.2.2.2.2.2.2.2.2.2.2.2.2.2.2.2.2.2.1, hL.2.2.2.2.2.2.2.2.2.2.2.2.2.2.2.2.2.2.2.2.2.1, hL.2.2.2.2.2.2.2.2.2.2.2.2.2.2.2.2.2.2.2.2.2.2.1, hL.2.2.2.2.2.2.2.2.2.2.2.2.2.2.2.2.2.2.2.2.2.2.2.1, hL.2.2.2.2.2.2.2.2.2.2.2.2.2.2.2.2.2.2.2.2.2.2.2.2.1, hL.2.2.2.2.2.2.2.2.2.2.2.2.2.2.2.2.2.2.2.2.2.2.2.2.2, c1, c2, c3, c4, ofN_n32, hw, n32_mul, e, ite_self, e1, e2, g, z_cp_sA]
  rw [n32_toNat (by omega), n32_toNat (by omega)]
/-- the noises -/
theorem c_cpN (hL : zLs σ a) (hL2 : zLs σ c) (hd : a + 19 ≤ c ∨ c + 19 ≤ a) {k : Nat} (hk : k ≤ 20) (hn : z_I σ (c + 5) 2 = n32 k) :
    ∃ σ', f_X4_copyFrom σ (a + 5) (c + 5) = some σ' ∧ zFr a σ σ' ∧ (∀ q, q ≠ a + 5 → q ≠ a + 6 → q ≠ a + 7 → z_I σ' q = z_I σ q) ∧ z_J σ' = z_J σ ∧ z_I σ' (a + 5) 2 = n32 k ∧ ∀ j, j < k → z_I σ' (a + 6) j = z_I σ (c + 6) j ∧ z_I σ' (a + 7) j = z_I σ (c + 7) j := by
  have d1 := hL2.2.2.2.2.2.2.2.2.2.2.2.2.2.2.1
  have d2 := hL2.2.2.2.2.2.2.2.2.2.2.2.2.2.2.2.1
  have d3 := hL2.2.2.2.2.2.2.2.2.2.2.2.2.2.2.2.2.1
  have d4 := hL2.2.2.2.2.2.2.2.2.2.2.2.2.2.2.2.2.2.1
  have d5 := hL2.2.2.2.2.2.2.2.2.2.2.2.2.2.2.2.2.2.2.1
  have d6 := hL2.2.2.2.2.2.2.2.2.2.2.2.2.2.2.2.2.2.2.2.1
  have d7 := hL2.2.2.2.2.2.2.2.2.2.2.2.2.2.2.2.2.2.2.2.2.1
  obtain ⟨r, hr, hr2⟩ := zloop_inv (N := zN) (s := (z_pI σ (a + 5) 2 (n32 k), (0 : Int32))) (body := fun (t : zSt × Int32) => b_X4_copyFrom_10 (a + 5) (c + 5) t.1 t.2)
    (Inv := fun j s => s.2 = n32 j ∧ zFr a σ s.1 ∧ (∀ q, q ≠ a + 5 → q ≠ a + 6 → q ≠ a + 7 → z_I s.1 q = z_I σ q) ∧ z_J s.1 = z_J σ ∧ z_I s.1 (a + 5) 2 = n32 k ∧ ∀ i, i < j → z_I s.1 (a + 6) i = z_I σ (c + 6) i ∧ z_I s.1 (a + 7) i = z_I σ (c + 7) i)
    (Post := fun s => zFr a σ s ∧ (∀ q, q ≠ a + 5 → q ≠ a + 6 → q ≠ a + 7 → z_I s q = z_I σ q) ∧ z_J s = z_J σ ∧ z_I s (a + 5) 2 = n32 k ∧ ∀ i, i < k → z_I s (a + 6) i = z_I σ (c + 6) i ∧ z_I s (a + 7) i = z_I σ (c + 7) i) k (fun j s hj hi => by
      obtain ⟨s, l⟩ := s
      obtain ⟨rfl, F, Q, J, C, I⟩ := hi
      have hLs := zLs_fr F hL
      have eob : z_ob s = z_ob σ := z_ob_eq F.2.1
      have ear : z_ar s = z_ar σ := z_ar_eq F.2.1
      have eln : z_ln s = z_ln σ := z_ln_eq F.2.1
      have eR : z_R s = z_R σ := F.2.2.1
      by_cases hjk : j = k
      · subst hjk
        refine Or.inl ⟨s, ?_, F, Q, J, C, I⟩
        show b_X4_copyFrom_10 (a + 5) (c + 5) s (n32 j) = _
        simp (disch := omega) only [b_X4_copyFrom_10, f_X4_copyFrom_54, ↓zl_eq, ↓zb_eq, ↓zb2_eq, ↓zc_some, ↓zc_none, ↓zb_pre, ↓zb2_pre, ↓zc_pre, ↓zex_eq, ↓reduceIte, Option.isSome_some, Option.isSome_none, Option.getD_some, eob, hL.1, hL.2.1, hL.2.2.1, hL.2.2.2.1, hL.2.2.2.2.1, hL.2.2.2.2.2.1, hL.2.2.2.2.2.2.1, hL.2.2.2.2.2.2.2.1, hL.2.2.2.2.2.2.2.2.1, hL.2.2.2.2.2.2.2.2.2.1, hL.2.2.2.2.2.2.2.2.2.2.1, hL.2.2.2.2.2.2.2.2.2.2.2.1, hL.2.2.2.2.2.2.2.2.2.2.2.2.1, hL.2.2.2.2.2.2.2.2.2.2.2.2.2.1, hL.2.2.2.2.2.2.2.2.2.2.2.2.2.2.1, hL.2.2.2.2.2.2.2.2.2.2.2.2.2.2.2.1, hL.2.2.2.2.2.2.2.2.2.2.2.2.2.2.2.2.1, hL.2.2.2.2.2.2.2.2.2.2.2.2.2.2.2.2.2.1, hL.2.2.2.2.2.2.2.2.2.2.2.2.2.2.2.2.2.2.1, hL.2.2.2.2.2.2.2.2.2.2.2.2.2.2.2.2.2.2.2.1, hL.2.2.2.2.2.2.2.2.2.2.2.2.2.2.2.2.2.2.2.2.1, hL.2.2.2.2.2.2.2.2.2.2.2.2.2.2.2.2.2.2.2.2.2.1, hL.2.2.2.2.2.2.2.2.2.2.2.2.2.2.2.2.2.2.2.2.2.2.1, hL.2.2.2.2.2.2.2.2.2.2.2.2.2.2.2.2.2.2.2.2.2.2.2.1, hL.2.2.2.2.2.2.2.2.2.2.2.2.2.2.2.2.2.2.2.2.2.2.2.2.1, hL.2.2.2.2.2.2.2.2.2.2.2.2.2.2.2.2.2.2.2.2.2.2.2.2.2, C, n32_le, Nat.le_refl]
      · have hjk2 : j < k := by omega
        have c6 : z_I s (c + 6) = z_I σ (c + 6) := Q _ (by omega) (by omega) (by omega)
        have c7 : z_I s (c + 7) = z_I σ (c + 7) := Q _ (by omega) (by omega) (by omega)
        have c71 : z_I (z_pI s (a + 6) j (z_I σ (c + 6) j)) (c + 7) = z_I σ (c + 7) := by rw [z_pI_eq, z_I_sAn _ _ _ (by omega)]; exact c7
        refine Or.inr ⟨hjk2, (z_pI (z_pI s (a + 6) j (z_I σ (c + 6) j)) (a + 7) j (z_I σ (c + 7) j), n32 (j + 1)), ?_, rfl, ?_, ?_, J, ?_, ?_⟩
        · show b_X4_copyFrom_10 (a + 5) (c + 5) s (n32 j) = _
          simp (disch := omega) only [b_X4_copyFrom_10, f_X4_copyFrom_54, ↓zl_eq, ↓zb_eq, ↓zb2_eq, ↓zc_some, ↓zc_none, ↓zb_pre, ↓zb2_pre, ↓zc_pre, ↓zex_eq, ↓reduceIte, Option.isSome_some, Option.isSome_none, Option.getD_some, n32_lit, z_ob_pI, z_R_pI, z_ar_pI, z_ln_pI, eob, eR, ear, eln, hL.1, hL.2.1, hL.2.2.1, hL.2.2.2.1, hL.2.2.2.2.1, hL.2.2.2.2.2.1, hL.2.2.2.2.2.2.1, hL.2.2.2.2.2.2.2.1, hL.2.2.2.2.2.2.2.2.1, hL.2.2.2.2.2.2.2.2.2.1, hL.2.2.2.2.2.2.2.2.2.2.1, hL.2.2.2.2.2.2.2.2.2.2.2.1, hL.2.2.2.2.2.2.2.2.2.2.2.2.1, hL.2.2.2.2.2.2.2.2.2.2.2.2.2.1, hL.2.2.2.2.2.2.2.2.2.2.2.2.2.2.1, hL.2.2.2.2.2.2.2.2.2.2.2.2.2.2.2.1, hL.2.2.2.2.2.2.2.2.2.2.2.2.2.2.2.2.1, hL.2.2.2.2.2.2.2.2.2.2.2.2.2.2.2.2.2.1, hL.2.2.2.2.2.2.2.2.2.2.2.2.2.2.2.2.2.2.1, hL.2.2.2.2.2.2.2.2.2.2.2.2.2.2.2.2.2.2.2.1, hL.2.2.2.2.2.2.2.2.2.2.2.2.2.2.2.2.2.2.2.2.1, hL.2.2.2.2.2.2.2.2.2.2.2.2.2.2.2.2.2.2.2.2.2.1, hL.2.2.2.2.2.2.2.2.2.2.2.2.2.2.2.2.2.2.2.2.2.2.1, hL.2.2.2.2.2.2.2.2.2.2.2.2.2.2.2.2.2.2.2.2.2.2.2.1, hL.2.2.2.2.2.2.2.2.2.2.2.2.2.2.2.2.2.2.2.2.2.2.2.2.1, hL.2.2.2.2.2.2.2.2.2.2.2.2.2.2.2.2.2.2.2.2.2.2.2.2.2, C, n32_le, d1, d2, d3, d4, d5, d6, d7, n32_ix, n32_toNat, c6, c71, n32_add]
          rw [if_neg (by omega), if_neg (by omega)]
        · simp only [z_pI_eq]
          exact zFr_t F (zFr_t (zFr_sA _ (by omega) (by omega) _) (zFr_sA _ (by omega) (by omega) _))
        · intro q q1 q2 q3
          simp (disch := omega) only [z_pI_eq, z_I_sAn]
          exact Q q q1 q2 q3
        · simp (disch := omega) only [z_pI_eq, z_I_sAn]
          exact C
        · intro i hi
          simp (disch := omega) only [z_pI_eq, z_I_sA, z_I_sAn]
          by_cases hij : i = j
          · subst hij; rw [gu_same, gu_same]; exact ⟨rfl, rfl⟩
          · rw [gu_ne _ _ hij, gu_ne _ _ hij]; exact I i (by omega)) (by unfold zN; omega)
    ⟨rfl, by rw [z_pI_eq]; exact zFr_sA _ (by omega) (by omega) _, fun q q1 q2 q3 => by rw [z_pI_eq, z_I_sAn _ _ _ q1], rfl, by rw [z_pI_eq, z_I_sA, gu_same], fun i hi => by omega⟩
  refine ⟨r, ?_, hr2⟩
  rw [← hr]
  simp only [f_X4_copyFrom, f_X4_copyFrom_10, ↓zl_eq, ↓zb_eq, ↓zb2_eq, ↓zc_some, ↓zc_none, ↓zb_pre, ↓zb2_pre, ↓zc_pre, ↓zex_eq, ↓reduceIte, Option.isSome_some, Option.isSome_none, Option.getD_some, d1, hL.1, hL.2.1, hL.2.2.1, hL.2.2.2.1, hL.2.2.2.2.1, hL.2.2.2.2.2.1, hL.2.2.2.2.2.2.1, hL.2.2.2.2.2.2.2.1, hL.2.2.2.2.2.2.2.2.1, hL.2.2.2.2.2.2.2.2.2.1, hL.2.2.2.2.2.2.2.2.2.2.1, hL.2.2.2.2.2.2.2.2.2.2.2.1, hL.2.2.2.2.2.2.2.2.2.2.2.2.1, hL.2.2.2.2.2.2.2.2.2.2.2.2.2.1, hL.2.2.2.2.2.2.2.2.2.2.2.2.2.2.1, hL.2.2.2.2.2.2.2.2.2.2.2.2.2.2.2.1, hL.2.2.2.2.2.2.2.2.2.2.2.2.2.2.2.2.1, hL.2.2.2.2.2.2.2.2.2.2.2.2.2.2.2.2.2.1, hL.2.2.2.2.2.2.2.2.2.2.2.2.2.2.2.2.2.2.1, hL.2.2.2.2.2.2.2.2.2.2.2.2.2.2.2.2.2.2.2.1, hL.2.2.2.2.2.2.2.2.2.2.2.2.2.2.2.2.2.2.2.2.1, hL.2.2.2.2.2.2.2.2.2.2.2.2.2.2.2.2.2.2.2.2.2.1, hL.2.2.2.2.2.2.2.2.2.2.2.2.2.2.2.2.2.2.2.2.2.2.1, hL.2.2.2.2.2.2.2.2.2.2.2.2.2.2.2.2.2.2.2.2.2.2.2.1, hL.2.2.2.2.2.2.2.2.2.2.2.2.2.2.2.2.2.2.2.2.2.2.2.2.1, hL.2.2.2.2.2.2.2.2.2.2.2.2.2.2.2.2.2.2.2.2.2.2.2.2.2, hn]
end CLASS
