/-! THE REFERENCE READS AN ITEM -/
def zMt (σ : zSt) (b tl : Nat) (tb : Nat → Nat) : Prop := zMs σ (b + 118) ∧ (∀ j, j < tl → z_I σ (b + 122) j = n32 (tb j)) ∧ tl ≤ 120 ∧ ∀ j, j < tl → tb j < 128
section MODEL
variable {σ : zSt} {b tl : Nat} {tb : Nat → Nat} {F : zG} {p : Nat}
theorem m_isFigure (h : zMt σ b tl tb) (f6 : F 6 = n32 tl) (f7 : F 7 = n32 p) (hp : p < 1000) : f_X10_isFigure (z_sA σ (b + 118) F) (b + 118) = some (bi (s_dg tb tl p).isSome) := by
  obtain ⟨hM, ht, h120, hb⟩ := h
  have f4 : b + 118 + 4 = b + 122 := rfl
  have m1 := hM
  unfold zMs at m1
  rw [f4] at m1
  have i1 : z_I (z_sA σ (b + 118) F) (b + 122) = z_I σ (b + 122) := z_I_sAn _ _ _ (by omega)
  unfold s_dg
  by_cases hc : p < tl
  · have hp1 := hb p hc
    have hv := ht p hc
    have IN := m_inN (z_sA σ (b + 118) F) (n32 (tb p)) (lo := 48) (hi := 57) (by omega) (by omega)
    rw [n32_toInt (by omega)] at IN
    simp (disch := omega) only [f_X10_isFigure, f_X10_isFigure_37, f_X10_isFigure_38, ↓zl_eq, ↓zb_eq, ↓zb2_eq, ↓zc_some, ↓zc_none, ↓zb_pre, ↓zb2_pre, ↓zc_pre, ↓zex_eq, ↓reduceIte, Option.isSome_some, Option.isSome_none, Option.getD_some, n32_lit, i64_lit, z_ob_sA, z_R_sA, z_ar_sA, z_ln_sA, z_I_sA, m1.1, m1.2.2.2.2.1, m1.2.2.2.2.2.2.2.2.1, m1.2.2.2.2.2.2.2.2.2.2.2.2, f6, f7, n32_le, n32_ix, n32_toNat, i1, hv, IN, bi_0n, bl0, bl1]
    rw [if_neg (by omega)]
    by_cases c1 : 48 ≤ tb p ∧ tb p ≤ 57
    · rw [decide_eq_true (by omega), if_neg (by decide), if_pos ⟨hc, c1⟩]; rfl
    · rw [decide_eq_false (by omega), if_pos rfl, if_neg (fun h => c1 h.2)]; rfl
  · rw [if_neg (fun h => hc h.1)]
    simp (disch := omega) only [f_X10_isFigure, f_X10_isFigure_37, f_X10_isFigure_38, ↓zl_eq, ↓zb_eq, ↓zb2_eq, ↓zc_some, ↓zc_none, ↓zb_pre, ↓zb2_pre, ↓zc_pre, ↓zex_eq, ↓reduceIte, Option.isSome_some, Option.isSome_none, Option.getD_some, n32_lit, z_ob_sA, z_I_sA, m1.1, f6, f7, n32_le, bl0]
    rw [if_pos (by omega)]; rfl
theorem m_passesByte (h : zMt σ b tl tb) (f6 : F 6 = n32 tl) (f7 : F 7 = n32 p) (hp : p < 1000) {c : Nat} (hc : c < 1000) : f_X10_passesByte (z_sA σ (b + 118) F) (b + 118) (n32 c) = some (bi (s_byte tb tl p c), z_sA σ (b + 118) (if s_byte tb tl p c = true then gu F 7 (n32 (p + 1)) else F)) := by
  obtain ⟨hM, ht, h120, hb⟩ := h
  have f4 : b + 118 + 4 = b + 122 := rfl
  have m1 := hM
  unfold zMs at m1
  rw [f4] at m1
  have i1 : z_I (z_sA σ (b + 118) F) (b + 122) = z_I σ (b + 122) := z_I_sAn _ _ _ (by omega)
  have id7 : gu F 7 (n32 p) = F := gu_id2 F 7 f7
  have T0 : f_X10_passesByte_28 (z_sA σ (b + 118) F) (b + 118) = some (n32 0, z_sA σ (b + 118) F) := by
    simp only [f_X10_passesByte_28, f_X10_passesByte_29, f_X10_passesByte_44, ↓zl_eq, ↓zb_eq, ↓zb2_eq, ↓zc_some, ↓zc_none, ↓zb_pre, ↓zb2_pre, ↓zc_pre, ↓zex_eq, ↓reduceIte, Option.isSome_some, Option.isSome_none, Option.getD_some, n32_lit, z_ob_sA, m1.1, z_I_sA, f7, n32_add, z_pI_eq, z_sA_sA, bl0, Nat.add_zero, id7]
  have n10' : (n32 1 = n32 0) = False := eq_false nn10
  have T1 : f_X10_passesByte_29 (z_sA σ (b + 118) F) (b + 118) (n32 1) = some (n32 1, z_sA σ (b + 118) (gu F 7 (n32 (p + 1)))) := by
    simp only [f_X10_passesByte_29, f_X10_passesByte_44, ↓zl_eq, ↓zb_eq, ↓zb2_eq, ↓zc_some, ↓zc_none, ↓zb_pre, ↓zb2_pre, ↓zc_pre, ↓zex_eq, ↓reduceIte, Option.isSome_some, Option.isSome_none, Option.getD_some, n32_lit, z_ob_sA, m1.1, z_I_sA, f7, n32_add, z_pI_eq, z_sA_sA, bl1, n10']
  unfold s_byte
  by_cases hp1 : p < tl
  · have hb1 := hb p hp1
    have hv := ht p hp1
    simp (disch := omega) only [f_X10_passesByte, ↓zl_eq, ↓zb_eq, ↓zb2_eq, ↓zc_some, ↓zc_none, ↓zb_pre, ↓zb2_pre, ↓zc_pre, ↓zex_eq, ↓reduceIte, Option.isSome_some, Option.isSome_none, Option.getD_some, n32_lit, z_ob_sA, z_R_sA, z_ar_sA, z_ln_sA, z_I_sA, m1.1, m1.2.2.2.2.1, m1.2.2.2.2.2.2.2.2.1, m1.2.2.2.2.2.2.2.2.2.2.2.2, f6, f7, n32_le, n32_ix, n32_toNat, i1, hv, n32_eq, T0, T1, decide_eq_true hp1, Bool.true_and, decide_eq_true_eq]
    rw [if_neg (by omega)]
    by_cases h2 : tb p = c
    · rw [if_pos h2, if_pos h2, decide_eq_true h2]; rfl
    · rw [if_neg h2, if_neg h2, decide_eq_false h2]; rfl
  · simp (disch := omega) only [f_X10_passesByte, ↓zl_eq, ↓zb_eq, ↓zb2_eq, ↓zc_some, ↓zc_none, ↓zb_pre, ↓zb2_pre, ↓zc_pre, ↓zex_eq, ↓reduceIte, Option.isSome_some, Option.isSome_none, Option.getD_some, n32_lit, z_ob_sA, z_I_sA, m1.1, f6, f7, n32_le, T0, decide_eq_false hp1, Bool.false_and, Bool.false_eq_true]
    rw [if_pos (by omega)]; rfl
theorem m_rn64 (h : zMt σ b tl tb) (f6 : F 6 = n32 tl) {q : Nat} (f7 : F 7 = n32 q) (hp : p < 900) (hq : q < 950) : f_X10_readsNumber_64 (z_sA σ (b + 118) F) (b + 118) (n32 p) = some (if q ≤ p then n32 0 else bi (!(s_dg tb tl q).isSome), z_sA σ (b + 118) F) := by
  have IF := m_isFigure h f6 f7 (by omega)
  have o := h.1.1
  simp (disch := omega) only [f_X10_readsNumber_64, f_X10_readsNumber_83, f_X10_readsNumber_84, ↓zl_eq, ↓zb_eq, ↓zb2_eq, ↓zc_some, ↓zc_none, ↓zb_pre, ↓zb2_pre, ↓zc_pre, ↓zex_eq, ↓reduceIte, Option.isSome_some, Option.isSome_none, Option.getD_some, n32_lit, z_ob_sA, o, z_I_sA, f7, n32_le, IF, bi_0n, bl0, bl1]
  by_cases c1 : q ≤ p
  · rw [if_pos c1, if_pos c1]
  · rw [if_neg c1, if_neg c1]
    cases (s_dg tb tl q).isSome <;> rfl
theorem m_rnX (h : zMt σ b tl tb) (f6 : F 6 = n32 tl) {q : Nat} (f7 : F 7 = n32 q) (hp : p < 900) (hq : q < 950) (hc : s_dg tb tl q = none ∨ p + 2 ≤ q) : b_X10_readsNumber_10 (b + 118) (n32 p) (z_sA σ (b + 118) F) = some (.inr (if q ≤ p then n32 0 else bi (!(s_dg tb tl q).isSome), z_sA σ (b + 118) F)) := by
  have IF := m_isFigure h f6 f7 (by omega)
  have T := m_rn64 (p := p) h f6 f7 hp hq
  have o := h.1.1
  rcases hc with hc | hc
  · rw [hc] at IF T ⊢
    have IF' : f_X10_isFigure (z_sA σ (b + 118) F) (b + 118) = some (n32 0) := IF
    simp (disch := omega) only [b_X10_readsNumber_10, ↓zl_eq, ↓zb_eq, ↓zb2_eq, ↓zc_some, ↓zc_none, ↓zb_pre, ↓zb2_pre, ↓zc_pre, ↓zex_eq, ↓reduceIte, Option.isSome_some, Option.isSome_none, Option.getD_some, n32_lit, z_ob_sA, o, IF', T]
  · simp (disch := omega) only [b_X10_readsNumber_10, ↓zl_eq, ↓zb_eq, ↓zb2_eq, ↓zc_some, ↓zc_none, ↓zb_pre, ↓zb2_pre, ↓zc_pre, ↓zex_eq, ↓reduceIte, Option.isSome_some, Option.isSome_none, Option.getD_some, n32_lit, z_ob_sA, o, IF, z_I_sA, f7, n32_add, n32_le, if_pos hc, T, ite_self]
theorem m_rnS (h : zMt σ b tl tb) (f6 : F 6 = n32 tl) {q v d : Nat} (f7 : F 7 = n32 q) (f8 : F 8 = n32 v) (hv : v < 100) (hp : p < 900) (hq : q < p + 2) (hd : s_dg tb tl q = some d) : b_X10_readsNumber_10 (b + 118) (n32 p) (z_sA σ (b + 118) F) = some (.inl (z_sA σ (b + 118) (gu (gu F 8 (n32 (10 * v + d))) 7 (n32 (q + 1))))) := by
  have IF := m_isFigure h f6 f7 (by omega)
  rw [hd] at IF
  have IF' : f_X10_isFigure (z_sA σ (b + 118) F) (b + 118) = some (n32 1) := IF
  have dl := s_dg_lt hd
  obtain ⟨hM, ht, h120, hb⟩ := h
  have f4 : b + 118 + 4 = b + 122 := rfl
  have m1 := hM
  unfold zMs at m1
  rw [f4] at m1
  have i1 : z_I (z_sA σ (b + 118) F) (b + 122) = z_I σ (b + 122) := z_I_sAn _ _ _ (by omega)
  have hv2 := ht q dl.1
  have n10' : (n32 1 = n32 0) = False := eq_false nn10
  have es : n32 (10 * v + (d + 48)) - n32 48 = n32 (10 * v + d) := by
    rw [n32_sub (by omega)]; congr 1
  have g7 : gu F 8 (n32 (10 * v + d)) 7 = n32 q := by rw [gu_ne _ _ (by omega)]; exact f7
  simp (disch := omega) only [b_X10_readsNumber_10, ↓zl_eq, ↓zb_eq, ↓zb2_eq, ↓zc_some, ↓zc_none, ↓zb_pre, ↓zb2_pre, ↓zc_pre, ↓zex_eq, ↓reduceIte, Option.isSome_some, Option.isSome_none, Option.getD_some, n32_lit, z_ob_sA, z_R_sA, z_ar_sA, z_ln_sA, z_I_sA, m1.1, IF', n10', f7, f8, n32_add, n32_le, m1.2.2.2.2.1, m1.2.2.2.2.2.2.2.2.1, m1.2.2.2.2.2.2.2.2.2.2.2.2, n32_ix, n32_toNat, i1, hv2, dl.2.2, n32_mul, es, z_pI_eq, z_sA_sA, g7]
  rw [if_neg (by omega)]
theorem m_readsNumber (h : zMt σ b tl tb) (f6 : F 6 = n32 tl) (f7 : F 7 = n32 p) (hp : p < 800) :
    (∀ v q, s_num2 tb tl p = (some v, q) → ∃ F', f_X10_readsNumber (z_sA σ (b + 118) F) (b + 118) = some (n32 1, z_sA σ (b + 118) F') ∧ F' 7 = n32 q ∧ F' 8 = n32 v ∧ ∀ j, j ≠ 7 → j ≠ 8 → F' j = F j) ∧
    (∀ e, s_num2 tb tl p = (none, e) → ∃ F', f_X10_readsNumber (z_sA σ (b + 118) F) (b + 118) = some (n32 0, z_sA σ (b + 118) F') ∧ F' 7 = n32 e ∧ ∀ j, j ≠ 7 → j ≠ 8 → F' j = F j) := by
  have o := h.1.1
  have RN : f_X10_readsNumber (z_sA σ (b + 118) F) (b + 118) = zloop (fun (t : zSt) => b_X10_readsNumber_10 (b + 118) (n32 p) t) 5000 (z_sA σ (b + 118) (gu F 8 (n32 0))) := by
    simp only [f_X10_readsNumber, f_X10_readsNumber_10, ↓zl_eq, ↓zb_eq, ↓zb2_eq, ↓zc_some, ↓zc_none, ↓zb_pre, ↓zb2_pre, ↓zc_pre, ↓zex_eq, ↓reduceIte, Option.isSome_some, Option.isSome_none, Option.getD_some, n32_lit, z_ob_sA, o, z_I_sA, f7, z_pI_eq, z_sA_sA]
    rfl
  generalize hF0 : gu F 8 (n32 0) = F0 at RN
  have a6 : F0 6 = n32 tl := by rw [← hF0, gu_ne _ _ (by omega)]; exact f6
  have a7 : F0 7 = n32 p := by rw [← hF0, gu_ne _ _ (by omega)]; exact f7
  have a8 : F0 8 = n32 0 := by rw [← hF0, gu_same]
  have a0 : ∀ j, j ≠ 7 → j ≠ 8 → F0 j = F j := fun j _ h8 => by rw [← hF0, gu_ne _ _ h8]
  unfold s_num2
  cases h0 : s_dg tb tl p with
  | none =>
    have X := m_rnX (p := p) h a6 a7 (by omega) (by omega) (Or.inl h0)
    rw [if_pos (Nat.le_refl _)] at X
    refine ⟨fun v q hv => by simp at hv, fun e he => ⟨F0, ?_, ?_, a0⟩⟩
    · rw [RN]; exact zloop_r X
    · simp only [Prod.mk.injEq, true_and] at he
      rw [← he]; exact a7
  | some d =>
    have d0 := s_dg_lt h0
    have S1 := m_rnS (p := p) h a6 a7 a8 (by omega) (by omega) (by omega) h0
    have e0 : 10 * 0 + d = d := by omega
    rw [e0] at S1
    generalize hF1 : gu (gu F0 8 (n32 d)) 7 (n32 (p + 1)) = F1 at S1
    have b6 : F1 6 = n32 tl := by rw [← hF1, gu_ne _ _ (by omega), gu_ne _ _ (by omega)]; exact a6
    have b7 : F1 7 = n32 (p + 1) := by rw [← hF1, gu_same]
    have b8 : F1 8 = n32 d := by rw [← hF1, gu_ne _ _ (by omega), gu_same]
    have b0 : ∀ j, j ≠ 7 → j ≠ 8 → F1 j = F j := fun j h7 h8 => by rw [← hF1, gu_ne _ _ h7, gu_ne _ _ h8]; exact a0 j h7 h8
    cases h1 : s_dg tb tl (p + 1) with
    | none =>
      have X := m_rnX (p := p) h b6 b7 (by omega) (by omega) (Or.inl h1)
      rw [if_neg (by omega), h1] at X
      refine ⟨fun v q hv => ⟨F1, ?_, ?_, ?_, b0⟩, fun e he => by simp at he⟩
      · rw [RN]; exact (zloop_l S1).trans (zloop_r X)
      · simp only [Prod.mk.injEq, Option.some.injEq] at hv
        rw [← hv.2]; exact b7
      · simp only [Prod.mk.injEq, Option.some.injEq] at hv
        rw [← hv.1]; exact b8
    | some d1 =>
      have dd1 := s_dg_lt h1
      have S2 := m_rnS (p := p) h b6 b7 b8 (by omega) (by omega) (by omega) h1
      have e2 : p + 1 + 1 = p + 2 := rfl
      rw [e2] at S2
      generalize hF2 : gu (gu F1 8 (n32 (10 * d + d1))) 7 (n32 (p + 2)) = F2 at S2
      have c6 : F2 6 = n32 tl := by rw [← hF2, gu_ne _ _ (by omega), gu_ne _ _ (by omega)]; exact b6
      have c7 : F2 7 = n32 (p + 2) := by rw [← hF2, gu_same]
      have c8 : F2 8 = n32 (10 * d + d1) := by rw [← hF2, gu_ne _ _ (by omega), gu_same]
      have c0 : ∀ j, j ≠ 7 → j ≠ 8 → F2 j = F j := fun j h7 h8 => by rw [← hF2, gu_ne _ _ h7, gu_ne _ _ h8]; exact b0 j h7 h8
      have X := m_rnX (p := p) h c6 c7 (by omega) (by omega) (Or.inr (Nat.le_refl _))
      rw [if_neg (by omega)] at X
      cases h2 : s_dg tb tl (p + 2) with
      | none =>
        rw [h2] at X
        refine ⟨fun v q hv => ⟨F2, ?_, ?_, ?_, c0⟩, fun e he => by simp at he⟩
        · rw [RN]; exact (zloop_l S1).trans ((zloop_l S2).trans (zloop_r X))
        · simp only [Prod.mk.injEq, Option.some.injEq] at hv
          rw [← hv.2]; exact c7
        · simp only [Prod.mk.injEq, Option.some.injEq] at hv
          rw [← hv.1]; exact c8
      | some d2 =>
        rw [h2] at X
        refine ⟨fun v q hv => by simp at hv, fun e he => ⟨F2, ?_, ?_, c0⟩⟩
        · rw [RN]; exact (zloop_l S1).trans ((zloop_l S2).trans (zloop_r X))
        · simp only [Prod.mk.injEq, true_and] at he
          rw [← he]; exact c7
end MODEL
