section TOP
variable {σ : zSt} {b k tl : Nat} {g : zG} {gs : Nat → zG} {tx : Nat → Int32} {B V : Nat}
theorem c_isFull {a n : Nat} {pl ad : Nat → Nat} {qu : Nat → Nat → Nat} (h : zC0 σ a pl ad qu n g) : f_X2_isFull σ a = some (bi (!decide (n < 8))) := by
  have o1 := h.1.1
  have e5 := (c_L h).1
  have hn := c_n8 h
  simp (disch := omega) only [f_X2_isFull, f_X2_isFull_14, ↓zl_eq, ↓zb_eq, ↓zb2_eq, ↓zc_some, ↓zc_none, ↓zb_pre, ↓zb2_pre, ↓zc_pre, ↓zex_eq, ↓reduceIte, Option.isSome_some, Option.isSome_none, Option.getD_some, n32_lit, o1, e5, n32_lt, bl0, bl1]
  by_cases hc : n < 8
  · rw [if_pos hc, decide_eq_true hc]; rfl
  · rw [if_neg hc, decide_eq_false hc]; rfl
theorem p_addStation (h : zW σ b g k gs tl tx B V) (hB : B = 1740000) (hV : V ≤ 1000000) (x : Int32) : zP σ b g k gs tl tx B V (f_L_addStation σ b x (b + 123)) (fun σ1 => f_X10_addStation σ1 (b + 118) x) := by
  have hI := h.2.2.1
  have O := h.2.2.2.2.2.2.2
  obtain ⟨o8, r0, o2, pl, ad, qu, n, hs, hG⟩ := zC_open h.1 hI
  have h0 := zC0_of hs
  have hn := c_n8 h0
  obtain ⟨q5, q52⟩ := s_I_5 hI
  have IA : f_X9_isAddress σ x = some (bi (decide (0 ≤ x.toInt ∧ x.toInt ≤ 31))) := c_isAddress σ x
  have IM := fun σ => m_inN σ x (lo := 0) (hi := 31) (by omega) (by omega)
  have full := c_isFull h0
  have ST := fun σ1 (hM : zM σ1 b g k gs tl tx) => (show f_X10_stations σ1 (b + 118) = some (n32 n) by
    rw [m_stations hM.1, show z_I σ1 (b + 118 + 1) = g from hM.2.1, s_sum_n (c_qA h0)])
  by_cases hx : 0 ≤ x.toInt ∧ x.toInt ≤ 31
  · rw [decide_eq_true hx] at IA
    have IM1 := fun σ => (IM σ).trans (by rw [decide_eq_true (by omega)])
    rcases p_find (b := b) (k := k) (gs := gs) (tl := tl) (tx := tx) hs x with ⟨i, hi, hxi, F, FM⟩ | ⟨F, FM, FN⟩
    · refine zP_q h (r := 2) (v := 0) (x_addStation1 _ O o8 (zA9_x h.1 ?_)) (fun σ1 hM => zAM_q hM ?_)
      · simp only [f_X9_addStation, f_X9_addStation_38, ↓zl_eq, ↓zb_eq, ↓zb2_eq, ↓zc_some, ↓zc_none, ↓zb_pre, ↓zb2_pre, ↓zc_pre, ↓zex_eq, ↓reduceIte, Option.isSome_some, Option.isSome_none, Option.getD_some, IA, n32_lit, bt0', o8, r0, o2, F]
      · have G := m_gs hM.1 true false true (show bi true = bi true from rfl) (show n32 0 = bi false from rfl) (show n32 1 = bi true from rfl)
        simp only [f_X10_addStation, f_X10_addStation_37, f_X10_addStation_38, ↓zl_eq, ↓zb_eq, ↓zb2_eq, ↓zc_some, ↓zc_none, ↓zb_pre, ↓zb2_pre, ↓zc_pre, ↓zex_eq, ↓reduceIte, Option.isSome_some, Option.isSome_none, Option.getD_some, n32_lit, i64_lit, IM1, bt0', bf0', hM.1.1, FM σ1 hM, G, Bool.and_false, Bool.false_and]
        rfl
    · obtain ⟨y, hy, rfl⟩ := n32_of2 (x := x) (k := 31) hx.1 hx.2 (by omega)
      have hz := FN y (by omega) rfl
      have own : s_own g := hI.2.2.2
      by_cases hn8 : n < 8
      · rw [decide_eq_true hn8] at full
        obtain ⟨σ1, ES, C1, n1, s1, E1, E2⟩ := zC_save h.1 (s_I_num hI)
        obtain ⟨r2, oh⟩ := zC_hs h.1
        have h1 := zC0_reg (zEq_s E1 (by omega) (by omega)) h0
        have G1 := qG_reg (zEq_s E1 (by omega) (by omega)) hG
        obtain ⟨z, hz6, h6⟩ := s_I_6 hI
        obtain ⟨σ2, pl', ad', p, EP, FW, h2, G2, _⟩ := c_place h1 G1 hn8 own (by rw [s_nat_n32 h6 (by omega)]; exact hz6) q5 (show y < 32 by omega) hz
        have o8' : z_ob σ1 b 8 = true := by rw [z_ob_eq s1]; exact o8
        have o2' : z_ob σ1 (b + 1) 2 = true := by rw [z_ob_eq s1]; exact o2
        have r0' : z_R σ1 b 0 = some (b + 1) := C1.1.2.1
        have eo : z_ob σ2 = z_ob σ1 := z_ob_eq FW.2.1
        have eR : z_R σ2 b = z_R σ1 b := (FW.2.2 b (by omega)).2.2
        have e5 := (c_L h2).1
        refine zP_s h (v := n32 (n + 1)) (g' := s_adds g y) (w_addStation O o8 (zA9_line (σ2 := σ2) C1 n1 E2 FW (zLn_of h2 G2) ?_)) (fun σ1 hM => ?_) (s_I_w (s_I_adds hI (show y < 32 by omega) hz) (Nat.le_refl _) (by omega))
        · simp only [f_X9_addStation, ↓zl_eq, ↓zb_eq, ↓zb2_eq, ↓zc_some, ↓zc_none, ↓zb_pre, ↓zb2_pre, ↓zc_pre, ↓zex_eq, ↓reduceIte, Option.isSome_some, Option.isSome_none, Option.getD_some, IA, n32_lit, bt0', bf0', Bool.not_true, o8, r0, o2, F, full, r2, oh, ES, o8', r0', o2', EP, eo, eR, e5, Bool.false_eq_true]
        · obtain ⟨σ', E, M, F', t⟩ := zM_gos hM h.2.2.2.2.1
          have G := m_gs hM.1 true true true (show bi true = bi true from rfl) (show n32 1 = bi true from rfl) (show n32 1 = bi true from rfl)
          refine zAM_new M F' t ?_
          have sg : s_goes true true true = n32 0 := rfl
          rw [sg] at G
          have oo : z_ob (z_sA σ1 (b + 118) (gu (z_I σ1 (b + 118)) 4 (n32 0))) (b + 118) 9 = true := hM.1.1
          have f1 : b + 118 + 1 = b + 119 := rfl
          have mg : z_I σ' (b + 118 + 1) = g := M.2.1
          have AD := m_adds M.1 (x := y) (by omega)
          rw [mg] at AD
          have AD2 : f_X10_adds σ' (b + 118) (n32 y) = some (z_sA σ' (b + 118 + 1) (s_adds g y)) := AD
          have S2 := m_stations (zMs_sA M.1 (b + 118 + 1) (s_adds g y))
          rw [z_I_sA, s_sum_n (c_qA h2)] at S2
          have nf : (8 ≤ n) = False := eq_false (by omega)
          simp (disch := omega) only [f_X10_addStation, f_X10_addStation_38, ↓zl_eq, ↓zb_eq, ↓zb2_eq, ↓zc_some, ↓zc_none, ↓zb_pre, ↓zb2_pre, ↓zc_pre, ↓zex_eq, ↓reduceIte, Option.isSome_some, Option.isSome_none, Option.getD_some, n32_lit, i64_lit, IM1, bt0', bf0', hM.1.1, FM σ1 hM, ST σ1 hM, n32_le, nf, G, Bool.and_self, oo, E, M.1.1, AD2, z_ob_sA, S2]
      · rw [decide_eq_false hn8] at full
        refine zP_q h (r := 2) (v := 0) (x_addStation1 _ O o8 (zA9_x h.1 ?_)) (fun σ1 hM => zAM_q hM ?_)
        · simp only [f_X9_addStation, f_X9_addStation_38, ↓zl_eq, ↓zb_eq, ↓zb2_eq, ↓zc_some, ↓zc_none, ↓zb_pre, ↓zb2_pre, ↓zc_pre, ↓zex_eq, ↓reduceIte, Option.isSome_some, Option.isSome_none, Option.getD_some, IA, n32_lit, bt0', Bool.not_false, o8, r0, o2, F, full, Bool.false_eq_true]
        · have G := m_gs hM.1 true false true (show bi true = bi true from rfl) (show n32 0 = bi false from rfl) (show n32 1 = bi true from rfl)
          have nf : (8 ≤ n) = True := eq_true (by omega)
          simp (disch := omega) only [f_X10_addStation, f_X10_addStation_37, f_X10_addStation_38, ↓zl_eq, ↓zb_eq, ↓zb2_eq, ↓zc_some, ↓zc_none, ↓zb_pre, ↓zb2_pre, ↓zc_pre, ↓zex_eq, ↓reduceIte, Option.isSome_some, Option.isSome_none, Option.getD_some, n32_lit, i64_lit, IM1, bt0', bf0', hM.1.1, FM σ1 hM, ST σ1 hM, n32_le, nf, G, Bool.and_false, Bool.false_and]
          rfl
  · rw [decide_eq_false hx] at IA
    have IM0 := fun σ => (IM σ).trans (by rw [decide_eq_false (by omega)])
    refine zP_q h (r := 1) (v := 0) (x_addStation0 _ O o8 (zA9_x h.1 ?_)) (fun σ1 hM => zAM_q hM ?_)
    · simp only [f_X9_addStation, ↓zl_eq, ↓zb_eq, ↓zb2_eq, ↓zc_some, ↓zc_none, ↓zb_pre, ↓zb2_pre, ↓zc_pre, ↓zex_eq, ↓reduceIte, Option.isSome_some, Option.isSome_none, Option.getD_some, IA, n32_lit, bf0']
    · have G := m_gs hM.1 false false true (show bi false = bi false from rfl) (show n32 0 = bi false from rfl) (show n32 1 = bi true from rfl)
      simp only [f_X10_addStation, f_X10_addStation_37, f_X10_addStation_38, ↓zl_eq, ↓zb_eq, ↓zb2_eq, ↓zc_some, ↓zc_none, ↓zb_pre, ↓zb2_pre, ↓zc_pre, ↓zex_eq, ↓reduceIte, Option.isSome_some, Option.isSome_none, Option.getD_some, n32_lit, i64_lit, IM0, bf0', hM.1.1, G, Bool.and_false, Bool.false_and]
      rfl
theorem m_gives {M q : Nat} (hM : zMs σ M) (h5 : z_I σ (M + 1) 5 = n32 q) (hq : q < 100) (x L U : Int32) : f_X10_gives σ M x L U = some (n32 q, z_sA σ (M + 1) (s_gives (z_I σ (M + 1)) q x L U)) := by
  unfold s_gives
  simp (disch := omega) only [f_X10_gives, f_X10_inMessage, ↓zl_eq, ↓zb_eq, ↓zb2_eq, ↓zc_some, ↓zc_none, ↓zb_pre, ↓zb2_pre, ↓zc_pre, ↓zex_eq, ↓reduceIte, Option.isSome_some, Option.isSome_none, Option.getD_some, n32_lit, n32_nn, n32_nn2, n32_add, n32_mul, n32_toNat, n32_ix, z_pI_eq, z_sA_sA, z_I_sA, z_J_sA, z_R_sA, z_ob_sA, z_ar_sA, z_ln_sA, z_nx_sA, hM.1, hM.2.1, hM.2.2.1, hM.2.2.2.1, hM.2.2.2.2.1, hM.2.2.2.2.2.1, hM.2.2.2.2.2.2.1, hM.2.2.2.2.2.2.2.1, hM.2.2.2.2.2.2.2.2.1, hM.2.2.2.2.2.2.2.2.2.1, hM.2.2.2.2.2.2.2.2.2.2.1, hM.2.2.2.2.2.2.2.2.2.2.2.1, hM.2.2.2.2.2.2.2.2.2.2.2.2, h5, gu_ne]
theorem p_give (h : zW σ b g k gs tl tx B V) (hB : B = 1740000) (hV : V ≤ 1000000) (x y z : Int32) : zP σ b g k gs tl tx B V (f_L_give σ b x y z (b + 123)) (fun σ1 => f_X10_give σ1 (b + 118) x y z) := by
  have hI := h.2.2.1
  have O := h.2.2.2.2.2.2.2
  obtain ⟨o8, r0, o2, pl, ad, qu, n, hs, hG⟩ := zC_open h.1 hI
  have h0 := zC0_of hs
  obtain ⟨q5, q52⟩ := s_I_5 hI
  have r1 := hs.1.2.2.1
  have o3 := hs.1.2.2.2.2.2.2.2.2.1
  have eM : z_I σ (b + 1 + 2) 1 = n32 (s_nat g 5) := hs.2.2.1.2.2.1.1.trans q52
  have full : f_X3_isFull σ (b + 1 + 2) = some (bi (!decide (s_nat g 5 < 100))) := by
    simp (disch := omega) only [f_X3_isFull, f_X3_isFull_14, ↓zl_eq, ↓zb_eq, ↓zb2_eq, ↓zc_some, ↓zc_none, ↓zb_pre, ↓zb2_pre, ↓zc_pre, ↓zex_eq, ↓reduceIte, Option.isSome_some, Option.isSome_none, Option.getD_some, n32_lit, o3, eM, n32_lt, bl0, bl1]
    by_cases hc : s_nat g 5 < 100
    · rw [if_pos hc, decide_eq_true hc]; rfl
    · rw [if_neg hc, decide_eq_false hc]; rfl
  have g35 : ∀ σ1, zM σ1 b g k gs tl tx → ∀ s0 s1 s2, f_X10_give_35 σ1 (b + 118) x y z s0 s1 s2 = f_X10_give_51 σ1 (b + 118) x y z (bi (decide (s_nat g 5 < 100))) s0 s1 s2 := by
    intro σ1 hM s0 s1 s2
    have e1 : z_I σ1 (b + 118 + 1) 5 = n32 (s_nat g 5) := by have := hM.2.1; rw [show z_I σ1 (b + 118 + 1) = g from this]; exact q52
    have t1 := hM.1
    simp (disch := omega) only [f_X10_give_35, ↓zl_eq, ↓zb_eq, ↓zb2_eq, ↓zc_some, ↓zc_none, ↓zb_pre, ↓zb2_pre, ↓zc_pre, ↓zex_eq, ↓reduceIte, Option.isSome_some, Option.isSome_none, Option.getD_some, n32_lit, t1.1, t1.2.1, t1.2.2.2.2.2.1, t1.2.2.2.2.2.2.2.2.2.1, n32_ix, n32_toNat, e1, n32_le]
    by_cases hc : s_nat g 5 < 100
    · rw [if_neg (by omega), decide_eq_true hc]; rfl
    · rw [if_pos (by omega), decide_eq_false hc]; rfl
  have g51 : ∀ σ1, zM σ1 b g k gs tl tx → ∀ c d e, (c && d && e) = false → f_X10_give_51 σ1 (b + 118) x y z (bi e) (bi d) (bi c) (some (b + 118)) = some (n32 0, z_sA σ1 (b + 118) (gu (z_I σ1 (b + 118)) 4 (s_goes c d e))) := by
    intro σ1 hM c d e hc
    have G := m_gs hM.1 c d e rfl rfl rfl
    rw [hc] at G
    simp only [f_X10_give_51, ↓zl_eq, ↓zb_eq, ↓zb2_eq, ↓zc_some, ↓zc_none, ↓zb_pre, ↓zb2_pre, ↓zc_pre, ↓zex_eq, ↓reduceIte, Option.isSome_some, Option.isSome_none, Option.getD_some, n32_lit, hM.1.1, G, bf0']
  rcases p_find (b := b) (k := k) (gs := gs) (tl := tl) (tx := tx) hs x with ⟨i, hi, rfl, F, FM⟩ | ⟨F, FM, _⟩
  · have hai := c_ad h0 hi
    have obi := c_ob h0 hi
    by_cases hy : ((1 : Nat) : Int) ≤ y.toInt ∧ y.toInt ≤ ((20 : Nat) : Int)
    · have W := fun σ => c_win1 σ (by omega) (by omega) hy
      have WM := fun σ => m_win1 σ (by omega) (by omega) hy
      by_cases hz : ((0 : Nat) : Int) ≤ z.toInt ∧ z.toInt ≤ ((9 : Nat) : Int)
      · have W2 := fun σ => c_win1 σ (by omega) (by omega) hz
        have WM2 := fun σ => m_win1 σ (by omega) (by omega) hz
        by_cases hq : s_nat g 5 < 100
        · rw [decide_eq_true hq] at full g35
          obtain ⟨σ1, ES, C1, n1, s1, E1, E2⟩ := zC_save h.1 (s_I_num hI)
          obtain ⟨r2, oh⟩ := zC_hs h.1
          have h1 := zC0_reg (zEq_s E1 (by omega) (by omega)) h0
          have G1 := qG_reg (zEq_s E1 (by omega) (by omega)) hG
          obtain ⟨z', hz6, h6⟩ := s_I_6 hI
          obtain ⟨σ2, qu', EA, FA, h2, G2⟩ := c_add h1 G1 q52 hq (by rw [s_nat_n32 h6 (by omega)]; exact hz6) hi y z
          have o8' : z_ob σ1 b 8 = true := by rw [z_ob_eq s1]; exact o8
          have o2' : z_ob σ1 (b + 1) 2 = true := by rw [z_ob_eq s1]; exact o2
          have r0' : z_R σ1 b 0 = some (b + 1) := C1.1.2.1
          have r1' := h1.1.2.2.1
          have o3' := h1.1.2.2.2.2.2.2.2.2.1
          have e9 := (c_L h1).2.2.2.2.1
          obtain ⟨l, hl1, rfl⟩ := n32_of2 (x := y) (k := 20) (by omega) (by omega) (by omega)
          have hl2 : 1 ≤ l := by rw [n32_toInt (by omega)] at hy; omega
          refine zP_s h (v := n32 (s_nat g 5)) (g' := s_gives g (s_nat g 5) (n32 (ad i)) (n32 l) z) (w_give O o8 (zA9_line (σ2 := σ2) C1 n1 E2 (zFw_of FA) (zLn_of h2 G2) ?_)) (fun σ1 hM => ?_) (s_I_w (s_I_gives hI q52 hq hai.1 hai.2 hl2 hl1 z) (Nat.le_refl _) (by omega))
          · simp only [f_X9_give, ↓zl_eq, ↓zb_eq, ↓zb2_eq, ↓zc_some, ↓zc_none, ↓zb_pre, ↓zb2_pre, ↓zc_pre, ↓zex_eq, ↓reduceIte, Option.isSome_some, Option.isSome_none, Option.getD_some, n32_lit, bt0', bf0', Bool.not_true, o8, r0, o2, F, W, W2, r1, o3, full, r2, oh, ES, o8', r0', o2', r1', o3', e9, EA]
          · obtain ⟨σ', E, M, F', t⟩ := zM_gos hM h.2.2.2.2.1
            have G := m_gs hM.1 true true true (show bi true = bi true from rfl) (show n32 1 = bi true from rfl) (show bi true = bi true from rfl)
            refine zAM_new M F' t ?_
            have sg : s_goes true true true = n32 0 := rfl
            rw [sg] at G
            have oo : z_ob (z_sA σ1 (b + 118) (gu (z_I σ1 (b + 118)) 4 (n32 0))) (b + 118) 9 = true := hM.1.1
            have mg : z_I σ' (b + 118 + 1) = g := M.2.1
            have GV := m_gives M.1 (q := s_nat g 5) (by rw [mg]; exact q52) hq (n32 (ad i)) (n32 l) z
            rw [mg] at GV
            have T := g35 σ1 hM (n32 1) (bi true) (some (b + 118))
            simp only [f_X10_give, ↓zl_eq, ↓zb_eq, ↓zb2_eq, ↓zc_some, ↓zc_none, ↓zb_pre, ↓zb2_pre, ↓zc_pre, ↓zex_eq, ↓reduceIte, Option.isSome_some, Option.isSome_none, Option.getD_some, n32_lit, i64_lit, WM, WM2, bt0', hM.1.1, FM σ1 hM, T, f_X10_give_51, G, Bool.and_self, oo, E, M.1.1, GV]
        · rw [decide_eq_false hq] at full g35
          refine zP_q h (r := 3) (v := 0) (x_give1 _ O o8 (zA9_x h.1 ?_)) (fun σ1 hM => zAM_q hM ?_)
          · simp only [f_X9_give, ↓zl_eq, ↓zb_eq, ↓zb2_eq, ↓zc_some, ↓zc_none, ↓zb_pre, ↓zb2_pre, ↓zc_pre, ↓zex_eq, ↓reduceIte, Option.isSome_some, Option.isSome_none, Option.getD_some, n32_lit, bt0', Bool.not_false, o8, r0, o2, F, W, W2, r1, o3, full]
          · have T := g35 σ1 hM (n32 1) (bi true) (some (b + 118))
            have T2 := g51 σ1 hM true true false rfl
            have T3 : f_X10_give_51 σ1 (b + 118) (n32 (ad i)) y z (bi false) (n32 1) (bi true) (some (b + 118)) = _ := T2
            simp only [f_X10_give, ↓zl_eq, ↓zb_eq, ↓zb2_eq, ↓zc_some, ↓zc_none, ↓zb_pre, ↓zb2_pre, ↓zc_pre, ↓zex_eq, ↓reduceIte, Option.isSome_some, Option.isSome_none, Option.getD_some, n32_lit, i64_lit, WM, WM2, bt0', hM.1.1, FM σ1 hM, T, T3]
            rfl
      · have W2 := fun σ => c_win0 σ (by omega) (by omega) hz
        have WM2 := fun σ => m_win0 σ (by omega) (by omega) hz
        refine zP_q h (r := 2) (v := 0) (x_give0 _ O o8 (zA9_x h.1 ?_)) (fun σ1 hM => zAM_q hM ?_)
        · simp only [f_X9_give, f_X9_give_45, ↓zl_eq, ↓zb_eq, ↓zb2_eq, ↓zc_some, ↓zc_none, ↓zb_pre, ↓zb2_pre, ↓zc_pre, ↓zex_eq, ↓reduceIte, Option.isSome_some, Option.isSome_none, Option.getD_some, n32_lit, bt0', bf0', o8, r0, o2, F, W, W2]
        · have T := g35 σ1 hM (n32 0) (bi true) (some (b + 118))
          have T2 := g51 σ1 hM true false (decide (s_nat g 5 < 100)) rfl
          have T3 : f_X10_give_51 σ1 (b + 118) (n32 (ad i)) y z (bi (decide (s_nat g 5 < 100))) (n32 0) (bi true) (some (b + 118)) = _ := T2
          simp only [f_X10_give, f_X10_give_34, ↓zl_eq, ↓zb_eq, ↓zb2_eq, ↓zc_some, ↓zc_none, ↓zb_pre, ↓zb2_pre, ↓zc_pre, ↓zex_eq, ↓reduceIte, Option.isSome_some, Option.isSome_none, Option.getD_some, n32_lit, i64_lit, WM, WM2, bt0', bf0', hM.1.1, FM σ1 hM, T, T3]
          rfl
    · have W := fun σ => c_win0 σ (by omega) (by omega) hy
      have WM := fun σ => m_win0 σ (by omega) (by omega) hy
      refine zP_q h (r := 2) (v := 0) (x_give0 _ O o8 (zA9_x h.1 ?_)) (fun σ1 hM => zAM_q hM ?_)
      · simp only [f_X9_give, f_X9_give_45, ↓zl_eq, ↓zb_eq, ↓zb2_eq, ↓zc_some, ↓zc_none, ↓zb_pre, ↓zb2_pre, ↓zc_pre, ↓zex_eq, ↓reduceIte, Option.isSome_some, Option.isSome_none, Option.getD_some, n32_lit, bf0', o8, r0, o2, F, W]
      · have T := g35 σ1 hM (n32 0) (bi true) (some (b + 118))
        have T2 := g51 σ1 hM true false (decide (s_nat g 5 < 100)) rfl
        have T3 : f_X10_give_51 σ1 (b + 118) (n32 (ad i)) y z (bi (decide (s_nat g 5 < 100))) (n32 0) (bi true) (some (b + 118)) = _ := T2
        simp only [f_X10_give, f_X10_give_34, ↓zl_eq, ↓zb_eq, ↓zb2_eq, ↓zc_some, ↓zc_none, ↓zb_pre, ↓zb2_pre, ↓zc_pre, ↓zex_eq, ↓reduceIte, Option.isSome_some, Option.isSome_none, Option.getD_some, n32_lit, i64_lit, WM, bt0', bf0', hM.1.1, FM σ1 hM, T, T3]
        rfl
  · refine zP_q h (r := 1) (v := 0) (x_give3 _ O o8 (zA9_x h.1 ?_)) (fun σ1 hM => zAM_q hM ?_)
    · simp only [f_X9_give, ↓zl_eq, ↓zb_eq, ↓zb2_eq, ↓zc_some, ↓zc_none, ↓zb_pre, ↓zb2_pre, ↓zc_pre, ↓zex_eq, ↓reduceIte, Option.isSome_some, Option.isSome_none, Option.getD_some, o8, r0, o2, F, Bool.false_eq_true]
    · have fin : ∀ c : Bool, f_X10_give_35 σ1 (b + 118) x y z (bi c) (bi false) (some (b + 118)) = some (n32 0, z_sA σ1 (b + 118) (gu (z_I σ1 (b + 118)) 4 (n32 1))) := fun c => by
        rw [g35 σ1 hM, g51 σ1 hM false c _ (by rw [Bool.false_and, Bool.false_and])]; rfl
      have i1 := m_inN σ1 y (lo := 1) (hi := 20) (by omega) (by omega)
      have i2 := m_inN σ1 z (lo := 0) (hi := 9) (by omega) (by omega)
      have f1 : f_X10_give_35 σ1 (b + 118) x y z (n32 1) (bi false) (some (b + 118)) = _ := fin true
      have f0 : f_X10_give_35 σ1 (b + 118) x y z (n32 0) (bi false) (some (b + 118)) = _ := fin false
      simp only [f_X10_give, f_X10_give_34, ↓zl_eq, ↓zb_eq, ↓zb2_eq, ↓zc_some, ↓zc_none, ↓zb_pre, ↓zb2_pre, ↓zc_pre, ↓zex_eq, ↓reduceIte, Option.isSome_some, Option.isSome_none, Option.getD_some, n32_lit, i64_lit, i1, i2, hM.1.1, FM σ1 hM, f1, f0, ite_self]
end TOP
