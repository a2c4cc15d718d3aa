section TOP
variable {σ : zSt} {b k tl : Nat} {g : zG} {gs : Nat → zG} {tx : Nat → Int32} {B V : Nat}
theorem p_visit (h : zW σ b g k gs tl tx B V) (hB : B = 1740000) (hV : V ≤ 1000000) (x y : Int32) : zP σ b g k gs tl tx B V (f_L_visit σ b x y (b + 123)) (fun σ1 => f_X10_visit σ1 (b + 118) x y) := by
  have hI := h.2.2.1
  have O := h.2.2.2.2.2.2.2
  obtain ⟨o8, r0, o2, pl, ad, qu, n, hs, hG⟩ := zC_open h.1 hI
  have h0 := zC0_of hs
  obtain ⟨_, _, _, _, _, _, _, mv, hmv, h9, h7⟩ := s_I_num hI
  have LL := c_logLength h0 (by omega) h9 h7
  rw [h7] at LL
  have WI := c_winm σ (x := x) (show min mv 40 < 2147483648 by omega)
  have HM := fun σ => m_winm σ (x := x) (show min mv 40 < 2147483648 by omega)
  by_cases hx : 0 ≤ x.toInt ∧ x.toInt < ((min mv 40 : Nat) : Int)
  · rw [decide_eq_true hx] at WI
    by_cases hy : ((0 : Nat) : Int) ≤ y.toInt ∧ y.toInt ≤ ((3 : Nat) : Int)
    · have W := fun σ => c_win1 σ (by omega) (by omega) hy
      have W2 := fun σ => m_win1 σ (by omega) (by omega) hy
      obtain ⟨w, hw, rfl⟩ := n32_of2 hy.1 hy.2 (by omega)
      obtain ⟨m, hm, rfl⟩ := n32_of2 (x := x) (k := min mv 40 - 1) hx.1 (by omega) (by omega)
      have hm2 : m < min mv 40 := by rw [n32_toInt (by omega)] at hx; omega
      have S := c_logValue h0 hG hmv h9 h7 hm2 (show w < 4 by omega)
      refine zP_q h (r := 0) (v := g (782 + 4 * m + w)) (w_visit O o8 (zA9_q h.1 ?_)) (fun σ1 hM => zAM_q hM ?_)
      · simp only [f_X9_visit, ↓zl_eq, ↓zb_eq, ↓zb2_eq, ↓zc_some, ↓zc_none, ↓zb_pre, ↓zb2_pre, ↓zc_pre, ↓zex_eq, ↓reduceIte, Option.isSome_some, Option.isSome_none, Option.getD_some, n32_lit, W, bt0', o8, r0, o2, LL, WI, S]
      · have G := m_gs hM.1 true true true rfl rfl (show n32 1 = bi true from rfl)
        have T := (zM_thr hM (s_goes true true true)).1
        have e : z_I (z_sA σ1 (b + 118) (gu (z_I σ1 (b + 118)) 4 (s_goes true true true))) (b + 118 + 1) = g := T.2.1
        have e1 : z_I σ1 (b + 118 + 1) 7 = n32 (min mv 40) := by have := hM.2.1; rw [show z_I σ1 (b + 118 + 1) = g from this]; exact h7
        have HM1 := HM σ1
        rw [decide_eq_true hx] at HM1
        have t1 := hM.1
        have T1 := T.1
        simp (disch := omega) only [f_X10_visit, f_X10_visit_51, ↓zl_eq, ↓zb_eq, ↓zb2_eq, ↓zc_some, ↓zc_none, ↓zb_pre, ↓zb2_pre, ↓zc_pre, ↓zex_eq, ↓reduceIte, Option.isSome_some, Option.isSome_none, Option.getD_some, n32_lit, i64_lit, W2, t1.1, t1.2.1, t1.2.2.2.2.2.1, t1.2.2.2.2.2.2.2.2.2.1, n32_ix, n32_toNat, e1, HM1, G, bt0', Bool.and_self, T1.1, T1.2.1, T1.2.2.2.2.2.1, T1.2.2.2.2.2.2.2.2.2.1, n32_add, n32_mul, e]
        rfl
    · have W := fun σ => c_win0 σ (by omega) (by omega) hy
      have W2 := fun σ => m_win0 σ (by omega) (by omega) hy
      refine zP_q h (r := 2) (v := 0) (x_visit0 _ O o8 (zA9_x h.1 ?_)) (fun σ1 hM => zAM_q hM ?_)
      · simp only [f_X9_visit, ↓zl_eq, ↓zb_eq, ↓zb2_eq, ↓zc_some, ↓zc_none, ↓zb_pre, ↓zb2_pre, ↓zc_pre, ↓zex_eq, ↓reduceIte, Option.isSome_some, Option.isSome_none, Option.getD_some, n32_lit, W, bt0', bf0', o8, r0, o2, LL, WI]
      · have G := m_gs hM.1 true false true rfl rfl (show n32 1 = bi true from rfl)
        have e1 : z_I σ1 (b + 118 + 1) 7 = n32 (min mv 40) := by have := hM.2.1; rw [show z_I σ1 (b + 118 + 1) = g from this]; exact h7
        have HM1 := HM σ1
        rw [decide_eq_true hx] at HM1
        have t1 := hM.1
        simp (disch := omega) only [f_X10_visit, f_X10_visit_51, ↓zl_eq, ↓zb_eq, ↓zb2_eq, ↓zc_some, ↓zc_none, ↓zb_pre, ↓zb2_pre, ↓zc_pre, ↓zex_eq, ↓reduceIte, Option.isSome_some, Option.isSome_none, Option.getD_some, n32_lit, i64_lit, W2, t1.1, t1.2.1, t1.2.2.2.2.2.1, t1.2.2.2.2.2.2.2.2.2.1, n32_ix, n32_toNat, e1, HM1, G, bf0', Bool.and_false, Bool.false_and]
        rfl
  · rw [decide_eq_false hx] at WI
    refine zP_q h (r := 1) (v := 0) (x_visit2 _ O o8 (zA9_x h.1 ?_)) (fun σ1 hM => zAM_q hM ?_)
    · simp only [f_X9_visit, ↓zl_eq, ↓zb_eq, ↓zb2_eq, ↓zc_some, ↓zc_none, ↓zb_pre, ↓zb2_pre, ↓zc_pre, ↓zex_eq, ↓reduceIte, Option.isSome_some, Option.isSome_none, Option.getD_some, n32_lit, bf0', o8, r0, o2, LL, WI]
    · have W2 : ∃ c, f_X10_in σ1 y.toInt64 (Int64.ofNat 0) (Int64.ofNat 3) = some (bi c) := ⟨_, m_inN σ1 y (by omega) (by omega)⟩
      obtain ⟨c, W2⟩ := W2
      have G := m_gs hM.1 false c true rfl rfl (show n32 1 = bi true from rfl)
      have e1 : z_I σ1 (b + 118 + 1) 7 = n32 (min mv 40) := by have := hM.2.1; rw [show z_I σ1 (b + 118 + 1) = g from this]; exact h7
      have HM1 := HM σ1
      rw [decide_eq_false hx] at HM1
      have t1 := hM.1
      simp (disch := omega) only [f_X10_visit, f_X10_visit_51, ↓zl_eq, ↓zb_eq, ↓zb2_eq, ↓zc_some, ↓zc_none, ↓zb_pre, ↓zb2_pre, ↓zc_pre, ↓zex_eq, ↓reduceIte, Option.isSome_some, Option.isSome_none, Option.getD_some, n32_lit, i64_lit, W2, t1.1, t1.2.1, t1.2.2.2.2.2.1, t1.2.2.2.2.2.2.2.2.2.1, n32_ix, n32_toNat, e1, HM1, G, bf0', Bool.false_and]
      rfl
theorem p_isNoisy (h : zW σ b g k gs tl tx B V) (hB : B = 1740000) (hV : V ≤ 1000000) (x : Int32) : ∃ r c, (zAC σ b (f_L_isNoisy σ b x (b + 123)) r (bi c) g k gs tl tx) ∧ ∀ σ1, zM σ1 b g k gs tl tx → zAM σ1 b (f_X10_isNoisy σ1 (b + 118) x) r (bi c) g k gs tl tx := by
  have hI := h.2.2.1
  have O := h.2.2.2.2.2.2.2
  obtain ⟨o8, r0, o2, pl, ad, qu, n, hs, hG⟩ := zC_open h.1 hI
  have h0 := zC0_of hs
  obtain ⟨z, hz, h6⟩ := s_I_6 hI
  have e6 : s_nat g 6 = z := s_nat_n32 h6 (by omega)
  have hRN := h0.2.2.2.2.2.1
  have r2 := hs.1.2.2.2.1
  have o5 := hs.1.2.2.2.2.2.2.2.2.2.2.2.2.2.2.1
  by_cases hx : ((0 : Nat) : Int) ≤ x.toInt ∧ x.toInt ≤ ((1000000 : Nat) : Int)
  · have W := fun σ => c_win1 σ (by omega) (by omega) hx
    have W2 := fun σ => m_win1 σ (by omega) (by omega) hx
    have T := c_touch (g := g) hs.1 hz h6 (by rw [← h6]; exact hRN.1) (by rw [← e6]; exact hRN.2) x x
    refine ⟨0, s_loud g x x, w_isNoisy O o8 (zA9_q h.1 ?_), fun σ1 hM => zAM_q hM ?_⟩
    · simp only [f_X9_isNoisy, ↓zl_eq, ↓zb_eq, ↓zb2_eq, ↓zc_some, ↓zc_none, ↓zb_pre, ↓zb2_pre, ↓zc_pre, ↓zex_eq, ↓reduceIte, Option.isSome_some, Option.isSome_none, Option.getD_some, n32_lit, W, bt0', o8, r0, o2, r2, o5, T, bi_bl]
    · have G := m_gs hM.1 true true true rfl (show n32 1 = bi true from rfl) (show n32 1 = bi true from rfl)
      have Tm := (zM_thr hM (s_goes true true true)).1
      have e : z_I (z_sA σ1 (b + 118) (gu (z_I σ1 (b + 118)) 4 (s_goes true true true))) (b + 118 + 1) = g := Tm.2.1
      have S2 := m_isLoud Tm.1 (n := z) (by rw [e]; exact h6) hz x x
      rw [e] at S2
      simp only [f_X10_isNoisy, f_X10_isNoisy_31, f_X10_isNoisy_32, ↓zl_eq, ↓zb_eq, ↓zb2_eq, ↓zc_some, ↓zc_none, ↓zb_pre, ↓zb2_pre, ↓zc_pre, ↓zex_eq, ↓reduceIte, Option.isSome_some, Option.isSome_none, Option.getD_some, n32_lit, i64_lit, W2, hM.1.1, G, bt0', Bool.and_self, Tm.1.1, S2, bl0, bl1, bi_0n]
      cases s_loud g x x <;> rfl
  · have W := fun σ => c_win0 σ (by omega) (by omega) hx
    have W2 := fun σ => m_win0 σ (by omega) (by omega) hx
    refine ⟨1, false, x_isNoisy0 _ O o8 (zA9_x h.1 ?_), fun σ1 hM => zAM_q hM ?_⟩
    · simp only [f_X9_isNoisy, ↓zl_eq, ↓zb_eq, ↓zb2_eq, ↓zc_some, ↓zc_none, ↓zb_pre, ↓zb2_pre, ↓zc_pre, ↓zex_eq, ↓reduceIte, Option.isSome_some, Option.isSome_none, Option.getD_some, n32_lit, W, bf0']
    · have G := m_gs hM.1 false true true rfl (show n32 1 = bi true from rfl) (show n32 1 = bi true from rfl)
      simp only [f_X10_isNoisy, f_X10_isNoisy_31, f_X10_isNoisy_32, ↓zl_eq, ↓zb_eq, ↓zb2_eq, ↓zc_some, ↓zc_none, ↓zb_pre, ↓zb2_pre, ↓zc_pre, ↓zex_eq, ↓reduceIte, Option.isSome_some, Option.isSome_none, Option.getD_some, n32_lit, i64_lit, W2, hM.1.1, G, bf0', Bool.false_and, bl0]
      rfl
theorem s_nn_ne {m : Nat} (hm : m < 2147483648) : ¬ n32 m = nn := by rw [n32_ne hm]; exact not_false
theorem p_queued (h : zW σ b g k gs tl tx B V) (hB : B = 1740000) (hV : V ≤ 1000000) (x y : Int32) : zP σ b g k gs tl tx B V (f_L_queued σ b x y (b + 123)) (fun σ1 => f_X10_queued σ1 (b + 118) x y) := by
  have hI := h.2.2.1
  have O := h.2.2.2.2.2.2.2
  obtain ⟨o8, r0, o2, pl, ad, qu, n, hs, hG⟩ := zC_open h.1 hI
  have h0 := zC0_of hs
  obtain ⟨q5, q52⟩ := s_I_5 hI
  have r1 := hs.1.2.2.1
  have o3 := hs.1.2.2.2.2.2.2.2.2.1
  rcases p_find (b := b) (k := k) (gs := gs) (tl := tl) (tx := tx) hs x with ⟨i, hi, rfl, F, FM⟩ | ⟨F, FM, _⟩
  · have hai := (c_ad h0 hi).1
    have obi := c_ob h0 hi
    obtain ⟨e6, _, _, qk⟩ := c_Q h0 hi
    have hlen := s_len_le g (ad i)
    have WI := c_winm σ (x := y) (show s_len g (ad i) < 2147483648 by omega)
    have HM := fun σ => m_winm σ (x := y) (show s_len g (ad i) < 2147483648 by omega)
    have QO := fun σ1 (hM : zM σ1 b g k gs tl tx) => m_queueOf hM.1 (n := s_nat g 5) (by have := hM.2.1; rw [show z_I σ1 (b + 118 + 1) = g from this]; exact q52) q5 (n32 (ad i))
    by_cases hy : 0 ≤ y.toInt ∧ y.toInt < (s_len g (ad i) : Int)
    · rw [decide_eq_true hy] at WI
      obtain ⟨j, hj, rfl⟩ := n32_of2 (x := y) (k := s_len g (ad i) - 1) hy.1 (by omega) (by omega)
      have hj2 : j < s_len g (ad i) := by rw [n32_toInt (by omega)] at hy; omega
      have S := c_inQueue h0 q5 hi hj2
      refine zP_q h (r := 0) (v := n32 (qu (ad i) j)) (w_queued O o8 (zA9_q h.1 ?_)) (fun σ1 hM => zAM_q hM ?_)
      · simp only [f_X9_queued, ↓zl_eq, ↓zb_eq, ↓zb2_eq, ↓zc_some, ↓zc_none, ↓zb_pre, ↓zb2_pre, ↓zc_pre, ↓zex_eq, ↓reduceIte, Option.isSome_some, Option.isSome_none, Option.getD_some, n32_lit, WI, bt0', o8, r0, o2, F, obi, e6, r1, o3, S]
      · have G := m_gs hM.1 true true true rfl (show n32 1 = bi true from rfl) (show n32 1 = bi true from rfl)
        have T := (zM_thr hM (s_goes true true true)).1
        generalize hσ2 : z_sA σ1 (b + 118) (gu (z_I σ1 (b + 118)) 4 (s_goes true true true)) = σ2 at G T
        have e : z_I σ2 (b + 118 + 1) = g := T.2.1
        have HM1 := HM σ1
        rw [decide_eq_true hy] at HM1
        have QO1 := QO σ1 hM
        have el : s_cnt (s_wt (z_I σ1 (b + 118 + 1)) (n32 (ad i))) (s_nat g 5) = s_len g (ad i) := by
          rw [show z_I σ1 (b + 118 + 1) = g from hM.2.1]; rfl
        rw [el] at QO1
        have N0 := m_nextOf T.1 (n := s_nat g 5) (by rw [e]; exact q52) q5 (n32 (ad i)) (b := nn) (Or.inl rfl)
        rw [e, s_next0 qk q5, if_pos (by omega)] at N0
        have LP : f_X10_queued_54 σ2 (b + 118) (n32 (ad i)) (n32 j) (n32 (qu (ad i) 0)) (n32 0) = some (n32 (qu (ad i) j), σ2) := by
          unfold f_X10_queued_54
          refine zloop_go (N := zN) (fun t => (n32 (qu (ad i) t), n32 t)) _ j (fun t ht => ?_) ?_ (by unfold zN; omega)
          · show b_X10_queued_54 σ2 (b + 118) (n32 (ad i)) (n32 j) (n32 (qu (ad i) t)) (n32 t) = some (.inl (n32 (qu (ad i) (t + 1)), n32 (t + 1)))
            have ht2 := (qk.1 t (by omega)).1
            have N1 := m_nextOf T.1 (n := s_nat g 5) (by rw [e]; exact q52) q5 (n32 (ad i)) (b := n32 (qu (ad i) t)) (Or.inr ⟨_, by omega, rfl⟩)
            rw [e, s_next1 qk q5 (by omega), if_pos (by omega)] at N1
            simp (disch := omega) only [b_X10_queued_54, ↓zl_eq, ↓zb_eq, ↓zb2_eq, ↓zc_some, ↓zc_none, ↓zb_pre, ↓zb2_pre, ↓zc_pre, ↓zex_eq, ↓reduceIte, Option.isSome_some, Option.isSome_none, Option.getD_some, n32_lit, n32_le, T.1.1, N1, n32_add]
            rw [if_neg (by omega)]
          · show b_X10_queued_54 σ2 (b + 118) (n32 (ad i)) (n32 j) (n32 (qu (ad i) j)) (n32 j) = _
            simp (disch := omega) only [b_X10_queued_54, ↓zl_eq, ↓zb_eq, ↓zb2_eq, ↓zc_some, ↓zc_none, ↓zb_pre, ↓zb2_pre, ↓zc_pre, ↓zex_eq, ↓reduceIte, Option.isSome_some, Option.isSome_none, Option.getD_some, n32_le, Nat.le_refl]
        have e5 : s_goes true true true = n32 0 := rfl
        rw [e5] at hσ2
        show f_X10_queued σ1 (b + 118) (n32 (ad i)) (n32 j) = some (n32 (qu (ad i) j), z_sA σ1 (b + 118) (gu (z_I σ1 (b + 118)) 4 (n32 0)))
        rw [hσ2]
        simp only [f_X10_queued, f_X10_queued_34, ↓zl_eq, ↓zb_eq, ↓zb2_eq, ↓zc_some, ↓zc_none, ↓zb_pre, ↓zb2_pre, ↓zc_pre, ↓zex_eq, ↓reduceIte, Option.isSome_some, Option.isSome_none, Option.getD_some, n32_lit, n32_nn2, i64_lit, hM.1.1, FM σ1 hM, QO1, HM1, G, bt0', Bool.and_self, T.1.1, N0, LP]
    · rw [decide_eq_false hy] at WI
      refine zP_q h (r := 2) (v := 0) (x_queued2 _ O o8 (zA9_x h.1 ?_)) (fun σ1 hM => zAM_q hM ?_)
      · simp only [f_X9_queued, ↓zl_eq, ↓zb_eq, ↓zb2_eq, ↓zc_some, ↓zc_none, ↓zb_pre, ↓zb2_pre, ↓zc_pre, ↓zex_eq, ↓reduceIte, Option.isSome_some, Option.isSome_none, Option.getD_some, n32_lit, WI, bf0', o8, r0, o2, F, obi, e6]
      · have G := m_gs hM.1 true false true rfl (show n32 0 = bi false from rfl) (show n32 1 = bi true from rfl)
        have HM1 := HM σ1
        rw [decide_eq_false hy] at HM1
        have QO1 := QO σ1 hM
        have el : s_cnt (s_wt (z_I σ1 (b + 118 + 1)) (n32 (ad i))) (s_nat g 5) = s_len g (ad i) := by
          rw [show z_I σ1 (b + 118 + 1) = g from hM.2.1]; rfl
        rw [el] at QO1
        simp only [f_X10_queued, f_X10_queued_33, f_X10_queued_34, ↓zl_eq, ↓zb_eq, ↓zb2_eq, ↓zc_some, ↓zc_none, ↓zb_pre, ↓zb2_pre, ↓zc_pre, ↓zex_eq, ↓reduceIte, Option.isSome_some, Option.isSome_none, Option.getD_some, n32_lit, i64_lit, hM.1.1, FM σ1 hM, QO1, HM1, G, bt0', bf0', Bool.and_false, Bool.false_and]
        rfl
  · refine zP_q h (r := 1) (v := 0) (x_queued3 _ O o8 (zA9_x h.1 ?_)) (fun σ1 hM => zAM_q hM ?_)
    · simp only [f_X9_queued, ↓zl_eq, ↓zb_eq, ↓zb2_eq, ↓zc_some, ↓zc_none, ↓zb_pre, ↓zb2_pre, ↓zc_pre, ↓zex_eq, ↓reduceIte, Option.isSome_some, Option.isSome_none, Option.getD_some, o8, r0, o2, F, Bool.false_eq_true]
    · have G := m_gs hM.1 false false true rfl (show n32 0 = bi false from rfl) (show n32 1 = bi true from rfl)
      simp only [f_X10_queued, f_X10_queued_33, f_X10_queued_34, ↓zl_eq, ↓zb_eq, ↓zb2_eq, ↓zc_some, ↓zc_none, ↓zb_pre, ↓zb2_pre, ↓zc_pre, ↓zex_eq, ↓reduceIte, Option.isSome_some, Option.isSome_none, Option.getD_some, n32_lit, i64_lit, hM.1.1, FM σ1 hM, G, bf0', Bool.and_false, Bool.false_and]
      rfl
/-- how many stations stand before an address -/
theorem s_rank {ad : Nat → Nat} {n : Nat} (H : qA ad n g) : ∀ m, m ≤ 32 → ∃ j, j ≤ n ∧ s_cnt (s_is g) m = j ∧ (∀ i, i < j → ad i < m) ∧ ∀ i, j ≤ i → i < n → m ≤ ad i := by
  intro m
  induction m with
  | zero => intro _; exact ⟨0, Nat.zero_le _, rfl, fun i hi => by omega, fun i _ _ => Nat.zero_le _⟩
  | succ m ih =>
    intro hm
    obtain ⟨j, hj, e, a1, a2⟩ := ih (by omega)
    have es : s_cnt (s_is g) (m + 1) = s_cnt (s_is g) m + (if s_is g m = true then 1 else 0) := rfl
    rcases H.2.2.2 m (by omega) with h0 | ⟨h0, i, hi, hik⟩
    · have e3 : s_is g m = false := by unfold s_is; rw [h0]; rfl
      refine ⟨j, hj, by rw [es, e3, e]; rfl, fun i hi => by have := a1 i hi; omega, fun i h h' => ?_⟩
      have h5 := a2 i h h'
      rcases Nat.lt_or_ge m (ad i) with h4 | h4
      · omega
      · have e6 : ad i = m := by omega
        have h7 := (H.2.1 i h').2
        rw [e6, h0] at h7
        exact absurd h7 (by decide)
    · have e3 : s_is g m = true := by unfold s_is; rw [h0]; rfl
      have hij : i = j := by
        rcases Nat.lt_trichotomy i j with h | h | h
        · have := a1 i h; omega
        · exact h
        · have := H.2.2.1 j i h hi
          have := a2 j (Nat.le_refl _) (by omega)
          omega
      subst hij
      refine ⟨i + 1, by omega, by rw [es, e3, e]; rfl, fun i' hi' => ?_, fun i' h h' => ?_⟩
      · rcases Nat.lt_or_ge i' i with h | h
        · have := a1 i' h; omega
        · have : i' = i := by omega
          subst this; omega
      · have := H.2.2.1 i i' (by omega) h'
        omega
theorem p_addressAt (h : zW σ b g k gs tl tx B V) (hB : B = 1740000) (hV : V ≤ 1000000) (x : Int32) : zP σ b g k gs tl tx B V (f_L_addressAt σ b x (b + 123)) (fun σ1 => f_X10_addressAt σ1 (b + 118) x) := by
  have hI := h.2.2.1
  have O := h.2.2.2.2.2.2.2
  obtain ⟨o8, r0, o2, pl, ad, qu, n, hs, hG⟩ := zC_open h.1 hI
  have h0 := zC0_of hs
  have hn := c_n8 h0
  have HM := fun σ => m_winm σ (x := x) (show n < 2147483648 by omega)
  have ST := fun σ1 (hM : zM σ1 b g k gs tl tx) => (show f_X10_stations σ1 (b + 118) = some (n32 n) by
    rw [m_stations hM.1, show z_I σ1 (b + 118 + 1) = g from hM.2.1, s_sum_n (c_qA h0)])
  by_cases hx : 0 ≤ x.toInt ∧ x.toInt < (n : Int)
  · obtain ⟨i, hi, rfl⟩ := n32_of2 (x := x) (k := n - 1) hx.1 (by omega) (by omega)
    have hi2 : i < n := by rw [n32_toInt (by omega)] at hx; omega
    have S := c_in h0 hi2
    have obi := c_ob h0 hi2
    have e0 := (c_S h0 hi2).1
    have hai := (c_ad h0 hi2).1
    refine zP_q h (r := 0) (v := n32 (ad i)) (w_addressAt O o8 (zA9_q h.1 ?_)) (fun σ1 hM => zAM_q hM ?_)
    · simp only [f_X9_addressAt, ↓zl_eq, ↓zb_eq, ↓zb2_eq, ↓zc_some, ↓zc_none, ↓zb_pre, ↓zb2_pre, ↓zc_pre, ↓zex_eq, ↓reduceIte, Option.isSome_some, Option.isSome_none, Option.getD_some, o8, r0, o2, S, obi, e0]
    · have G := m_gs hM.1 true true true rfl (show n32 1 = bi true from rfl) (show n32 1 = bi true from rfl)
      have T := (zM_thr hM (s_goes true true true)).1
      have HM1 := HM σ1
      rw [decide_eq_true hx] at HM1
      generalize hσ2 : z_sA σ1 (b + 118) (gu (z_I σ1 (b + 118)) 4 (s_goes true true true)) = σ2 at G T
      have e : z_I σ2 (b + 118 + 1) = g := T.2.1
      have LP : f_X10_addressAt_28 σ2 (b + 118) (n32 0) (n32 i) = some (n32 (ad i), σ2) := by
        unfold f_X10_addressAt_28
        have rk : ∀ t, t ≤ ad i → s_cnt (s_is g) t ≤ i := fun t ht => by
          obtain ⟨j, hj, e1, a1, a2⟩ := s_rank (c_qA h0) t (by omega)
          rcases Nat.lt_or_ge i j with h1 | h1
          · have := a1 i h1; omega
          · omega
        refine zloop_go (N := zN) (fun t => (n32 t, n32 (i - s_cnt (s_is g) t))) _ (ad i) (fun t ht => ?_) ?_ (by unfold zN; omega)
        · show b_X10_addressAt_28 σ2 (b + 118) (n32 t) (n32 (i - s_cnt (s_is g) t)) = some (.inl (n32 (t + 1), n32 (i - s_cnt (s_is g) (t + 1))))
          have OF := m_of T.1 (x := t) (w := 0) (by omega) (by decide)
          rw [e] at OF
          have k1 := rk t (by omega)
          have es : s_cnt (s_is g) (t + 1) = s_cnt (s_is g) t + (if s_is g t = true then 1 else 0) := rfl
          have A : f_X10_addressAt_41 σ2 (b + 118) (n32 t) (n32 (i - s_cnt (s_is g) t)) = some (.inl (n32 (t + 1), n32 (i - s_cnt (s_is g) t) - g (18 + 7 * t + 0))) := by
            simp only [f_X10_addressAt_41, ↓zl_eq, ↓zb_eq, ↓zb2_eq, ↓zc_some, ↓zc_none, ↓zb_pre, ↓zb2_pre, ↓zc_pre, ↓zex_eq, ↓reduceIte, Option.isSome_some, Option.isSome_none, Option.getD_some, n32_lit, T.1.1, OF, n32_add]
          unfold b_X10_addressAt_28
          rcases (c_qA h0).2.2.2 t (by omega) with z0 | ⟨z0, i2, hi2', hit⟩
          · have e3 : s_is g t = false := by unfold s_is; rw [z0]; rfl
            rw [A, if_pos T.1.1, n32_lit 0, OF, zb_eq, z0, if_pos rfl, ite_self]
            rw [es, e3, n32_sub (by omega)]
            simp
          · have e3 : s_is g t = true := by unfold s_is; rw [z0]; rfl
            have k2 := rk (t + 1) (by omega)
            rw [es, e3] at k2
            simp only [if_true] at k2
            have pos : (0 : Int32) < n32 (i - s_cnt (s_is g) t) := by
              rw [n32_0, n32_lt (by omega) (by omega)]; omega
            rw [if_pos pos, A, z0, es, e3, n32_sub (by omega)]
            simp only [if_true]
            rw [show i - s_cnt (s_is g) t - 1 = i - (s_cnt (s_is g) t + 1) by omega]
        · show b_X10_addressAt_28 σ2 (b + 118) (n32 (ad i)) (n32 (i - s_cnt (s_is g) (ad i))) = _
          obtain ⟨j, hj, e1, a1, a2⟩ := s_rank (c_qA h0) (ad i) (by omega)
          have k1 := rk (ad i) (Nat.le_refl _)
          have k2 : i ≤ j := by
            rcases Nat.lt_or_ge j i with h1 | h1
            · have := a2 j (Nat.le_refl _) (by omega)
              have := (c_qA h0).2.2.1 j i h1 hi2
              omega
            · exact h1
          have e9 : i - s_cnt (s_is g) (ad i) = 0 := by omega
          have OF := m_of T.1 (x := ad i) (w := 0) hai (by decide)
          rw [e, (c_ad h0 hi2).2] at OF
          rw [e9]
          unfold b_X10_addressAt_28
          rw [if_neg (by decide), if_pos T.1.1, n32_lit 0, OF, zb_eq, if_neg nn10]
          rfl
      have e5 : s_goes true true true = n32 0 := rfl
      rw [e5] at hσ2
      show f_X10_addressAt σ1 (b + 118) (n32 i) = some (n32 (ad i), z_sA σ1 (b + 118) (gu (z_I σ1 (b + 118)) 4 (n32 0)))
      rw [hσ2]
      simp only [f_X10_addressAt, ↓zl_eq, ↓zb_eq, ↓zb2_eq, ↓zc_some, ↓zc_none, ↓zb_pre, ↓zb2_pre, ↓zc_pre, ↓zex_eq, ↓reduceIte, Option.isSome_some, Option.isSome_none, Option.getD_some, n32_lit, i64_lit, hM.1.1, ST σ1 hM, HM1, G, bt0', Bool.and_self, LP]
  · have S := c_in0 h0 x hx
    refine zP_q h (r := 1) (v := 0) (x_addressAt2 _ O o8 (zA9_x h.1 ?_)) (fun σ1 hM => zAM_q hM ?_)
    · simp only [f_X9_addressAt, ↓zl_eq, ↓zb_eq, ↓zb2_eq, ↓zc_some, ↓zc_none, ↓zb_pre, ↓zb2_pre, ↓zc_pre, ↓zex_eq, ↓reduceIte, Option.isSome_some, Option.isSome_none, Option.getD_some, o8, r0, o2, S, Bool.false_eq_true]
    · have G := m_gs hM.1 false true true rfl (show n32 1 = bi true from rfl) (show n32 1 = bi true from rfl)
      have HM1 := HM σ1
      rw [decide_eq_false hx] at HM1
      simp only [f_X10_addressAt, ↓zl_eq, ↓zb_eq, ↓zb2_eq, ↓zc_some, ↓zc_none, ↓zb_pre, ↓zb2_pre, ↓zc_pre, ↓zex_eq, ↓reduceIte, Option.isSome_some, Option.isSome_none, Option.getD_some, n32_lit, i64_lit, hM.1.1, ST σ1 hM, HM1, G, bf0', Bool.false_and]
      rfl
end TOP
