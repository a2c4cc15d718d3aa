/-! WHAT THE CALLS ANSWER: questions -/
section TOP
variable {σ : zSt} {b k tl : Nat} {g : zG} {gs : Nat → zG} {tx : Nat → Int32} {B V : Nat}
theorem bt0 : (bi true = 0) = False := eq_false (by decide)
theorem bt0' : (bi true = n32 0) = False := eq_false (by decide)
theorem bf0' : (bi false = n32 0) = True := eq_true (by decide)
theorem p_setting (h : zW σ b g k gs tl tx B V) (hB : B = 1740000) (hV : V ≤ 1000000) (x : Int32) : zP σ b g k gs tl tx B V (f_L_setting σ b x (b + 123)) (fun σ1 => f_X10_setting σ1 (b + 118) x) := by
  have hI := h.2.2.1
  have O := h.2.2.2.2.2.2.2
  obtain ⟨o8, r0, o2, pl, ad, qu, n, hs, hG⟩ := zC_open h.1 hI
  by_cases hx : ((0 : Nat) : Int) ≤ x.toInt ∧ x.toInt ≤ ((8 : Nat) : Int)
  · have W := fun σ => c_win1 σ (by omega) (by omega) hx
    have W2 := fun σ => m_win1 σ (by omega) (by omega) hx
    obtain ⟨w, hw, rfl⟩ := n32_of2 hx.1 hx.2 (by omega)
    have S := c_settingValue hs (show w < 9 by omega)
    refine zP_q h (r := 0) (v := s_set g w) (w_setting O o8 (zA9_q h.1 ?_)) (fun σ1 hM => zAM_q hM ?_)
    · simp only [f_X9_setting, ↓zl_eq, ↓zb_eq, ↓zb2_eq, ↓zc_some, ↓zc_none, ↓zb_pre, ↓zb2_pre, ↓zc_pre, ↓zex_eq, ↓reduceIte, Option.isSome_some, Option.isSome_none, Option.getD_some, n32_lit, W, bt0', o8, r0, o2, S]
    · have G := m_gs hM.1 true true true rfl (show n32 1 = bi true from rfl) (show n32 1 = bi true from rfl)
      have T := (zM_thr hM (s_goes true true true)).1
      have S2 := m_settingOf T.1 (show w < 9 by omega)
      have e : z_I (z_sA σ1 (b + 118) (gu (z_I σ1 (b + 118)) 4 (s_goes true true true))) (b + 118 + 1) = g := T.2.1
      rw [e] at S2
      simp only [f_X10_setting, f_X10_setting_27, ↓zl_eq, ↓zb_eq, ↓zb2_eq, ↓zc_some, ↓zc_none, ↓zb_pre, ↓zb2_pre, ↓zc_pre, ↓zex_eq, ↓reduceIte, Option.isSome_some, Option.isSome_none, Option.getD_some, n32_lit, i64_lit, W2, hM.1.1, G, bt0', Bool.and_self, T.1.1, S2]
      rfl
  · have W := fun σ => c_win0 σ (by omega) (by omega) hx
    have W2 := fun σ => m_win0 σ (by omega) (by omega) hx
    refine zP_q h (r := 1) (v := 0) (x_setting0 _ O o8 (zA9_x h.1 ?_)) (fun σ1 hM => zAM_q hM ?_)
    · simp only [f_X9_setting, ↓zl_eq, ↓zb_eq, ↓zb2_eq, ↓zc_some, ↓zc_none, ↓zb_pre, ↓zb2_pre, ↓zc_pre, ↓zex_eq, ↓reduceIte, Option.isSome_some, Option.isSome_none, Option.getD_some, n32_lit, W, bf0']
    · have G := m_gs hM.1 false true true rfl (show n32 1 = bi true from rfl) (show n32 1 = bi true from rfl)
      simp only [f_X10_setting, f_X10_setting_27, ↓zl_eq, ↓zb_eq, ↓zb2_eq, ↓zc_some, ↓zc_none, ↓zb_pre, ↓zb2_pre, ↓zc_pre, ↓zex_eq, ↓reduceIte, Option.isSome_some, Option.isSome_none, Option.getD_some, n32_lit, i64_lit, W2, hM.1.1, G, bf0', Bool.false_and]
      rfl
theorem p_count (h : zW σ b g k gs tl tx B V) (hB : B = 1740000) (hV : V ≤ 1000000) (x : Int32) : zP σ b g k gs tl tx B V (f_L_count σ b x (b + 123)) (fun σ1 => f_X10_count σ1 (b + 118) x) := by
  have hI := h.2.2.1
  have O := h.2.2.2.2.2.2.2
  obtain ⟨o8, r0, o2, pl, ad, qu, n, hs, hG⟩ := zC_open h.1 hI
  have h0 := zC0_of hs
  by_cases hx : ((0 : Nat) : Int) ≤ x.toInt ∧ x.toInt ≤ ((6 : Nat) : Int)
  · have W := fun σ => c_win1 σ (by omega) (by omega) hx
    have W2 := fun σ => m_win1 σ (by omega) (by omega) hx
    obtain ⟨w, hw, rfl⟩ := n32_of2 hx.1 hx.2 (by omega)
    have S := c_value0 h0 (show w < 7 by omega)
    have r3 := hs.1.2.2.2.2.1
    have o8' := hs.1.2.2.2.2.2.2.2.2.2.2.2.2.2.2.2.2.2.2.2.2.2.1
    refine zP_q h (r := 0) (v := g (9 + w)) (w_count O o8 (zA9_q h.1 ?_)) (fun σ1 hM => zAM_q hM ?_)
    · simp only [f_X9_count, ↓zl_eq, ↓zb_eq, ↓zb2_eq, ↓zc_some, ↓zc_none, ↓zb_pre, ↓zb2_pre, ↓zc_pre, ↓zex_eq, ↓reduceIte, Option.isSome_some, Option.isSome_none, Option.getD_some, n32_lit, W, bt0', o8, r0, o2, r3, o8', S]
    · have G := m_gs hM.1 true true true rfl (show n32 1 = bi true from rfl) (show n32 1 = bi true from rfl)
      have T := (zM_thr hM (s_goes true true true)).1
      have e : z_I (z_sA σ1 (b + 118) (gu (z_I σ1 (b + 118)) 4 (s_goes true true true))) (b + 118 + 1) = g := T.2.1
      have T1 := T.1
      simp (disch := omega) only [f_X10_count, f_X10_count_31, ↓zl_eq, ↓zb_eq, ↓zb2_eq, ↓zc_some, ↓zc_none, ↓zb_pre, ↓zb2_pre, ↓zc_pre, ↓zex_eq, ↓reduceIte, Option.isSome_some, Option.isSome_none, Option.getD_some, n32_lit, i64_lit, W2, hM.1.1, G, bt0', Bool.and_self, T1.1, T1.2.1, T1.2.2.2.2.2.1, T1.2.2.2.2.2.2.2.2.2.1, n32_add, n32_ix, n32_toNat, e]
      rfl
  · have W := fun σ => c_win0 σ (by omega) (by omega) hx
    have W2 := fun σ => m_win0 σ (by omega) (by omega) hx
    refine zP_q h (r := 1) (v := 0) (x_count0 _ O o8 (zA9_x h.1 ?_)) (fun σ1 hM => zAM_q hM ?_)
    · simp only [f_X9_count, ↓zl_eq, ↓zb_eq, ↓zb2_eq, ↓zc_some, ↓zc_none, ↓zb_pre, ↓zb2_pre, ↓zc_pre, ↓zex_eq, ↓reduceIte, Option.isSome_some, Option.isSome_none, Option.getD_some, n32_lit, W, bf0']
    · have G := m_gs hM.1 false true true rfl (show n32 1 = bi true from rfl) (show n32 1 = bi true from rfl)
      simp only [f_X10_count, f_X10_count_31, ↓zl_eq, ↓zb_eq, ↓zb2_eq, ↓zc_some, ↓zc_none, ↓zb_pre, ↓zb2_pre, ↓zc_pre, ↓zex_eq, ↓reduceIte, Option.isSome_some, Option.isSome_none, Option.getD_some, n32_lit, i64_lit, W2, hM.1.1, G, bf0', Bool.false_and]
      rfl
theorem p_station (h : zW σ b g k gs tl tx B V) (hB : B = 1740000) (hV : V ≤ 1000000) (x y : Int32) : zP σ b g k gs tl tx B V (f_L_station σ b x y (b + 123)) (fun σ1 => f_X10_station σ1 (b + 118) x y) := by
  have hI := h.2.2.1
  have O := h.2.2.2.2.2.2.2
  obtain ⟨o8, r0, o2, pl, ad, qu, n, hs, hG⟩ := zC_open h.1 hI
  have h0 := zC0_of hs
  have q5 := s_I_5 hI
  rcases p_find (b := b) (k := k) (gs := gs) (tl := tl) (tx := tx) hs x with ⟨i, hi, rfl, F, FM⟩ | ⟨F, FM, _⟩
  · have hai := (c_ad h0 hi).1
    have obi := c_ob h0 hi
    by_cases hy : ((0 : Nat) : Int) ≤ y.toInt ∧ y.toInt ≤ ((6 : Nat) : Int)
    · have W := fun σ => c_win1 σ (by omega) (by omega) hy
      have W2 := fun σ => m_win1 σ (by omega) (by omega) hy
      obtain ⟨w, hw, rfl⟩ := n32_of2 hy.1 hy.2 (by omega)
      have S := c_value6 hs hi (show w < 7 by omega)
      refine zP_q h (r := 0) (v := s_stv g (ad i) w (s_nat g 5)) (w_station O o8 (zA9_q h.1 ?_)) (fun σ1 hM => zAM_q hM ?_)
      · simp only [f_X9_station, ↓zl_eq, ↓zb_eq, ↓zb2_eq, ↓zc_some, ↓zc_none, ↓zb_pre, ↓zb2_pre, ↓zc_pre, ↓zex_eq, ↓reduceIte, Option.isSome_some, Option.isSome_none, Option.getD_some, n32_lit, W, bt0', o8, r0, o2, F, obi, S]
      · have G := m_gs hM.1 true true true rfl rfl (show n32 1 = bi true from rfl)
        have T := (zM_thr hM (s_goes true true true)).1
        have e : z_I (z_sA σ1 (b + 118) (gu (z_I σ1 (b + 118)) 4 (s_goes true true true))) (b + 118 + 1) = g := T.2.1
        have S2 := m_stationOf T.1 (q := s_nat g 5) (by rw [e]; exact q5.2) q5.1 hai (show w < 7 by omega)
        rw [e] at S2
        simp only [f_X10_station, f_X10_station_32, ↓zl_eq, ↓zb_eq, ↓zb2_eq, ↓zc_some, ↓zc_none, ↓zb_pre, ↓zb2_pre, ↓zc_pre, ↓zex_eq, ↓reduceIte, Option.isSome_some, Option.isSome_none, Option.getD_some, n32_lit, i64_lit, W2, hM.1.1, FM σ1 hM, G, bt0', Bool.and_self, T.1.1, S2]
        rfl
    · have W := fun σ => c_win0 σ (by omega) (by omega) hy
      have W2 := fun σ => m_win0 σ (by omega) (by omega) hy
      refine zP_q h (r := 2) (v := 0) (x_station0 _ O o8 (zA9_x h.1 ?_)) (fun σ1 hM => zAM_q hM ?_)
      · simp only [f_X9_station, ↓zl_eq, ↓zb_eq, ↓zb2_eq, ↓zc_some, ↓zc_none, ↓zb_pre, ↓zb2_pre, ↓zc_pre, ↓zex_eq, ↓reduceIte, Option.isSome_some, Option.isSome_none, Option.getD_some, n32_lit, W, bf0', o8, r0, o2, F]
      · have G := m_gs hM.1 true false true rfl rfl (show n32 1 = bi true from rfl)
        simp only [f_X10_station, f_X10_station_32, ↓zl_eq, ↓zb_eq, ↓zb2_eq, ↓zc_some, ↓zc_none, ↓zb_pre, ↓zb2_pre, ↓zc_pre, ↓zex_eq, ↓reduceIte, Option.isSome_some, Option.isSome_none, Option.getD_some, n32_lit, i64_lit, W2, hM.1.1, FM σ1 hM, G, bf0', Bool.and_false, Bool.false_and]
        rfl
  · refine zP_q h (r := 1) (v := 0) (x_station3 _ O o8 (zA9_x h.1 ?_)) (fun σ1 hM => zAM_q hM ?_)
    · simp only [f_X9_station, ↓zl_eq, ↓zb_eq, ↓zb2_eq, ↓zc_some, ↓zc_none, ↓zb_pre, ↓zb2_pre, ↓zc_pre, ↓zex_eq, ↓reduceIte, Option.isSome_some, Option.isSome_none, Option.getD_some, o8, r0, o2, F, Bool.false_eq_true]
    · have W2 : ∃ c, f_X10_in σ1 y.toInt64 (Int64.ofNat 0) (Int64.ofNat 6) = some (bi c) := ⟨_, m_inN σ1 y (by omega) (by omega)⟩
      obtain ⟨c, W2⟩ := W2
      have G := m_gs hM.1 false c true rfl rfl (show n32 1 = bi true from rfl)
      simp only [f_X10_station, f_X10_station_32, ↓zl_eq, ↓zb_eq, ↓zb2_eq, ↓zc_some, ↓zc_none, ↓zb_pre, ↓zb2_pre, ↓zc_pre, ↓zex_eq, ↓reduceIte, Option.isSome_some, Option.isSome_none, Option.getD_some, n32_lit, i64_lit, W2, hM.1.1, FM σ1 hM, G, bf0', Bool.false_and]
      rfl
theorem c_has {a : Nat} (hL : zLs σ a) {q : Nat} (hq : q ≤ 100) (h1 : z_I σ (a + 2) 1 = n32 q) (x : Int32) : f_X3_has σ (a + 2) x = some (bi (decide (0 ≤ x.toInt ∧ x.toInt < q))) := by
  have o2 := hL.2.2.2.2.2.2.2.2.1
  have z0 : (n32 0).toInt = 0 := rfl
  simp only [f_X3_has, f_X3_has_16, f_X3_has_17, n32_lit, o2, h1, bl0, bl1, if_true]
  by_cases c1 : x < n32 0
  · rw [if_pos c1]
    rw [Int32.lt_iff_toInt_lt] at c1
    rw [decide_eq_false (by omega)]; rfl
  · rw [if_neg c1]
    rw [Int32.lt_iff_toInt_lt] at c1
    by_cases c2 : n32 q ≤ x
    · rw [if_pos c2]
      rw [Int32.le_iff_toInt_le, n32_toInt (by omega)] at c2
      rw [decide_eq_false (by omega)]; rfl
    · rw [if_neg c2]
      rw [Int32.le_iff_toInt_le, n32_toInt (by omega)] at c2
      rw [decide_eq_true (by omega)]; rfl
theorem p_message (h : zW σ b g k gs tl tx B V) (hB : B = 1740000) (hV : V ≤ 1000000) (x y : Int32) : zP σ b g k gs tl tx B V (f_L_message σ b x y (b + 123)) (fun σ1 => f_X10_message σ1 (b + 118) x y) := by
  have hI := h.2.2.1
  have O := h.2.2.2.2.2.2.2
  obtain ⟨o8, r0, o2, pl, ad, qu, n, hs, hG⟩ := zC_open h.1 hI
  have h0 := zC0_of hs
  obtain ⟨q5, q52⟩ := s_I_5 hI
  have r1 := hs.1.2.2.1
  have o3 := hs.1.2.2.2.2.2.2.2.2.1
  have eM : z_I σ (b + 1 + 2) 1 = n32 (s_nat g 5) := hs.2.2.1.2.2.1.1.trans q52
  have H := c_has hs.1 q5 eM x
  have HM := fun σ => m_winm σ (x := x) (show s_nat g 5 < 2147483648 by omega)
  by_cases hx : 0 ≤ x.toInt ∧ x.toInt < (s_nat g 5 : Int)
  · rw [decide_eq_true hx] at H
    by_cases hy : ((0 : Nat) : Int) ≤ y.toInt ∧ y.toInt ≤ ((4 : Nat) : Int)
    · have W := fun σ => c_win1 σ (by omega) (by omega) hy
      have W2 := fun σ => m_win1 σ (by omega) (by omega) hy
      obtain ⟨w, hw, rfl⟩ := n32_of2 hy.1 hy.2 (by omega)
      obtain ⟨m, hm, rfl⟩ := n32_of2 (x := x) (k := s_nat g 5 - 1) hx.1 (by omega) (by omega)
      have hm2 : m < s_nat g 5 := by rw [n32_toInt (by omega)] at hx; omega
      have S := c_value hs.1 h0.2.2.2.1.1 (m := m) (w := w) (by omega) (by omega)
      rw [h0.2.2.2.2.1.2 m w hm2 (by omega)] at S
      refine zP_q h (r := 0) (v := g (242 + 5 * m + w)) (w_message O o8 (zA9_q h.1 ?_)) (fun σ1 hM => zAM_q hM ?_)
      · simp only [f_X9_message, ↓zl_eq, ↓zb_eq, ↓zb2_eq, ↓zc_some, ↓zc_none, ↓zb_pre, ↓zb2_pre, ↓zc_pre, ↓zex_eq, ↓reduceIte, Option.isSome_some, Option.isSome_none, Option.getD_some, n32_lit, W, bt0', o8, r0, o2, r1, o3, H, S]
      · have G := m_gs hM.1 true true true rfl rfl (show n32 1 = bi true from rfl)
        have T := (zM_thr hM (s_goes true true true)).1
        have e : z_I (z_sA σ1 (b + 118) (gu (z_I σ1 (b + 118)) 4 (s_goes true true true))) (b + 118 + 1) = g := T.2.1
        have e1 : z_I σ1 (b + 118 + 1) 5 = n32 (s_nat g 5) := by have := hM.2.1; rw [show z_I σ1 (b + 118 + 1) = g from this]; exact q52
        have S2 := m_ofM T.1 (x := m) (w := w) (by omega) (by omega)
        rw [e] at S2
        have HM1 := HM σ1
        rw [decide_eq_true hx] at HM1
        have t1 := hM.1
        simp (disch := omega) only [f_X10_message, f_X10_message_42, ↓zl_eq, ↓zb_eq, ↓zb2_eq, ↓zc_some, ↓zc_none, ↓zb_pre, ↓zb2_pre, ↓zc_pre, ↓zex_eq, ↓reduceIte, Option.isSome_some, Option.isSome_none, Option.getD_some, n32_lit, i64_lit, W2, t1.1, t1.2.1, t1.2.2.2.2.2.1, t1.2.2.2.2.2.2.2.2.2.1, n32_ix, n32_toNat, e1, HM1, G, bt0', Bool.and_self, T.1.1, S2]
        rfl
    · have W := fun σ => c_win0 σ (by omega) (by omega) hy
      have W2 := fun σ => m_win0 σ (by omega) (by omega) hy
      refine zP_q h (r := 2) (v := 0) (x_message0 _ O o8 (zA9_x h.1 ?_)) (fun σ1 hM => zAM_q hM ?_)
      · simp only [f_X9_message, ↓zl_eq, ↓zb_eq, ↓zb2_eq, ↓zc_some, ↓zc_none, ↓zb_pre, ↓zb2_pre, ↓zc_pre, ↓zex_eq, ↓reduceIte, Option.isSome_some, Option.isSome_none, Option.getD_some, n32_lit, W, bt0', bf0', o8, r0, o2, r1, o3, H]
      · have G := m_gs hM.1 true false true rfl rfl (show n32 1 = bi true from rfl)
        have e1 : z_I σ1 (b + 118 + 1) 5 = n32 (s_nat g 5) := by have := hM.2.1; rw [show z_I σ1 (b + 118 + 1) = g from this]; exact q52
        have HM1 := HM σ1
        rw [decide_eq_true hx] at HM1
        have t1 := hM.1
        simp (disch := omega) only [f_X10_message, f_X10_message_42, ↓zl_eq, ↓zb_eq, ↓zb2_eq, ↓zc_some, ↓zc_none, ↓zb_pre, ↓zb2_pre, ↓zc_pre, ↓zex_eq, ↓reduceIte, Option.isSome_some, Option.isSome_none, Option.getD_some, n32_lit, i64_lit, W2, t1.1, t1.2.1, t1.2.2.2.2.2.1, t1.2.2.2.2.2.2.2.2.2.1, n32_ix, n32_toNat, e1, HM1, G, bf0', Bool.and_false, Bool.false_and]
        rfl
  · rw [decide_eq_false hx] at H
    refine zP_q h (r := 1) (v := 0) (x_message2 _ O o8 (zA9_x h.1 ?_)) (fun σ1 hM => zAM_q hM ?_)
    · simp only [f_X9_message, ↓zl_eq, ↓zb_eq, ↓zb2_eq, ↓zc_some, ↓zc_none, ↓zb_pre, ↓zb2_pre, ↓zc_pre, ↓zex_eq, ↓reduceIte, Option.isSome_some, Option.isSome_none, Option.getD_some, n32_lit, bf0', o8, r0, o2, r1, o3, H]
    · have W2 : ∃ c, f_X10_in σ1 y.toInt64 (Int64.ofNat 0) (Int64.ofNat 4) = some (bi c) := ⟨_, m_inN σ1 y (by omega) (by omega)⟩
      obtain ⟨c, W2⟩ := W2
      have G := m_gs hM.1 false c true rfl rfl (show n32 1 = bi true from rfl)
      have e1 : z_I σ1 (b + 118 + 1) 5 = n32 (s_nat g 5) := by have := hM.2.1; rw [show z_I σ1 (b + 118 + 1) = g from this]; exact q52
      have HM1 := HM σ1
      rw [decide_eq_false hx] at HM1
      have t1 := hM.1
      simp (disch := omega) only [f_X10_message, f_X10_message_42, ↓zl_eq, ↓zb_eq, ↓zb2_eq, ↓zc_some, ↓zc_none, ↓zb_pre, ↓zb2_pre, ↓zc_pre, ↓zex_eq, ↓reduceIte, Option.isSome_some, Option.isSome_none, Option.getD_some, n32_lit, i64_lit, W2, t1.1, t1.2.1, t1.2.2.2.2.2.1, t1.2.2.2.2.2.2.2.2.2.1, n32_ix, n32_toNat, e1, HM1, G, bf0', Bool.false_and]
      rfl
end TOP
