section TOP
variable {σ : zSt} {b k tl : Nat} {g : zG} {gs : Nat → zG} {tx : Nat → Int32} {B V : Nat}
/-- where the answer is yes or no -/
def zPb (σ : zSt) (b : Nat) (g : zG) (k : Nat) (gs : Nat → zG) (tl : Nat) (tx : Nat → Int32) (B V : Nat) (fc : Option (Int32 × zSt)) (fm : zSt → Option (Int32 × zSt)) : Prop :=
  ∃ r c g' k' gs' tl' tx', zAC σ b fc r (bi c) g' k' gs' tl' tx' ∧ (∀ σ1, zM σ1 b g k gs tl tx → zAM σ1 b (fm σ1) r (bi c) g' k' gs' tl' tx') ∧ s_I g' B (V + 300) ∧ (∀ i, i < k' → s_I (gs' i) B (V + 300)) ∧ k' ≤ 4 ∧ tl' ≤ 120 ∧ ∀ j, j < tl' → ∃ c, c < 128 ∧ tx' j = n32 c
theorem zPb_q (h : zW σ b g k gs tl tx B V) {fc : Option (Int32 × zSt)} {fm : zSt → Option (Int32 × zSt)} {r : Int32} {c : Bool} (hc : zAC σ b fc r (bi c) g k gs tl tx) (hm : ∀ σ1, zM σ1 b g k gs tl tx → zAM σ1 b (fm σ1) r (bi c) g k gs tl tx) : zPb σ b g k gs tl tx B V fc fm :=
  ⟨r, c, g, k, gs, tl, tx, hc, hm, s_I_w h.2.2.1 (Nat.le_refl _) (by omega), fun i hi => s_I_w (h.2.2.2.1 i hi) (Nat.le_refl _) (by omega), h.2.2.2.2.1, h.2.2.2.2.2.1, h.2.2.2.2.2.2.1⟩
theorem zPb_s (h : zW σ b g k gs tl tx B V) {fc : Option (Int32 × zSt)} {fm : zSt → Option (Int32 × zSt)} {c : Bool} {g' : zG} (hc : zAC σ b fc 0 (bi c) g' (s_pk k) (s_pg k gs g) tl tx) (hm : ∀ σ1, zM σ1 b g k gs tl tx → zAM σ1 b (fm σ1) 0 (bi c) g' (s_pk k) (s_pg k gs g) tl tx) (hI : s_I g' B (V + 300)) : zPb σ b g k gs tl tx B V fc fm :=
  ⟨0, c, g', s_pk k, s_pg k gs g, tl, tx, hc, hm, hI, fun i hi => s_I_w (s_pg_I h.2.2.2.2.1 h.2.2.1 h.2.2.2.1 i hi) (Nat.le_refl _) (by omega), s_pk4 h.2.2.2.2.1, h.2.2.2.2.2.1, h.2.2.2.2.2.2.1⟩
theorem p_isNoisy' (h : zW σ b g k gs tl tx B V) (hB : B = 1740000) (hV : V ≤ 1000000) (x : Int32) : zPb σ b g k gs tl tx B V (f_L_isNoisy σ b x (b + 123)) (fun σ1 => f_X10_isNoisy σ1 (b + 118) x) := by
  obtain ⟨r, c, h1, h2⟩ := p_isNoisy h hB hV x
  exact zPb_q h h1 h2
theorem zC_hs (h : zC σ b g k gs tl tx) : z_R σ b 2 = some (b + 39) ∧ z_ob σ (b + 39) 1 = true := by
  obtain ⟨hl, hsv, _⟩ := h.2.2.2.1
  exact ⟨h.1.2.2.2.1, hsv.1.1⟩
theorem p_setOn (h : zW σ b g k gs tl tx B V) (hB : B = 1740000) (hV : V ≤ 1000000) (x : Int32) (on : Bool) : zPb σ b g k gs tl tx B V (f_L_setOn σ b x (bi on) (b + 123)) (fun σ1 => f_X10_setOn σ1 (b + 118) x (bi on)) := by
  have hI := h.2.2.1
  have O := h.2.2.2.2.2.2.2
  obtain ⟨o8, r0, o2, pl, ad, qu, n, hs, hG⟩ := zC_open h.1 hI
  have h0 := zC0_of hs
  rcases p_find (b := b) (k := k) (gs := gs) (tl := tl) (tx := tx) hs x with ⟨i, hi, rfl, F, FM⟩ | ⟨F, FM, _⟩
  · have hai := c_ad h0 hi
    have obi := c_ob h0 hi
    have st := s_I_sta hI (ad i) hai.1 hai.2
    obtain ⟨σ1, ES, C1, n1, s1, E1, E2⟩ := zC_save h.1 (s_I_num hI)
    obtain ⟨r2, oh⟩ := zC_hs h.1
    have h1 := zC0_reg (zEq_s E1 (by omega) (by omega)) h0
    have G1 := qG_reg (zEq_s E1 (by omega) (by omega)) hG
    obtain ⟨σ2, EW, A⟩ := c_switch h1 hi on
    have sn : ∀ {j : Nat}, j ≠ 4 → j ≠ 18 + 7 * ad i + 1 → j ≠ 18 + 7 * ad i + 2 → s_sw g (ad i) on j = g j := fun a b c => by
      unfold s_sw
      split
      · rw [gu_ne _ _ b]
      · split
        · rw [gu_ne _ _ a, gu_ne _ _ c, gu_ne _ _ b]
        · rw [gu_ne _ _ c, gu_ne _ _ b]
    have G2 : qG σ2 (b + 1) (s_sw g (ad i) on) := qG_congr A.2.1 (sn (by omega) (by omega) (by omega)) (sn (by omega) (by omega) (by omega)) (fun j hj => sn (by omega) (by omega) (by omega)) G1
    have h2 := zC0_step h1 A
    have o8' : z_ob σ1 b 8 = true := by rw [z_ob_eq s1]; exact o8
    have o2' : z_ob σ1 (b + 1) 2 = true := by rw [z_ob_eq s1]; exact o2
    have r0' : z_R σ1 b 0 = some (b + 1) := C1.1.2.1
    have e1 := (c_S h0 hi).2.1
    have eb : g (18 + 7 * ad i + 1) = bi (decide (g (18 + 7 * ad i + 1) = n32 1)) := by
      rcases st.1 with r | r
      · rw [r, d01]; rfl
      · rw [r, d11]; rfl
    generalize hhad : decide (g (18 + 7 * ad i + 1) = n32 1) = had at eb
    refine zPb_s h (c := had) (g' := s_sw g (ad i) on) (w_setOn O o8 (zA9_line (σ2 := σ2) C1 n1 E2 (zFw_of A.1) (zLn_of h2 G2) ?_)) (fun σ1 hM => ?_) (s_I_w (s_I_sw hI hai.1 hai.2 on) (Nat.le_refl _) (by omega))
    · simp only [f_X9_setOn, ↓zl_eq, ↓zb_eq, ↓zb2_eq, ↓zc_some, ↓zc_none, ↓zb_pre, ↓zb2_pre, ↓zc_pre, ↓zex_eq, ↓reduceIte, Option.isSome_some, Option.isSome_none, Option.getD_some, o8, r0, o2, F, obi, e1, eb, r2, oh, ES, o8', r0', o2', EW, bi_bl]
    · obtain ⟨σ', E, M, F', t⟩ := zM_gos hM h.2.2.2.2.1
      have G := m_gs hM.1 true true true (show bi true = bi true from rfl) (show n32 1 = bi true from rfl) (show n32 1 = bi true from rfl)
      refine zAM_new M F' t ?_
      have sg : s_goes true true true = n32 0 := rfl
      rw [sg] at G
      have oo : z_ob (z_sA σ1 (b + 118) (gu (z_I σ1 (b + 118)) 4 (n32 0))) (b + 118) 9 = true := hM.1.1
      have mg : z_I σ' (b + 118 + 1) = g := M.2.1
      have OF := m_of M.1 (x := ad i) (w := 1) hai.1 (by decide)
      have ST := m_setOn35 M.1 (x := ad i) hai.1 had on
      rw [mg] at OF ST
      have es := s_sw_eq (s_I_sta hI) (s_I_hon hI) hai.1 hai.2 on
      rw [hhad] at es
      rw [es] at ST
      have T : f_X10_setOn σ1 (b + 118) (n32 (ad i)) (bi on) = f_X10_setOn_35 σ' (b + 118) (n32 (ad i)) (bi on) (bi had) := by
        simp only [f_X10_setOn, ↓zl_eq, ↓zb_eq, ↓zb2_eq, ↓zc_some, ↓zc_none, ↓zb_pre, ↓zb2_pre, ↓zc_pre, ↓zex_eq, ↓reduceIte, Option.isSome_some, Option.isSome_none, Option.getD_some, n32_lit, hM.1.1, FM σ1 hM, G, Bool.and_self, bt0', oo, E, M.1.1, OF]
        rw [← hhad]
        by_cases hc : g (18 + 7 * ad i + 1) = n32 1
        · rw [if_pos hc, hc, d11]; rfl
        · rw [if_neg hc, decide_eq_false hc]; rfl
      show f_X10_setOn σ1 (b + 118) (n32 (ad i)) (bi on) = _
      rw [T, ST]
  · refine zPb_q h (r := 1) (c := false) (x_setOn3 _ O o8 (zA9_x h.1 ?_)) (fun σ1 hM => zAM_q hM ?_)
    · simp only [f_X9_setOn, ↓zl_eq, ↓zb_eq, ↓zb2_eq, ↓zc_some, ↓zc_none, ↓zb_pre, ↓zb2_pre, ↓zc_pre, ↓zex_eq, ↓reduceIte, Option.isSome_some, Option.isSome_none, Option.getD_some, o8, r0, o2, F, Bool.false_eq_true]
    · have G := m_gs hM.1 false true true rfl (show n32 1 = bi true from rfl) (show n32 1 = bi true from rfl)
      simp only [f_X10_setOn, ↓zl_eq, ↓zb_eq, ↓zb2_eq, ↓zc_some, ↓zc_none, ↓zb_pre, ↓zb2_pre, ↓zc_pre, ↓zex_eq, ↓reduceIte, Option.isSome_some, Option.isSome_none, Option.getD_some, n32_lit, hM.1.1, FM σ1 hM, G, bf0', Bool.false_and]
      rfl
theorem m_inx (σ : zSt) (x y z : Int32) : f_X10_in σ x.toInt64 y.toInt64 z.toInt64 = some (bi (decide (y.toInt ≤ x.toInt ∧ x.toInt ≤ z.toInt))) := by
  rw [m_in64, ← Bool.decide_and]
  congr 2
  apply decide_eq_decide.2
  rw [Int64.le_iff_toInt_le, Int64.le_iff_toInt_le, Int32.toInt_toInt64, Int32.toInt_toInt64, Int32.toInt_toInt64]
theorem i64_n (k : Nat) (h : k < 2147483648) : Int64.ofNat k = (n32 k).toInt64 := by
  rw [← Int64.toInt_inj, Int32.toInt_toInt64, n32_toInt h, Int64.toInt_ofNat_of_lt (by omega)]
theorem p_addNoise (h : zW σ b g k gs tl tx B V) (hB : B = 1740000) (hV : V ≤ 1000000) (x y : Int32) : zP σ b g k gs tl tx B V (f_L_addNoise σ b x y (b + 123)) (fun σ1 => f_X10_addNoise σ1 (b + 118) x y) := by
  have hI := h.2.2.1
  have O := h.2.2.2.2.2.2.2
  obtain ⟨o8, r0, o2, pl, ad, qu, n, hs, hG⟩ := zC_open h.1 hI
  have h0 := zC0_of hs
  obtain ⟨q5, q52⟩ := s_I_5 hI
  obtain ⟨z, hz, h6⟩ := s_I_6 hI
  have e5 : z_I σ (b + 1 + 5) 2 = n32 z := h0.2.2.2.2.2.1.1.trans h6
  have rr := hs.1.2.2.2.1
  have o5 := hs.1.2.2.2.2.2.2.2.2.2.2.2.2.2.2.1
  have z0 : (n32 0).toInt = 0 := rfl
  have zm : (n32 1000000).toInt = 1000000 := n32_toInt (by omega)
  have X1 : f_X9_isWithin σ y (n32 0) (n32 1000000) = some (bi (decide (0 ≤ y.toInt ∧ y.toInt ≤ 1000000))) := by rw [c_isWithin, z0, zm]
  have X2 : f_X9_isWithin σ x (n32 0) y = some (bi (decide (0 ≤ x.toInt ∧ x.toInt ≤ y.toInt))) := by rw [c_isWithin, z0]
  have Y1 : ∀ σ, f_X10_in σ x.toInt64 (Int64.ofNat 0) y.toInt64 = some (bi (decide (0 ≤ x.toInt ∧ x.toInt ≤ y.toInt))) := fun σ => by rw [i64_n 0 (by omega), m_inx, z0]
  have Y2 : ∀ σ, f_X10_in σ y.toInt64 x.toInt64 (Int64.ofNat 1000000) = some (bi (decide (x.toInt ≤ y.toInt ∧ y.toInt ≤ 1000000))) := fun σ => by rw [i64_n 1000000 (by omega), m_inx, zm]
  have isF : f_X4_isFull σ (b + 1 + 5) = some (bi (!decide (z < 20))) := by
    simp (disch := omega) only [f_X4_isFull, f_X4_isFull_14, ↓zl_eq, ↓zb_eq, ↓zb2_eq, ↓zc_some, ↓zc_none, ↓zb_pre, ↓zb2_pre, ↓zc_pre, ↓zex_eq, ↓reduceIte, Option.isSome_some, Option.isSome_none, Option.getD_some, n32_lit, o5, e5, n32_lt, bl0, bl1]
    by_cases hc : z < 20
    · rw [if_pos hc, decide_eq_true hc]; rfl
    · rw [if_neg hc, decide_eq_false hc]; rfl
  have loud : ∀ σ1, zM σ1 b g k gs tl tx → ∀ s0 s1, f_X10_addNoise_30 σ1 (b + 118) x y s0 s1 = f_X10_addNoise_47 σ1 (b + 118) x y (bi (decide (z < 20))) s0 s1 := by
    intro σ1 hM s0 s1
    have e1 : z_I σ1 (b + 118 + 1) 6 = n32 z := by have := hM.2.1; rw [show z_I σ1 (b + 118 + 1) = g from this]; exact h6
    have t1 := hM.1
    simp (disch := omega) only [f_X10_addNoise_30, ↓zl_eq, ↓zb_eq, ↓zb2_eq, ↓zc_some, ↓zc_none, ↓zb_pre, ↓zb2_pre, ↓zc_pre, ↓zex_eq, ↓reduceIte, Option.isSome_some, Option.isSome_none, Option.getD_some, n32_lit, t1.1, t1.2.1, t1.2.2.2.2.2.1, t1.2.2.2.2.2.2.2.2.2.1, n32_ix, n32_toNat, e1, n32_le]
    by_cases hc : z < 20
    · rw [if_neg (by omega), decide_eq_true hc]; rfl
    · rw [if_pos (by omega), decide_eq_false hc]; rfl
  by_cases hxy : (0 ≤ x.toInt ∧ x.toInt ≤ y.toInt) ∧ y.toInt ≤ 1000000
  · rw [decide_eq_true (show 0 ≤ y.toInt ∧ y.toInt ≤ 1000000 by omega)] at X1
    rw [decide_eq_true (show 0 ≤ x.toInt ∧ x.toInt ≤ y.toInt by omega)] at X2
    have Z1 := fun σ => (Y1 σ).trans (by rw [decide_eq_true (show 0 ≤ x.toInt ∧ x.toInt ≤ y.toInt by omega)])
    have Z2 := fun σ => (Y2 σ).trans (by rw [decide_eq_true (show x.toInt ≤ y.toInt ∧ y.toInt ≤ 1000000 by omega)])
    by_cases hz20 : z < 20
    · obtain ⟨σ1, ES, C1, n1, s1, E1, E2⟩ := zC_save h.1 (s_I_num hI)
      obtain ⟨r2, oh⟩ := zC_hs h.1
      have h1 := zC0_reg (zEq_s E1 (by omega) (by omega)) h0
      have G1 := qG_reg (zEq_s E1 (by omega) (by omega)) hG
      obtain ⟨σ2, EN, A, A5⟩ := c_addNoise h1 q5 hz20 h6 x y
      have h2 := zC0_step h1 A
      have sn : ∀ {j : Nat}, j ≠ 6 → (j < 742 ∨ 782 ≤ j) → s_an g z x y j = g j := fun a b => s_an_ne g z x y a (by omega) (by omega)
      have G2 : qG σ2 (b + 1) (s_an g z x y) := qG_congr A.2.1 (sn (by omega) (by omega)) (sn (by omega) (by omega)) (fun j hj => sn (by omega) (by omega)) G1
      have o8' : z_ob σ1 b 8 = true := by rw [z_ob_eq s1]; exact o8
      have o2' : z_ob σ1 (b + 1) 2 = true := by rw [z_ob_eq s1]; exact o2
      have o5' : z_ob σ1 (b + 1 + 5) 4 = true := by rw [z_ob_eq s1]; exact o5
      have r0' : z_R σ1 b 0 = some (b + 1) := C1.1.2.1
      have rr' := h1.1.2.2.2.1
      have eo : z_ob σ2 = z_ob σ1 := z_ob_eq A.1.2.1
      have eR : z_R σ2 = z_R σ1 := A.1.2.2.1
      rw [decide_eq_true hz20] at isF loud
      refine zP_s h (v := n32 (z + 1)) (g' := s_an g z x y) (w_addNoise O o8 (zA9_line (σ2 := σ2) C1 n1 E2 (zFw_of A.1) (zLn_of h2 G2) ?_)) (fun σ1 hM => ?_) (s_I_w (s_I_an hI hz20 x y) (Nat.le_refl _) (by omega))
      · simp only [f_X9_addNoise, ↓zl_eq, ↓zb_eq, ↓zb2_eq, ↓zc_some, ↓zc_none, ↓zb_pre, ↓zb2_pre, ↓zc_pre, ↓zex_eq, ↓reduceIte, Option.isSome_some, Option.isSome_none, Option.getD_some, n32_lit, X1, X2, bt0', bf0', Bool.not_true, o8, r0, o2, rr, o5, isF, r2, oh, ES, o8', r0', o2', rr', o5', EN, eo, eR, A5]
      · obtain ⟨σ', E, M, F', t⟩ := zM_gos hM h.2.2.2.2.1
        have G := m_gs hM.1 true true true (show bi true = bi true from rfl) (show bi true = bi true from rfl) (show n32 1 = bi true from rfl)
        refine zAM_new M F' t ?_
        have sg : s_goes true true true = n32 0 := rfl
        rw [sg] at G
        have oo : z_ob (z_sA σ1 (b + 118) (gu (z_I σ1 (b + 118)) 4 (n32 0))) (b + 118) 9 = true := hM.1.1
        have f1 : b + 118 + 1 = b + 119 := rfl
        have m1 := M.1
        have mg := M.2.1
        unfold zMs at m1
        rw [f1] at m1
        have T : f_X10_addNoise σ1 (b + 118) x y = f_X10_addNoise_47 σ1 (b + 118) x y (bi true) (bi true) (some (b + 118)) := by
          rw [← loud σ1 hM]
          simp only [f_X10_addNoise, ↓zl_eq, ↓zb_eq, ↓zb2_eq, ↓zc_some, ↓zc_none, ↓zb_pre, ↓zb2_pre, ↓zc_pre, ↓zex_eq, ↓reduceIte, Option.isSome_some, Option.isSome_none, Option.getD_some, n32_lit, i64_lit, Z1, Z2, bt0']
          rfl
        have e6a : z + 1 = z + 1 := rfl
        show f_X10_addNoise σ1 (b + 118) x y = _
        rw [T]
        unfold s_an
        have c1 : gu g (742 + 2 * z) x 6 = n32 z := by rw [gu_ne _ _ (by omega)]; exact h6
        have c2 : gu (gu g (742 + 2 * z) x) (742 + 2 * z + 1) y 6 = n32 z := by rw [gu_ne _ _ (by omega), gu_ne _ _ (by omega)]; exact h6
        simp (disch := omega) only [f_X10_addNoise_47, ↓zl_eq, ↓zb_eq, ↓zb2_eq, ↓zc_some, ↓zc_none, ↓zb_pre, ↓zb2_pre, ↓zc_pre, ↓zex_eq, ↓reduceIte, Option.isSome_some, Option.isSome_none, Option.getD_some, n32_lit, hM.1.1, G, Bool.and_self, bt0', oo, E, m1.1, m1.2.1, m1.2.2.2.2.2.1, m1.2.2.2.2.2.2.2.2.2.1, n32_ix, n32_toNat, mg, h6, c1, c2, n32_mul, n32_add, z_pI_eq, z_ob_sA, z_R_sA, z_ar_sA, z_ln_sA, z_I_sA, z_sA_sA, gu_same]
    · rw [decide_eq_false hz20] at isF loud
      refine zP_q h (r := 2) (v := 0) (x_addNoise1 _ O o8 (zA9_x h.1 ?_)) (fun σ1 hM => zAM_q hM ?_)
      · simp only [f_X9_addNoise, ↓zl_eq, ↓zb_eq, ↓zb2_eq, ↓zc_some, ↓zc_none, ↓zb_pre, ↓zb2_pre, ↓zc_pre, ↓zex_eq, ↓reduceIte, Option.isSome_some, Option.isSome_none, Option.getD_some, n32_lit, X1, X2, bt0', Bool.not_false, o8, r0, o2, rr, o5, isF]
      · have G := m_gs hM.1 true false true (show bi true = bi true from rfl) (show bi false = bi false from rfl) (show n32 1 = bi true from rfl)
        have T : f_X10_addNoise σ1 (b + 118) x y = f_X10_addNoise_47 σ1 (b + 118) x y (bi false) (bi true) (some (b + 118)) := by
          rw [← loud σ1 hM]
          simp only [f_X10_addNoise, ↓zl_eq, ↓zb_eq, ↓zb2_eq, ↓zc_some, ↓zc_none, ↓zb_pre, ↓zb2_pre, ↓zc_pre, ↓zex_eq, ↓reduceIte, Option.isSome_some, Option.isSome_none, Option.getD_some, n32_lit, i64_lit, Z1, Z2, bt0']
          rfl
        show f_X10_addNoise σ1 (b + 118) x y = _
        rw [T]
        simp only [f_X10_addNoise_47, ↓zl_eq, ↓zb_eq, ↓zb2_eq, ↓zc_some, ↓zc_none, ↓zb_pre, ↓zb2_pre, ↓zc_pre, ↓zex_eq, ↓reduceIte, Option.isSome_some, Option.isSome_none, Option.getD_some, n32_lit, hM.1.1, G, bf0', Bool.and_false, Bool.false_and]
        rfl
  · refine zP_q h (r := 1) (v := 0) (x_addNoise0 _ O o8 (zA9_x h.1 ?_)) (fun σ1 hM => zAM_q hM ?_)
    · by_cases hc : 0 ≤ y.toInt ∧ y.toInt ≤ 1000000
      · rw [decide_eq_true hc] at X1
        rw [decide_eq_false (by omega)] at X2
        simp only [f_X9_addNoise, f_X9_addNoise_19, ↓zl_eq, ↓zb_eq, ↓zb2_eq, ↓zc_some, ↓zc_none, ↓zb_pre, ↓zb2_pre, ↓zc_pre, ↓zex_eq, ↓reduceIte, Option.isSome_some, Option.isSome_none, Option.getD_some, n32_lit, X1, X2, bt0', bf0']
      · rw [decide_eq_false hc] at X1
        simp only [f_X9_addNoise, f_X9_addNoise_19, ↓zl_eq, ↓zb_eq, ↓zb2_eq, ↓zc_some, ↓zc_none, ↓zb_pre, ↓zb2_pre, ↓zc_pre, ↓zex_eq, ↓reduceIte, Option.isSome_some, Option.isSome_none, Option.getD_some, n32_lit, X1, bf0']
    · have G := m_gs hM.1 false (decide (z < 20)) true (show n32 0 = bi false from rfl) rfl (show n32 1 = bi true from rfl)
      have T : f_X10_addNoise σ1 (b + 118) x y = f_X10_addNoise_47 σ1 (b + 118) x y (bi (decide (z < 20))) (n32 0) (some (b + 118)) := by
        rw [← loud σ1 hM]
        have y1 := Y1 σ1
        have y2 := Y2 σ1
        by_cases hc : 0 ≤ x.toInt ∧ x.toInt ≤ y.toInt
        · rw [decide_eq_true hc] at y1
          rw [decide_eq_false (by omega)] at y2
          simp only [f_X10_addNoise, f_X10_addNoise_29, ↓zl_eq, ↓zb_eq, ↓zb2_eq, ↓zc_some, ↓zc_none, ↓zb_pre, ↓zb2_pre, ↓zc_pre, ↓zex_eq, ↓reduceIte, Option.isSome_some, Option.isSome_none, Option.getD_some, n32_lit, i64_lit, y1, y2, bt0', bf0']
        · rw [decide_eq_false hc] at y1
          simp only [f_X10_addNoise, f_X10_addNoise_29, ↓zl_eq, ↓zb_eq, ↓zb2_eq, ↓zc_some, ↓zc_none, ↓zb_pre, ↓zb2_pre, ↓zc_pre, ↓zex_eq, ↓reduceIte, Option.isSome_some, Option.isSome_none, Option.getD_some, n32_lit, i64_lit, y1, bf0']
      show f_X10_addNoise σ1 (b + 118) x y = _
      rw [T]
      simp only [f_X10_addNoise_47, ↓zl_eq, ↓zb_eq, ↓zb2_eq, ↓zc_some, ↓zc_none, ↓zb_pre, ↓zb2_pre, ↓zc_pre, ↓zex_eq, ↓reduceIte, Option.isSome_some, Option.isSome_none, Option.getD_some, n32_lit, hM.1.1, G, bf0', Bool.false_and]
      rfl
end TOP
