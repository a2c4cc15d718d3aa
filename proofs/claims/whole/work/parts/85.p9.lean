section TOP
variable {σ : zSt} {b k tl : Nat} {g g' : zG} {gs : Nat → zG} {tx : Nat → Int32} {B V : Nat}
theorem p_waitOf (h : zW σ b g k gs tl tx B V) (hB : B = 1740000) (hV : V ≤ 1000000) (x : Int32) : zP σ b g k gs tl tx B V (f_L_waitOf σ b x (b + 123)) (fun σ1 => f_X10_waitOf σ1 (b + 118) x) := by
  have hI := h.2.2.1
  have O := h.2.2.2.2.2.2.2
  obtain ⟨o8, r0, o2, pl, ad, qu, n, hs, hG⟩ := zC_open h.1 hI
  have h0 := zC0_of hs
  obtain ⟨t3, tB⟩ := s_I_3 hI
  obtain ⟨q5, q52⟩ := s_I_5 hI
  have late := c_late h0 t3 (by omega)
  have r1 := hs.1.2.2.1
  have o3 := hs.1.2.2.2.2.2.2.2.2.1
  have eM : z_I σ (b + 1 + 2) 1 = n32 (s_nat g 5) := hs.2.2.1.2.2.1.1.trans q52
  have Hh := c_has hs.1 q5 eM x
  have HM := fun σ => m_winm σ (x := x) (show s_nat g 5 < 2147483648 by omega)
  have e15 : ∀ σ1, zM σ1 b g k gs tl tx → z_I σ1 (b + 118 + 1) 5 = n32 (s_nat g 5) := fun σ1 hM => by have := hM.2.1; rw [show z_I σ1 (b + 118 + 1) = g from this]; exact q52
  have e13 : ∀ σ1, zM σ1 b g k gs tl tx → z_I σ1 (b + 118 + 1) 3 = n32 (s_nat g 3) := fun σ1 hM => by have := hM.2.1; rw [show z_I σ1 (b + 118 + 1) = g from this]; exact t3
  by_cases hx : 0 ≤ x.toInt ∧ x.toInt < (s_nat g 5 : Int)
  · rw [decide_eq_true hx] at Hh
    have HM1 := fun σ => (HM σ).trans (by rw [decide_eq_true hx])
    obtain ⟨m, hm, rfl⟩ := n32_of2 (x := x) (k := s_nat g 5 - 1) hx.1 (by omega) (by omega)
    have hm2 : m < s_nat g 5 := by rw [n32_toInt (by omega)] at hx; omega
    have VL := c_value hs.1 h0.2.2.2.1.1 (m := m) (w := 4) (by omega) (by decide)
    rw [h0.2.2.2.2.1.2 m 4 hm2 (by decide)] at VL
    have VM := fun σ1 (hM : zM σ1 b g k gs tl tx) => (show f_X10_ofMessage σ1 (b + 118) (n32 m) (n32 4) = some (g (242 + 5 * m + 4)) by
      rw [m_ofM hM.1 (x := m) (w := 4) (by omega) (by decide), show z_I σ1 (b + 118 + 1) = g from hM.2.1])
    by_cases hw : g (242 + 5 * m + 4) = nn
    · by_cases ht : s_nat g 3 ≤ 900000
      · rw [decide_eq_true ht] at late
        have rt : z_R σ b 1 = some (b + 20) := h.1.1.2.2.1
        have ot : z_ob σ (b + 20) 2 = true := h.1.2.2.1.1.1
        obtain ⟨σ1, EC, F1, L1, C1⟩ := zC_copy h.1 (s_I_num hI)
        obtain ⟨st, st0, H⟩ := c_chain L1 (s_I_low hI ht) 300 (by omega) (by omega)
        obtain ⟨J1, J2, J3, J4⟩ := s_fst_p (fun j => !decide (s_it g j (242 + 5 * m + 4) = nn)) 300 0
        generalize s_fst (fun j => !decide (s_it g j (242 + 5 * m + 4) = nn)) 300 0 = J at J1 J2 J3 J4
        have J4' : ∀ j, j < J → s_it g j (242 + 5 * m + 4) = nn := fun j hj => by
          have := J4 j (by omega) hj
          simpa using this
        have J3' : J = 300 ∨ ¬ s_it g J (242 + 5 * m + 4) = nn := by
          rcases J3 with h | h
          · exact Or.inl (by omega)
          · exact Or.inr (by simpa using h)
        have val : ∀ j, j ≤ 300 → f_X3_value (st j) (b + 20 + 2) (n32 m) (n32 4) = some (s_it g j (242 + 5 * m + 4)) := fun j hj => by
          obtain ⟨_, ⟨pl', ad', qu', n', a1, a2, a3, a4⟩, Ij, e5, _⟩ := H j hj
          have n5 : s_nat (s_it g j) 5 = s_nat g 5 := by unfold s_nat; rw [e5]
          have := c_value a1 a3.2.1.1 (m := m) (w := 4) (by omega) (by decide)
          rw [a3.2.2.1.2 m 4 (by omega) (by decide)] at this
          exact this
        have sh : ∀ j, j ≤ 300 → z_ob (st j) b 8 = true ∧ z_R (st j) b 1 = some (b + 20) ∧ z_ob (st j) (b + 20) 2 = true ∧ z_R (st j) (b + 20) 1 = some (b + 20 + 2) ∧ z_ob (st j) (b + 20 + 2) 3 = true := fun j hj => by
          have F := zFr_t F1 (H j hj).1
          obtain ⟨_, ⟨pl', ad', qu', n', a1, _⟩, _⟩ := H j hj
          exact ⟨by rw [z_ob_eq F.2.1]; exact o8, by rw [F.2.2.1]; exact rt, by rw [z_ob_eq F.2.1]; exact ot, a1.2.2.1, a1.2.2.2.2.2.2.2.2.1⟩
        have FJ := zFr_t F1 (H J (by omega)).1
        have LP : f_X9_waitOf_75 b (n32 m) σ1 nn (n32 0) = some (.inr (s_it g J (242 + 5 * m + 4)), st J) := by
          unfold f_X9_waitOf_75
          have e0 : (σ1, nn, n32 0) = ((fun j => (st j, s_it g j (242 + 5 * m + 4), n32 j)) 0 : zSt × Int32 × Int32) := by
            show (σ1, nn, n32 0) = (st 0, g (242 + 5 * m + 4), n32 0)
            rw [st0, hw]
          rw [e0]
          refine zloop_go (N := zN) (fun j => (st j, s_it g j (242 + 5 * m + 4), n32 j)) _ J (fun j hj => ?_) ?_ (by unfold zN; omega)
          · show b_X9_waitOf_75 b (n32 m) (st j) (s_it g j (242 + 5 * m + 4)) (n32 j) = some (.inl (st (j + 1), s_it g (j + 1) (242 + 5 * m + 4), n32 (j + 1)))
            obtain ⟨s1, s2, s3, _, _⟩ := sh j (by omega)
            obtain ⟨u1, u2, u3, u4, u5⟩ := sh (j + 1) (by omega)
            have v1 := val (j + 1) (by omega)
            rw [J4' j hj]
            simp (disch := omega) only [b_X9_waitOf_75, ↓zl_eq, ↓zb_eq, ↓zb2_eq, ↓zc_some, ↓zc_none, ↓zb_pre, ↓zb2_pre, ↓zc_pre, ↓zex_eq, ↓reduceIte, Option.isSome_some, Option.isSome_none, Option.getD_some, n32_lit, n32_nn2, n32_le, s1, s2, ((H j (by omega)).2.2.2.2 (by omega)).1, u1, u2, u3, u4, u5, v1, n32_add]
            rw [if_neg (by omega)]
          · show b_X9_waitOf_75 b (n32 m) (st J) (s_it g J (242 + 5 * m + 4)) (n32 J) = _
            rcases J3' with h3 | h3
            · subst h3
              simp (disch := omega) only [b_X9_waitOf_75, f_X9_waitOf_113, ↓zl_eq, ↓zb_eq, ↓zb2_eq, ↓zc_some, ↓zc_none, ↓zb_pre, ↓zb2_pre, ↓zc_pre, ↓zex_eq, ↓reduceIte, Option.isSome_some, Option.isSome_none, Option.getD_some, n32_lit, n32_nn2, n32_le, Nat.le_refl]
            · simp (disch := omega) only [b_X9_waitOf_75, f_X9_waitOf_113, ↓zl_eq, ↓zb_eq, ↓zb2_eq, ↓zc_some, ↓zc_none, ↓zb_pre, ↓zb2_pre, ↓zc_pre, ↓zex_eq, ↓reduceIte, Option.isSome_some, Option.isSome_none, Option.getD_some, n32_lit, n32_nn2, n32_le, if_neg h3, ite_self]
        have eq : s_eq g (s_cp g (s_it g J) 942) := s_cp_eq g (s_it g J)
        refine ⟨0, s_it g J (242 + 5 * m + 4), s_cp g (s_it g J) 942, k, gs, tl, tx, w_waitOf O o8 (zA9_trial (σ2 := st J) h.1 FJ (zLn_bl (H J (by omega)).2.1) eq (s_I_num hI) ?_), fun σ1 hM => ?_, s_I_w (s_I_eq eq hI) (Nat.le_refl _) (by omega), fun i hi => s_I_w (h.2.2.2.1 i hi) (Nat.le_refl _) (by omega), h.2.2.2.2.1, h.2.2.2.2.2.1, h.2.2.2.2.2.2.1⟩
        · simp only [f_X9_waitOf, ↓zl_eq, ↓zb_eq, ↓zb2_eq, ↓zc_some, ↓zc_none, ↓zb_pre, ↓zb2_pre, ↓zc_pre, ↓zex_eq, ↓reduceIte, Option.isSome_some, Option.isSome_none, Option.getD_some, n32_lit, n32_nn2, bt0', bf0', Bool.not_true, o8, r0, o2, r1, o3, Hh, VL, hw, late, rt, ot, EC, LP]
        · have T := zM_thr hM (n32 0)
          obtain ⟨A, EL, ML, FL, tL⟩ := zM_lays T.1
          generalize hσ3 : z_sA (z_sA σ1 (b + 118) (gu (z_I σ1 (b + 118)) 4 (n32 0))) (b + 121) (s_cp g A 942) = σ3 at EL ML FL tL
          have a3 : z_I σ3 (b + 121) = s_cp g A 942 := by rw [← hσ3, z_I_sA]
          have mg : z_I σ3 (b + 118 + 1) = g := ML.2.1
          have hv : ∀ j, j < 300 → s_vok (s_it g j) := fun j hj => ((H j (by omega)).2.2.2.2 hj).2
          have G := m_gs hM.1 true true true (show bi true = bi true from rfl) (show n32 1 = bi true from rfl) (show n32 1 = bi true from rfl)
          have sg : s_goes true true true = n32 0 := rfl
          rw [sg] at G
          have oo : z_ob (z_sA σ1 (b + 118) (gu (z_I σ1 (b + 118)) 4 (n32 0))) (b + 118) 9 = true := hM.1.1
          have om : ∀ j, f_X10_ofMessage (z_sA σ3 (b + 118 + 1) (s_it g j)) (b + 118) (n32 m) (n32 4) = some (s_it g j (242 + 5 * m + 4)) := fun j => by
            have := m_ofM (zMs_sA ML.1 (b + 118 + 1) (s_it g j)) (x := m) (w := 4) (by omega) (by decide)
            rw [z_I_sA] at this
            exact this
          have LM : f_X10_waitOf_63 (b + 118) (n32 m) σ3 (n32 0) = some (s_it g J (242 + 5 * m + 4), z_sA σ3 (b + 119) (s_cp g (s_it g J) 942)) := by
            unfold f_X10_waitOf_63
            have e0 : (σ3, n32 0) = ((fun j => (z_sA σ3 (b + 118 + 1) (s_it g j), n32 j)) 0 : zSt × Int32) := by
              have : z_sA σ3 (b + 118 + 1) (s_it g 0) = σ3 := by
                show z_sA σ3 (b + 118 + 1) g = σ3
                rw [← mg, z_sA_id]
              simp only [this]
            rw [e0]
            have tb := m_back ML.1 (X := s_it g J) a3
            have f90 : f_X10_waitOf_90 (z_sA σ3 (b + 118 + 1) (s_it g J)) (b + 118) (n32 m) = some (s_it g J (242 + 5 * m + 4), z_sA σ3 (b + 119) (s_cp g (s_it g J) 942)) := by
              simp only [f_X10_waitOf_90, ↓zl_eq, ↓zb_eq, ↓zb2_eq, ↓zc_some, ↓zc_none, ↓zb_pre, ↓zb2_pre, ↓zc_pre, ↓zex_eq, ↓reduceIte, Option.isSome_some, Option.isSome_none, Option.getD_some, n32_lit, z_ob_sA, ML.1.1, om J, tb]
            refine zloop_go (N := zN) (fun j => (z_sA σ3 (b + 118 + 1) (s_it g j), n32 j)) _ J (fun j hj => ?_) ?_ (by unfold zN; omega)
            · show b_X10_waitOf_63 (b + 118) (n32 m) (z_sA σ3 (b + 118 + 1) (s_it g j)) (n32 j) = some (.inl (z_sA σ3 (b + 118 + 1) (s_it g (j + 1)), n32 (j + 1)))
              have C := m_chain (σ := σ3) (g := g) ML.1 hv (show j < 300 by omega)
              have cj := om j
              rw [J4' j hj] at cj
              simp (disch := omega) only [b_X10_waitOf_63, ↓zl_eq, ↓zb_eq, ↓zb2_eq, ↓zc_some, ↓zc_none, ↓zb_pre, ↓zb2_pre, ↓zc_pre, ↓zex_eq, ↓reduceIte, Option.isSome_some, Option.isSome_none, Option.getD_some, n32_lit, n32_nn2, n32_le, z_ob_sA, ML.1.1, cj, C, n32_add]
              rw [if_neg (by omega)]
            · show b_X10_waitOf_63 (b + 118) (n32 m) (z_sA σ3 (b + 118 + 1) (s_it g J)) (n32 J) = _
              rcases J3' with h3 | h3
              · subst h3
                simp (disch := omega) only [b_X10_waitOf_63, ↓zl_eq, ↓zb_eq, ↓zb2_eq, ↓zc_some, ↓zc_none, ↓zb_pre, ↓zb2_pre, ↓zc_pre, ↓zex_eq, ↓reduceIte, Option.isSome_some, Option.isSome_none, Option.getD_some, n32_lit, n32_le, Nat.le_refl, f90]
              · have cj := om J
                simp (disch := omega) only [b_X10_waitOf_63, ↓zl_eq, ↓zb_eq, ↓zb2_eq, ↓zc_some, ↓zc_none, ↓zb_pre, ↓zb2_pre, ↓zc_pre, ↓zex_eq, ↓reduceIte, Option.isSome_some, Option.isSome_none, Option.getD_some, n32_lit, n32_nn2, n32_le, z_ob_sA, ML.1.1, cj, if_neg h3, f90, ite_self]
          have N := zM_new ML (s_cp g (s_it g J) 942)
          have t1 := hM.1
          have nl : (900000 < s_nat g 3) = False := eq_false (by omega)
          refine ⟨_, ?_, N.1, zFM_t T.2.1 (zFM_t FL N.2.1), by rw [N.2.2, tL]; exact T.2.2⟩
          simp (disch := omega) only [f_X10_waitOf, f_X10_waitOf_48, ↓zl_eq, ↓zb_eq, ↓zb2_eq, ↓zc_some, ↓zc_none, ↓zb_pre, ↓zb2_pre, ↓zc_pre, ↓zex_eq, ↓reduceIte, Option.isSome_some, Option.isSome_none, Option.getD_some, n32_lit, n32_nn2, i64_lit, t1.1, t1.2.1, t1.2.2.2.2.2.1, t1.2.2.2.2.2.2.2.2.2.1, n32_ix, n32_toNat, e15 σ1 hM, HM1, VM σ1 hM, hw, e13 σ1 hM, n32_lt, nl, G, Bool.and_self, bt0', oo, EL, LM]
      · rw [decide_eq_false ht] at late
        refine zP_q h (r := 2) (v := 0) (x_waitOf1 _ O o8 (zA9_x h.1 ?_)) (fun σ1 hM => zAM_q hM ?_)
        · simp only [f_X9_waitOf, f_X9_waitOf_50, ↓zl_eq, ↓zb_eq, ↓zb2_eq, ↓zc_some, ↓zc_none, ↓zb_pre, ↓zb2_pre, ↓zc_pre, ↓zex_eq, ↓reduceIte, Option.isSome_some, Option.isSome_none, Option.getD_some, n32_lit, n32_nn2, bt0', Bool.not_false, o8, r0, o2, r1, o3, Hh, VL, hw, late]
        · have G := m_gs hM.1 true false true (show bi true = bi true from rfl) (show n32 0 = bi false from rfl) (show n32 1 = bi true from rfl)
          have t1 := hM.1
          have nl : (900000 < s_nat g 3) = True := eq_true (by omega)
          simp (disch := omega) only [f_X10_waitOf, f_X10_waitOf_47, f_X10_waitOf_48, ↓zl_eq, ↓zb_eq, ↓zb2_eq, ↓zc_some, ↓zc_none, ↓zb_pre, ↓zb2_pre, ↓zc_pre, ↓zex_eq, ↓reduceIte, Option.isSome_some, Option.isSome_none, Option.getD_some, n32_lit, n32_nn2, i64_lit, t1.1, t1.2.1, t1.2.2.2.2.2.1, t1.2.2.2.2.2.2.2.2.2.1, n32_ix, n32_toNat, e15 σ1 hM, HM1, VM σ1 hM, hw, e13 σ1 hM, n32_lt, nl, G, Bool.and_false, Bool.false_and, bt0', bf0']
          rfl
    · refine zP_q h (r := 2) (v := 0) (x_waitOf1 _ O o8 (zA9_x h.1 ?_)) (fun σ1 hM => zAM_q hM ?_)
      · simp only [f_X9_waitOf, f_X9_waitOf_50, ↓zl_eq, ↓zb_eq, ↓zb2_eq, ↓zc_some, ↓zc_none, ↓zb_pre, ↓zb2_pre, ↓zc_pre, ↓zex_eq, ↓reduceIte, Option.isSome_some, Option.isSome_none, Option.getD_some, n32_lit, n32_nn2, bt0', o8, r0, o2, r1, o3, Hh, VL, if_neg hw]
      · have G := m_gs hM.1 true false true (show bi true = bi true from rfl) (show n32 0 = bi false from rfl) (show n32 1 = bi true from rfl)
        have t1 := hM.1
        simp (disch := omega) only [f_X10_waitOf, f_X10_waitOf_47, f_X10_waitOf_48, ↓zl_eq, ↓zb_eq, ↓zb2_eq, ↓zc_some, ↓zc_none, ↓zb_pre, ↓zb2_pre, ↓zc_pre, ↓zex_eq, ↓reduceIte, Option.isSome_some, Option.isSome_none, Option.getD_some, n32_lit, n32_nn2, i64_lit, t1.1, t1.2.1, t1.2.2.2.2.2.1, t1.2.2.2.2.2.2.2.2.2.1, n32_ix, n32_toNat, e15 σ1 hM, HM1, VM σ1 hM, if_neg hw, G, Bool.and_false, Bool.false_and, bt0', bf0']
        rfl
  · rw [decide_eq_false hx] at Hh
    have HM0 := fun σ => (HM σ).trans (by rw [decide_eq_false hx])
    refine zP_q h (r := 1) (v := 0) (x_waitOf2 _ O o8 (zA9_x h.1 ?_)) (fun σ1 hM => zAM_q hM ?_)
    · simp only [f_X9_waitOf, ↓zl_eq, ↓zb_eq, ↓zb2_eq, ↓zc_some, ↓zc_none, ↓zb_pre, ↓zb2_pre, ↓zc_pre, ↓zex_eq, ↓reduceIte, Option.isSome_some, Option.isSome_none, Option.getD_some, n32_lit, bf0', o8, r0, o2, r1, o3, Hh]
    · have G := m_gs hM.1 false false true (show bi false = bi false from rfl) (show n32 0 = bi false from rfl) (show n32 1 = bi true from rfl)
      have t1 := hM.1
      simp (disch := omega) only [f_X10_waitOf, f_X10_waitOf_47, f_X10_waitOf_48, ↓zl_eq, ↓zb_eq, ↓zb2_eq, ↓zc_some, ↓zc_none, ↓zb_pre, ↓zb2_pre, ↓zc_pre, ↓zex_eq, ↓reduceIte, Option.isSome_some, Option.isSome_none, Option.getD_some, n32_lit, i64_lit, t1.1, t1.2.1, t1.2.2.2.2.2.1, t1.2.2.2.2.2.2.2.2.2.1, n32_ix, n32_toNat, e15 σ1 hM, HM0, G, Bool.and_false, Bool.false_and, bf0']
      rfl
end TOP
