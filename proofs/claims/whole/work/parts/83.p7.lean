/-! MANY VISITS -/
def s_it (g : zG) : Nat → zG
  | 0 => g
  | j + 1 => s_visits (s_it g j)
section TOP
variable {σ : zSt} {b k tl : Nat} {g : zG} {gs : Nat → zG} {tx : Nat → Int32} {B V : Nat}
theorem c_visit1 {a : Nat} (hl : zLn σ a g) (hI : s_I g B V) (hB : B ≤ 1800000000) (hV : V < 1900000000) : ∃ σ', f_X8_makeVisit σ a = some σ' ∧ zFr a σ σ' ∧ zLn σ' a (s_visits g) ∧ s_vok g ∧ s_I (s_visits g) (B + 4200) (V + 1) ∧ s_visits g 5 = g 5 := by
  obtain ⟨pl, ad, qu, n, h1, h2, h3, h4⟩ := hl
  obtain ⟨σ', qu', E, F, R, G, vok, I, S⟩ := c_makeVisit h1 h2 h3 h4 hI.1 hB hV
  exact ⟨σ', E, F, ⟨pl, ad, qu', n, zLs_fr F h1, zPl_fr F h2, R, G⟩, vok, s_I_visits hI hB I S, (s_visits_kp hI.1 hB S hI.2.1 hI.2.2.2).2.2.1⟩
/-- the states of the class through m visits -/
theorem c_chain {a : Nat} (hl : zLn σ a g) (hI : s_I g B V) : ∀ m, B + 4200 * m ≤ 1800000000 → V + m < 1900000000 → ∃ st : Nat → zSt, st 0 = σ ∧ ∀ j, j ≤ m → zFr a σ (st j) ∧ zLn (st j) a (s_it g j) ∧ s_I (s_it g j) (B + 4200 * j) (V + j) ∧ s_it g j 5 = g 5 ∧ (j < m → f_X8_makeVisit (st j) a = some (st (j + 1)) ∧ s_vok (s_it g j)) := by
  intro m
  induction m with
  | zero =>
    intro _ _
    refine ⟨fun _ => σ, rfl, fun j hj => ?_⟩
    have : j = 0 := by omega
    subst this
    exact ⟨zFr_r a σ, hl, hI, rfl, fun h => by omega⟩
  | succ m ih =>
    intro hB hV
    obtain ⟨st, s0, H⟩ := ih (by omega) (by omega)
    obtain ⟨F, L, I, e5, _⟩ := H m (Nat.le_refl _)
    obtain ⟨σ', E, F', L', vok, I', e5'⟩ := c_visit1 L I (by omega) (by omega)
    have hB2 : B + 4200 * m + 4200 ≤ B + 4200 * (m + 1) := by rw [Nat.mul_succ, Nat.add_assoc]; exact Nat.le_refl _
    have hV2 : V + m + 1 ≤ V + (m + 1) := Nat.le_refl _
    have I2 : s_I (s_it g (m + 1)) (B + 4200 * (m + 1)) (V + (m + 1)) := s_I_w I' hB2 hV2
    refine ⟨fun i => if i = m + 1 then σ' else st i, by show (if 0 = m + 1 then σ' else st 0) = σ; rw [if_neg (by omega)]; exact s0, fun j hj => ?_⟩
    by_cases hjm : j = m + 1
    · subst hjm
      show zFr a σ (if m + 1 = m + 1 then σ' else _) ∧ zLn (if m + 1 = m + 1 then σ' else _) a _ ∧ _
      rw [if_pos rfl]
      exact ⟨zFr_t F F', L', I2, e5'.trans e5, fun h => absurd h (Nat.lt_irrefl _)⟩
    · have Hj := H j (by omega)
      show zFr a σ (if j = m + 1 then σ' else st j) ∧ zLn (if j = m + 1 then σ' else st j) a _ ∧ _ ∧ _ ∧ (_ → f_X8_makeVisit (if j = m + 1 then σ' else st j) a = some (if j + 1 = m + 1 then σ' else st (j + 1)) ∧ _)
      rw [if_neg hjm]
      refine ⟨Hj.1, Hj.2.1, Hj.2.2.1, Hj.2.2.2.1, fun _ => ?_⟩
      by_cases hjm2 : j = m
      · subst hjm2
        rw [if_pos rfl]
        exact ⟨E, vok⟩
      · rw [if_neg (by omega)]
        exact Hj.2.2.2.2 (by omega)
/-- and of the reference -/
theorem m_chain {M : Nat} (hM : zMs σ M) {m : Nat} (hv : ∀ j, j < m → s_vok (s_it g j)) {j : Nat} (hj : j < m) : f_X10_visits (z_sA σ (M + 1) (s_it g j)) M = some (z_sA σ (M + 1) (s_it g (j + 1))) := by
  have := m_visits (zMs_sA hM (M + 1) (s_it g j)) (by rw [z_I_sA]; exact hv j hj)
  rw [z_I_sA, z_sA_sA] at this
  exact this
theorem c_late {a n : Nat} {pl ad : Nat → Nat} {qu : Nat → Nat → Nat} (h : zC0 σ a pl ad qu n g) (h3 : g 3 = n32 (s_nat g 3)) (hb : s_nat g 3 < 2147483648) : f_X2_isTooLate σ a = some (bi (!decide (s_nat g 3 ≤ 900000))) := by
  have o1 := h.1.1
  have e9 := (c_L h).2.2.2.2.1
  rw [h3] at e9
  simp (disch := omega) only [f_X2_isTooLate, f_X2_isTooLate_14, ↓zl_eq, ↓zb_eq, ↓zb2_eq, ↓zc_some, ↓zc_none, ↓zb_pre, ↓zb2_pre, ↓zc_pre, ↓zex_eq, ↓reduceIte, Option.isSome_some, Option.isSome_none, Option.getD_some, n32_lit, o1, e9, n32_le, bl0, bl1]
  by_cases hc : s_nat g 3 ≤ 900000
  · rw [if_pos hc, decide_eq_true hc]; rfl
  · rw [if_neg hc, decide_eq_false hc]; rfl
theorem s_I_3 (H : s_I g B V) : g 3 = n32 (s_nat g 3) ∧ s_nat g 3 ≤ B := ⟨H.1.1.2.2.2.2.1.1, H.1.2.2.2.1⟩
theorem s_I_low (H : s_I g B V) {B' : Nat} (h : s_nat g 3 ≤ B') : s_I g B' V := by
  obtain ⟨⟨a, b, c, d, e⟩, r⟩ := H
  exact ⟨⟨a, b, c, h, e⟩, r⟩
theorem p_run (h : zW σ b g k gs tl tx B V) (hB : B = 1740000) (hV : V ≤ 1000000) (x : Int32) : zP σ b g k gs tl tx B V (f_L_run σ b x (b + 123)) (fun σ1 => f_X10_run σ1 (b + 118) x) := by
  have hI := h.2.2.1
  have O := h.2.2.2.2.2.2.2
  obtain ⟨o8, r0, o2, pl, ad, qu, n, hs, hG⟩ := zC_open h.1 hI
  have h0 := zC0_of hs
  obtain ⟨t3, tB⟩ := s_I_3 hI
  have late := c_late h0 t3 (by omega)
  have r26 : ∀ σ1, zM σ1 b g k gs tl tx → ∀ c : Bool, f_X10_in σ1 x.toInt64 (Int64.ofNat 0) (Int64.ofNat 200) = some (bi c) → f_X10_run σ1 (b + 118) x = f_X10_run_26 σ1 (b + 118) x (bi (decide (s_nat g 3 ≤ 900000))) (bi c) (some (b + 118)) := by
    intro σ1 hM c hc
    have e1 : z_I σ1 (b + 118 + 1) 3 = n32 (s_nat g 3) := by have := hM.2.1; rw [show z_I σ1 (b + 118 + 1) = g from this]; exact t3
    have t1 := hM.1
    simp (disch := omega) only [f_X10_run, ↓zl_eq, ↓zb_eq, ↓zb2_eq, ↓zc_some, ↓zc_none, ↓zb_pre, ↓zb2_pre, ↓zc_pre, ↓zex_eq, ↓reduceIte, Option.isSome_some, Option.isSome_none, Option.getD_some, n32_lit, i64_lit, hc, t1.1, t1.2.1, t1.2.2.2.2.2.1, t1.2.2.2.2.2.2.2.2.2.1, n32_ix, n32_toNat, e1, n32_lt]
    by_cases hc : s_nat g 3 ≤ 900000
    · rw [if_neg (by omega), decide_eq_true hc]; rfl
    · rw [if_pos (by omega), decide_eq_false hc]; rfl
  by_cases hx : ((0 : Nat) : Int) ≤ x.toInt ∧ x.toInt ≤ ((200 : Nat) : Int)
  · have W := fun σ => c_win1 σ (by omega) (by omega) hx
    have WM := fun σ => m_win1 σ (by omega) (by omega) hx
    by_cases ht : s_nat g 3 ≤ 900000
    · rw [decide_eq_true ht] at late r26
      obtain ⟨m, hm, rfl⟩ := n32_of2 (x := x) (k := 200) (by omega) (by omega) (by omega)
      obtain ⟨σ1, ES, C1, n1, s1, E1, E2⟩ := zC_save h.1 (s_I_num hI)
      obtain ⟨r2, oh⟩ := zC_hs h.1
      have hI2 := s_I_low hI ht
      obtain ⟨st, st0, H⟩ := c_chain C1.2.1 hI2 m (by omega) (by omega)
      have o8' : z_ob σ1 b 8 = true := by rw [z_ob_eq s1]; exact o8
      have o2' : z_ob σ1 (b + 1) 2 = true := by rw [z_ob_eq s1]; exact o2
      have r0' : z_R σ1 b 0 = some (b + 1) := C1.1.2.1
      obtain ⟨Fm, Lm, Im, _⟩ := H m (Nat.le_refl _)
      have tm : z_I (st m) (b + 1) 9 = s_it g m 3 := by obtain ⟨pl', ad', qu', n', a1, a2, a3, a4⟩ := Lm; exact a3.1.2.2.2.2.1
      have LP : f_X9_run_54 b (n32 m) σ1 (n32 0) = some (.inr (s_it g m 3), st m) := by
        unfold f_X9_run_54
        have e0 : (σ1, n32 0) = ((fun j => (st j, n32 j)) 0 : zSt × Int32) := by rw [← st0]
        rw [e0]
        refine zloop_go (N := zN) (fun j => (st j, n32 j)) _ m (fun j hj => ?_) ?_ (by unfold zN; omega)
        · show b_X9_run_54 b (n32 m) (st j) (n32 j) = some (.inl (st (j + 1), n32 (j + 1)))
          obtain ⟨Fj, Lj, Ij, _, Vj⟩ := H j (by omega)
          have eo : z_ob (st j) = z_ob σ1 := z_ob_eq Fj.2.1
          have eR : z_R (st j) = z_R σ1 := Fj.2.2.1
          simp (disch := omega) only [b_X9_run_54, ↓zl_eq, ↓zb_eq, ↓zb2_eq, ↓zc_some, ↓zc_none, ↓zb_pre, ↓zb2_pre, ↓zc_pre, ↓zex_eq, ↓reduceIte, Option.isSome_some, Option.isSome_none, Option.getD_some, n32_lit, n32_le, eo, eR, o8', r0', (Vj hj).1, n32_add]
          rw [if_neg (by omega)]
        · show b_X9_run_54 b (n32 m) (st m) (n32 m) = _
          have eo : z_ob (st m) = z_ob σ1 := z_ob_eq Fm.2.1
          have eR : z_R (st m) = z_R σ1 := Fm.2.2.1
          simp (disch := omega) only [b_X9_run_54, ↓zl_eq, ↓zb_eq, ↓zb2_eq, ↓zc_some, ↓zc_none, ↓zb_pre, ↓zb2_pre, ↓zc_pre, ↓zex_eq, ↓reduceIte, Option.isSome_some, Option.isSome_none, Option.getD_some, n32_le, Nat.le_refl, eo, eR, o8', r0', o2', tm]
      refine zP_s h (v := s_it g m 3) (g' := s_it g m) (w_run O o8 (zA9_line (σ2 := st m) C1 n1 E2 (zFw_of Fm) Lm ?_)) (fun σ1 hM => ?_) (s_I_w Im (by omega) (by omega))
      · simp only [f_X9_run, ↓zl_eq, ↓zb_eq, ↓zb2_eq, ↓zc_some, ↓zc_none, ↓zb_pre, ↓zb2_pre, ↓zc_pre, ↓zex_eq, ↓reduceIte, Option.isSome_some, Option.isSome_none, Option.getD_some, n32_lit, W, bt0', bf0', Bool.not_true, o8, r0, o2, late, r2, oh, ES, LP]
      · obtain ⟨σ', E, M, F', t⟩ := zM_gos hM h.2.2.2.2.1
        have G := m_gs hM.1 true true true (show bi true = bi true from rfl) (show bi true = bi true from rfl) (show n32 1 = bi true from rfl)
        refine zAM_new M F' t ?_
        have sg : s_goes true true true = n32 0 := rfl
        rw [sg] at G
        have oo : z_ob (z_sA σ1 (b + 118) (gu (z_I σ1 (b + 118)) 4 (n32 0))) (b + 118) 9 = true := hM.1.1
        have mg : z_I σ' (b + 118 + 1) = g := M.2.1
        have hv : ∀ j, j < m → s_vok (s_it g j) := fun j hj => ((H j (by omega)).2.2.2.2 hj).2
        have LM : f_X10_run_41 (b + 118) (n32 m) σ' (n32 0) = some (s_it g m 3, z_sA σ' (b + 119) (s_it g m)) := by
          unfold f_X10_run_41
          have e0 : (σ', n32 0) = ((fun j => (z_sA σ' (b + 118 + 1) (s_it g j), n32 j)) 0 : zSt × Int32) := by
            have : z_sA σ' (b + 118 + 1) (s_it g 0) = σ' := by
              show z_sA σ' (b + 118 + 1) g = σ'
              rw [← mg, z_sA_id]
            simp only [this]
          rw [e0]
          refine zloop_go (N := zN) (fun j => (z_sA σ' (b + 118 + 1) (s_it g j), n32 j)) _ m (fun j hj => ?_) ?_ (by unfold zN; omega)
          · show b_X10_run_41 (b + 118) (n32 m) (z_sA σ' (b + 118 + 1) (s_it g j)) (n32 j) = some (.inl (z_sA σ' (b + 118 + 1) (s_it g (j + 1)), n32 (j + 1)))
            have C := m_chain (σ := σ') (g := g) M.1 hv hj
            simp (disch := omega) only [b_X10_run_41, ↓zl_eq, ↓zb_eq, ↓zb2_eq, ↓zc_some, ↓zc_none, ↓zb_pre, ↓zb2_pre, ↓zc_pre, ↓zex_eq, ↓reduceIte, Option.isSome_some, Option.isSome_none, Option.getD_some, n32_lit, n32_le, z_ob_sA, M.1.1, C, n32_add]
            rw [if_neg (by omega)]
          · show b_X10_run_41 (b + 118) (n32 m) (z_sA σ' (b + 118 + 1) (s_it g m)) (n32 m) = _
            have m1 := M.1
            simp (disch := omega) only [b_X10_run_41, ↓zl_eq, ↓zb_eq, ↓zb2_eq, ↓zc_some, ↓zc_none, ↓zb_pre, ↓zb2_pre, ↓zc_pre, ↓zex_eq, ↓reduceIte, Option.isSome_some, Option.isSome_none, Option.getD_some, n32_lit, n32_le, Nat.le_refl, z_ob_sA, z_R_sA, z_ar_sA, z_ln_sA, m1.1, m1.2.1, m1.2.2.2.2.2.1, m1.2.2.2.2.2.2.2.2.2.1, n32_ix, n32_toNat, z_I_sA]
        show f_X10_run σ1 (b + 118) (n32 m) = _
        rw [r26 σ1 hM true (WM σ1)]
        simp only [f_X10_run_26, ↓zl_eq, ↓zb_eq, ↓zb2_eq, ↓zc_some, ↓zc_none, ↓zb_pre, ↓zb2_pre, ↓zc_pre, ↓zex_eq, ↓reduceIte, Option.isSome_some, Option.isSome_none, Option.getD_some, n32_lit, hM.1.1, G, Bool.and_self, bt0', oo, E, LM]
    · rw [decide_eq_false ht] at late r26
      refine zP_q h (r := 2) (v := 0) (x_run1 _ O o8 (zA9_x h.1 ?_)) (fun σ1 hM => zAM_q hM ?_)
      · simp only [f_X9_run, ↓zl_eq, ↓zb_eq, ↓zb2_eq, ↓zc_some, ↓zc_none, ↓zb_pre, ↓zb2_pre, ↓zc_pre, ↓zex_eq, ↓reduceIte, Option.isSome_some, Option.isSome_none, Option.getD_some, n32_lit, W, bt0', Bool.not_false, o8, r0, o2, late]
      · have G := m_gs hM.1 true false true (show bi true = bi true from rfl) (show bi false = bi false from rfl) (show n32 1 = bi true from rfl)
        show f_X10_run σ1 (b + 118) x = _
        rw [r26 σ1 hM true (WM σ1)]
        simp only [f_X10_run_26, ↓zl_eq, ↓zb_eq, ↓zb2_eq, ↓zc_some, ↓zc_none, ↓zb_pre, ↓zb2_pre, ↓zc_pre, ↓zex_eq, ↓reduceIte, Option.isSome_some, Option.isSome_none, Option.getD_some, n32_lit, hM.1.1, G, Bool.and_false, Bool.false_and, bf0']
        rfl
  · have W := fun σ => c_win0 σ (by omega) (by omega) hx
    have WM := fun σ => m_win0 σ (by omega) (by omega) hx
    refine zP_q h (r := 1) (v := 0) (x_run0 _ O o8 (zA9_x h.1 ?_)) (fun σ1 hM => zAM_q hM ?_)
    · simp only [f_X9_run, ↓zl_eq, ↓zb_eq, ↓zb2_eq, ↓zc_some, ↓zc_none, ↓zb_pre, ↓zb2_pre, ↓zc_pre, ↓zex_eq, ↓reduceIte, Option.isSome_some, Option.isSome_none, Option.getD_some, n32_lit, W, bf0']
    · have G := m_gs hM.1 false (decide (s_nat g 3 ≤ 900000)) true (show bi false = bi false from rfl) rfl (show n32 1 = bi true from rfl)
      show f_X10_run σ1 (b + 118) x = _
      rw [r26 σ1 hM false (WM σ1)]
      simp only [f_X10_run_26, ↓zl_eq, ↓zb_eq, ↓zb2_eq, ↓zc_some, ↓zc_none, ↓zb_pre, ↓zb2_pre, ↓zc_pre, ↓zex_eq, ↓reduceIte, Option.isSome_some, Option.isSome_none, Option.getD_some, n32_lit, hM.1.1, G, Bool.false_and, bf0']
      rfl
end TOP
