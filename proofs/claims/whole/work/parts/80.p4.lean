/-! WHAT THE CALLS ANSWER: changes of the line -/
section TOP
variable {σ : zSt} {b k tl : Nat} {g : zG} {gs : Nat → zG} {tx : Nat → Int32} {B V : Nat}
/-- the reference notes that nothing is wrong, and saves -/
theorem zM_gos (h : zM σ b g k gs tl tx) (hk : k ≤ 4) : ∃ σ', f_X10_save (z_sA σ (b + 118) (gu (z_I σ (b + 118)) 4 (n32 0))) (b + 118) = some σ' ∧ zM σ' b g (s_pk k) (s_pg k gs g) tl tx ∧ zFM b σ σ' ∧ z_I σ' (b + 118) 4 = n32 0 := by
  have T := zM_thr h (n32 0)
  obtain ⟨σ', E, M, F, t, _⟩ := zM_save T.1 hk
  exact ⟨σ', E, M, zFM_t T.2.1 F, t.trans T.2.2⟩
theorem zAM_new {σ' : zSt} (M : zM σ' b g k gs tl tx) (F : zFM b σ σ') (t : z_I σ' (b + 118) 4 = n32 0) {g' : zG} {out : Option (Int32 × zSt)} {v : Int32} (E : out = some (v, z_sA σ' (b + 119) g')) : zAM σ b out 0 v g' k gs tl tx := by
  obtain ⟨n1, n2, n3⟩ := zM_new M g'
  exact ⟨_, E, n1, zFM_t F n2, by rw [n3]; exact t⟩
/-- the class's line has changed behind a save -/
theorem zA9_line {σ1 σ2 : zSt} {g' : zG} {k' : Nat} {gs' : Nat → zG} (C : zC σ1 b g k' gs' tl tx) (n1 : z_nx σ1 = z_nx σ) (E1 : ∀ hi, zEq (b + 117) hi σ σ1) (F : zFw (b + 1) σ1 σ2) (hl : zLn σ2 (b + 1) g') {out : Option ((Nat ⊕ Int32) × zSt)} {r : Nat ⊕ Int32} (e : out = some (r, σ2)) : zA9 σ b out r g' k' gs' tl tx :=
  ⟨σ2, e, zC_line F hl C, zEq_t (zEq_s (E1 (b + 124)) (by omega) (Nat.le_refl _)) (zEq_fw F (by omega)), by rw [F.1, n1]; exact Nat.le_refl _⟩
theorem zLn_of {σ1 : zSt} {a n : Nat} {pl ad : Nat → Nat} {qu : Nat → Nat → Nat} (h : zC0 σ1 a pl ad qu n g) (hG : qG σ1 a g) : zLn σ1 a g := ⟨pl, ad, qu, n, h.1, h.2.1, h.2.2, hG⟩
theorem s_pk4 (hk : k ≤ 4) : s_pk k ≤ 4 := by unfold s_pk; split <;> omega
theorem zP_s (h : zW σ b g k gs tl tx B V) {fc : Option (Int32 × zSt)} {fm : zSt → Option (Int32 × zSt)} {v : Int32} {g' : zG} (hc : zAC σ b fc 0 v g' (s_pk k) (s_pg k gs g) tl tx) (hm : ∀ σ1, zM σ1 b g k gs tl tx → zAM σ1 b (fm σ1) 0 v g' (s_pk k) (s_pg k gs g) tl tx) (hI : s_I g' B (V + 300)) : zP σ b g k gs tl tx B V fc fm :=
  ⟨0, v, g', s_pk k, s_pg k gs g, tl, tx, hc, hm, hI, fun i hi => s_I_w (s_pg_I h.2.2.2.2.1 h.2.2.1 h.2.2.2.1 i hi) (Nat.le_refl _) (by omega), s_pk4 h.2.2.2.2.1, h.2.2.2.2.2.1, h.2.2.2.2.2.2.1⟩
theorem p_setTimes (h : zW σ b g k gs tl tx B V) (hB : B = 1740000) (hV : V ≤ 1000000) (x y z : Int32) : zP σ b g k gs tl tx B V (f_L_setTimes σ b x y z (b + 123)) (fun σ1 => f_X10_setTimes σ1 (b + 118) x y z) := by
  have hI := h.2.2.1
  have O := h.2.2.2.2.2.2.2
  obtain ⟨o8, r0, o2, pl, ad, qu, n, hs, hG⟩ := zC_open h.1 hI
  have h0 := zC0_of hs
  have bad : ∀ {e9 : f_X9_setTimes σ b x y z = some (.inl 0, z_gr σ)}, (∀ σ1, zM σ1 b g k gs tl tx → f_X10_setTimes σ1 (b + 118) x y z = f_X10_setTimes_42 σ1 (b + 118) x y z (0 : Int32) (some (b + 118))) → zP σ b g k gs tl tx B V (f_L_setTimes σ b x y z (b + 123)) (fun σ1 => f_X10_setTimes σ1 (b + 118) x y z) := by
    intro e9 em
    refine zP_q h (r := 1) (v := 0) (x_setTimes0 _ O o8 (zA9_x h.1 e9)) (fun σ1 hM => zAM_q hM ?_)
    have G := m_gs hM.1 false true true (show n32 0 = bi false from rfl) (show n32 1 = bi true from rfl) (show n32 1 = bi true from rfl)
    show f_X10_setTimes σ1 (b + 118) x y z = _
    rw [em σ1 hM]
    simp only [f_X10_setTimes_42, ↓zl_eq, ↓zb_eq, ↓zb2_eq, ↓zc_some, ↓zc_none, ↓zb_pre, ↓zb2_pre, ↓zc_pre, ↓zex_eq, ↓reduceIte, Option.isSome_some, Option.isSome_none, Option.getD_some, n32_lit, hM.1.1, G, bf0', Bool.false_and]
    rfl
  by_cases hx : ((1 : Nat) : Int) ≤ x.toInt ∧ x.toInt ≤ ((500 : Nat) : Int)
  · have W := fun σ => c_win1 σ (by omega) (by omega) hx
    have WM := fun σ => m_win1 σ (by omega) (by omega) hx
    by_cases hy : ((1 : Nat) : Int) ≤ y.toInt ∧ y.toInt ≤ ((20 : Nat) : Int)
    · have W2 := fun σ => c_win1 σ (by omega) (by omega) hy
      have WM2 := fun σ => m_win1 σ (by omega) (by omega) hy
      by_cases hz : ((1 : Nat) : Int) ≤ z.toInt ∧ z.toInt ≤ ((20 : Nat) : Int)
      · have W3 := fun σ => c_win1 σ (by omega) (by omega) hz
        have WM3 := fun σ => m_win1 σ (by omega) (by omega) hz
        obtain ⟨σ1, ES, C1, n1, s1, E1, E2⟩ := zC_save h.1 (s_I_num hI)
        have r2 : z_R σ b 2 = some (b + 39) := h.1.1.2.2.2.1
        have oh : z_ob σ (b + 39) 1 = true := by obtain ⟨hl, hsv, _⟩ := h.1.2.2.2.1; exact hsv.1.1
        have h1 := zC0_reg (zEq_s E1 (by omega) (by omega)) h0
        have G1 := qG_reg (zEq_s E1 (by omega) (by omega)) hG
        have A1 := c_top h1 (k := 0) (by decide) x
        have h2 := zC0_step h1 A1
        have A2 := c_top h2 (k := 1) (by decide) y
        have h3 := zC0_step h2 A2
        have A3 := c_top h3 (k := 2) (by decide) z
        have h4 := zC0_step h3 A3
        have A := zAn_t (zAn_t A1 A2) A3
        have G4 : qG (z_pI (z_pI (z_pI σ1 (b + 1) (6 + 0) x) (b + 1) (6 + 1) y) (b + 1) (6 + 2) z) (b + 1) (gu (gu (gu g 0 x) 1 y) 2 z) := qG_congr A.2.1 (by rw [gu_ne _ _ (by omega), gu_ne _ _ (by omega), gu_ne _ _ (by omega)]) (by rw [gu_ne _ _ (by omega), gu_ne _ _ (by omega), gu_ne _ _ (by omega)]) (fun j hj => by rw [gu_ne _ _ (by omega), gu_ne _ _ (by omega), gu_ne _ _ (by omega)]) G1
        have o8' : z_ob σ1 b 8 = true := by rw [z_ob_eq s1]; exact o8
        have o2' : z_ob σ1 (b + 1) 2 = true := by rw [z_ob_eq s1]; exact o2
        have r0' : z_R σ1 b 0 = some (b + 1) := C1.1.2.1
        have e6 := (c_L h0).2.1
        obtain ⟨y', hy1, hy2⟩ := n32_of2 (x := y) (k := 20) (by omega) (by omega) (by omega)
        obtain ⟨z', hz1, hz2⟩ := n32_of2 (x := z) (k := 20) (by omega) (by omega) (by omega)
        have hz3 : 1 ≤ z' := by rw [hz2, n32_toInt (by omega)] at hz; omega
        refine zP_s h (v := g 0) (g' := gu (gu (gu g 0 x) 1 y) 2 z) (w_setTimes O o8 (zA9_line (σ2 := z_pI (z_pI (z_pI σ1 (b + 1) (6 + 0) x) (b + 1) (6 + 1) y) (b + 1) (6 + 2) z) C1 n1 E2 (zFw_of A.1) (zLn_of h4 G4) ?_)) (fun σ1 hM => ?_) (s_I_w (s_I_top hI (fun j hj => by rw [gu_ne _ _ (by omega), gu_ne _ _ (by omega), gu_ne _ _ (by omega)]) ⟨y', hy1, by rw [gu_ne _ _ (by omega), gu_same]; exact hy2⟩ ⟨z', hz3, hz1, by rw [gu_same]; exact hz2⟩) (Nat.le_refl _) (by omega))
        · simp only [f_X9_setTimes, ↓zl_eq, ↓zb_eq, ↓zb2_eq, ↓zc_some, ↓zc_none, ↓zb_pre, ↓zb2_pre, ↓zc_pre, ↓zex_eq, ↓reduceIte, Option.isSome_some, Option.isSome_none, Option.getD_some, n32_lit, W, W2, W3, bt0', o8, r0, o2, e6, r2, oh, ES, o8', r0', o2', z_ob_pI, z_R_pI]
        · obtain ⟨σ', E, M, F, t⟩ := zM_gos hM h.2.2.2.2.1
          have G := m_gs hM.1 true true true (show n32 1 = bi true from rfl) (show n32 1 = bi true from rfl) (show n32 1 = bi true from rfl)
          refine zAM_new M F t ?_
          have f1 : b + 118 + 1 = b + 119 := rfl
          have m1 := M.1
          have mg := M.2.1
          unfold zMs at m1
          rw [f1] at m1
          have sg : s_goes true true true = n32 0 := rfl
          rw [sg] at G
          have oo : z_ob (z_sA σ1 (b + 118) (gu (z_I σ1 (b + 118)) 4 (n32 0))) (b + 118) 9 = true := hM.1.1
          simp (disch := omega) only [f_X10_setTimes, f_X10_setTimes_42, ↓zl_eq, ↓zb_eq, ↓zb2_eq, ↓zc_some, ↓zc_none, ↓zb_pre, ↓zb2_pre, ↓zc_pre, ↓zex_eq, ↓reduceIte, Option.isSome_some, Option.isSome_none, Option.getD_some, n32_lit, i64_lit, WM, WM2, WM3, bt0', hM.1.1, G, Bool.and_self, oo, E, m1.1, m1.2.1, m1.2.2.2.2.2.1, m1.2.2.2.2.2.2.2.2.2.1, n32_ix, n32_toNat, mg, z_pI_eq, z_ob_sA, z_R_sA, z_ar_sA, z_ln_sA, z_I_sA, z_sA_sA]
      · have W3 := fun σ => c_win0 σ (by omega) (by omega) hz
        have WM3 := fun σ => m_win0 σ (by omega) (by omega) hz
        refine bad (e9 := ?_) (fun σ1 hM => ?_)
        · simp only [f_X9_setTimes, f_X9_setTimes_31, ↓zl_eq, ↓zb_eq, ↓zb2_eq, ↓zc_some, ↓zc_none, ↓zb_pre, ↓zb2_pre, ↓zc_pre, ↓zex_eq, ↓reduceIte, Option.isSome_some, Option.isSome_none, Option.getD_some, n32_lit, W, W2, W3, bt0', bf0']
        · simp only [f_X10_setTimes, f_X10_setTimes_41, ↓zl_eq, ↓zb_eq, ↓zb2_eq, ↓zc_some, ↓zc_none, ↓zb_pre, ↓zb2_pre, ↓zc_pre, ↓zex_eq, ↓reduceIte, Option.isSome_some, Option.isSome_none, Option.getD_some, n32_lit, i64_lit, WM, WM2, WM3, bt0', bf0']
    · have W2 := fun σ => c_win0 σ (by omega) (by omega) hy
      have WM2 := fun σ => m_win0 σ (by omega) (by omega) hy
      refine bad (e9 := ?_) (fun σ1 hM => ?_)
      · simp only [f_X9_setTimes, f_X9_setTimes_31, ↓zl_eq, ↓zb_eq, ↓zb2_eq, ↓zc_some, ↓zc_none, ↓zb_pre, ↓zb2_pre, ↓zc_pre, ↓zex_eq, ↓reduceIte, Option.isSome_some, Option.isSome_none, Option.getD_some, n32_lit, W, W2, bt0', bf0']
      · simp only [f_X10_setTimes, f_X10_setTimes_41, ↓zl_eq, ↓zb_eq, ↓zb2_eq, ↓zc_some, ↓zc_none, ↓zb_pre, ↓zb2_pre, ↓zc_pre, ↓zex_eq, ↓reduceIte, Option.isSome_some, Option.isSome_none, Option.getD_some, n32_lit, i64_lit, WM, WM2, bt0', bf0']
  · have W := fun σ => c_win0 σ (by omega) (by omega) hx
    have WM := fun σ => m_win0 σ (by omega) (by omega) hx
    refine bad (e9 := ?_) (fun σ1 hM => ?_)
    · simp only [f_X9_setTimes, f_X9_setTimes_31, ↓zl_eq, ↓zb_eq, ↓zb2_eq, ↓zc_some, ↓zc_none, ↓zb_pre, ↓zb2_pre, ↓zc_pre, ↓zex_eq, ↓reduceIte, Option.isSome_some, Option.isSome_none, Option.getD_some, n32_lit, W, bf0']
    · simp only [f_X10_setTimes, f_X10_setTimes_41, ↓zl_eq, ↓zb_eq, ↓zb2_eq, ↓zc_some, ↓zc_none, ↓zb_pre, ↓zb2_pre, ↓zc_pre, ↓zex_eq, ↓reduceIte, Option.isSome_some, Option.isSome_none, Option.getD_some, n32_lit, i64_lit, WM, bf0']
end TOP
