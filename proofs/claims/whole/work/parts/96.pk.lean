/-! THE LAW'S CASES: calls without exceptions -/
section LAW
variable {σ : zSt} {b k tl : Nat} {g : zG} {gs : Nat → zG} {tx : Nat → Int32} {B V : Nat} {xs : Nat → Int32} {L : Nat} {l4 : Int32}
/-- what a case leaves -/
def zE (b B V : Nat) (l4 : Int32) (out : Option ((zSt × Int32) ⊕ Int32)) : Prop :=
  ∃ σ2 g' k' gs' tl' tx', out = some (.inl (σ2, l4 + (4 : Int32))) ∧ zW σ2 b g' k' gs' tl' tx' B (V + 300)
/-- nothing has changed but the note of what is wrong -/
theorem zW_q (h : zW σ b g k gs tl tx B V) : zW (z_sA σ (b + 118) (gu (z_I σ (b + 118)) 4 (n32 0))) b g k gs tl tx B (V + 300) := by
  have T := zM_thr h.2.1 (n32 0)
  exact (zW_fin h.1 h.2.2.2.2.2.2.2 T.1 T.2.1 (s_I_w h.2.2.1 (Nat.le_refl _) (by omega)) (fun i hi => s_I_w (h.2.2.2.1 i hi) (Nat.le_refl _) (by omega)) h.2.2.2.2.1 h.2.2.2.2.2.1 h.2.2.2.2.2.2.1).1
/-- both sides have answered -/
theorem zW_n (h : zW σ b g k gs tl tx B V) {σ1 σ2 : zSt} {g' : zG} {k' tl' : Nat} {gs' : Nat → zG} {tx' : Nat → Int32} (C : zC σ1 b g' k' gs' tl' tx') (Q : zEq (b + 118) (b + 124) σ σ1) (n1 : z_nx σ ≤ z_nx σ1) (M : zM σ2 b g' k' gs' tl' tx') (F : zFM b σ1 σ2) (hI : s_I g' B (V + 300)) (hgs : ∀ i, i < k' → s_I (gs' i) B (V + 300)) (hk : k' ≤ 4) (ht : tl' ≤ 120) (htx : ∀ j, j < tl' → ∃ c, c < 128 ∧ tx' j = n32 c) : zW σ2 b g' k' gs' tl' tx' B (V + 300) :=
  (zW_fin C (zOut_eq h.2.2.2.2.2.2.2 Q n1) M F hI hgs hk ht htx).1
theorem L_1039 (h : zW σ b g k gs tl tx B V) : zE b B V l4 (f_L_law_1039 xs L σ b (b + 118) (b + 123) l4) := by
  have hI := h.2.2.1
  obtain ⟨o8, r0, o2, pl, ad, qu, n, hs, hG⟩ := zC_open h.1 hI
  have h0 := zC0_of hs
  obtain ⟨_, _, _, _, _, _, _, mv, hmv, h9, h7⟩ := s_I_num hI
  have LL := c_logLength h0 (by omega) h9 h7
  have E9 : f_X9_logged σ b = some (g 7) := by simp only [f_X9_logged, ↓zl_eq, ↓zb_eq, ↓zb2_eq, ↓zc_some, ↓zc_none, ↓zb_pre, ↓zb2_pre, ↓zc_pre, ↓zex_eq, ↓reduceIte, Option.isSome_some, Option.isSome_none, Option.getD_some, o8, r0, o2, LL]
  refine ⟨_, g, k, gs, tl, tx, ?_, zW_q h⟩
  have hM := h.2.1
  have m1 := hM.1
  have f1 : b + 118 + 1 = b + 119 := rfl
  have mg := hM.2.1
  unfold zMs at m1
  rw [f1] at m1
  have i1 : z_I (z_sA σ (b + 118) (gu (z_I σ (b + 118)) 4 (n32 0))) (b + 119) = g := by rw [z_I_sAn _ _ _ (by omega)]; exact mg
  have E10 : f_X10_logged σ (b + 118) = some (g 7, z_sA σ (b + 118) (gu (z_I σ (b + 118)) 4 (n32 0))) := by
    simp (disch := omega) only [f_X10_logged, ↓zl_eq, ↓zb_eq, ↓zb2_eq, ↓zc_some, ↓zc_none, ↓zb_pre, ↓zb2_pre, ↓zc_pre, ↓zex_eq, ↓reduceIte, Option.isSome_some, Option.isSome_none, Option.getD_some, n32_lit, m1.1, m1.2.1, m1.2.2.2.2.2.1, m1.2.2.2.2.2.2.2.2.2.1, n32_ix, n32_toNat, z_pI_eq, z_ob_sA, z_R_sA, z_ar_sA, z_ln_sA, i1]
  simp only [f_L_law_1039, f_L_law_1539, ↓zl_eq, ↓zb_eq, ↓zb2_eq, ↓zc_some, ↓zc_none, ↓zb_pre, ↓zb2_pre, ↓zc_pre, ↓zex_eq, ↓reduceIte, Option.isSome_some, Option.isSome_none, Option.getD_some, o8, m1.1, E9, E10]
theorem L_1120 (h : zW σ b g k gs tl tx B V) : zE b B V l4 (f_L_law_1120 xs L σ b (b + 118) (b + 123) l4) := by
  have hI := h.2.2.1
  obtain ⟨o8, r0, o2, pl, ad, qu, n, hs, hG⟩ := zC_open h.1 hI
  have h0 := zC0_of hs
  have hC := h0.2.2.2.2.2.2.1
  have r3 := hs.1.2.2.2.2.1
  have o3 := hs.1.2.2.2.2.2.2.2.2.2.2.2.2.2.2.2.2.2.2.2.2.2.1
  have E9 : f_X9_greatestRotation σ b = some (g 8) := by simp only [f_X9_greatestRotation, ↓zl_eq, ↓zb_eq, ↓zb2_eq, ↓zc_some, ↓zc_none, ↓zb_pre, ↓zb2_pre, ↓zc_pre, ↓zex_eq, ↓reduceIte, Option.isSome_some, Option.isSome_none, Option.getD_some, o8, r0, o2, r3, o3, hC.2.1]
  refine ⟨_, g, k, gs, tl, tx, ?_, zW_q h⟩
  have hM := h.2.1
  have m1 := hM.1
  have f1 : b + 118 + 1 = b + 119 := rfl
  have mg := hM.2.1
  unfold zMs at m1
  rw [f1] at m1
  have i1 : z_I (z_sA σ (b + 118) (gu (z_I σ (b + 118)) 4 (n32 0))) (b + 119) = g := by rw [z_I_sAn _ _ _ (by omega)]; exact mg
  have E10 : f_X10_greatestRotation σ (b + 118) = some (g 8, z_sA σ (b + 118) (gu (z_I σ (b + 118)) 4 (n32 0))) := by
    simp (disch := omega) only [f_X10_greatestRotation, ↓zl_eq, ↓zb_eq, ↓zb2_eq, ↓zc_some, ↓zc_none, ↓zb_pre, ↓zb2_pre, ↓zc_pre, ↓zex_eq, ↓reduceIte, Option.isSome_some, Option.isSome_none, Option.getD_some, n32_lit, m1.1, m1.2.1, m1.2.2.2.2.2.1, m1.2.2.2.2.2.2.2.2.2.1, n32_ix, n32_toNat, z_pI_eq, z_ob_sA, z_R_sA, z_ar_sA, z_ln_sA, i1]
  simp only [f_L_law_1120, f_L_law_1539, ↓zl_eq, ↓zb_eq, ↓zb2_eq, ↓zc_some, ↓zc_none, ↓zb_pre, ↓zb2_pre, ↓zc_pre, ↓zex_eq, ↓reduceIte, Option.isSome_some, Option.isSome_none, Option.getD_some, o8, m1.1, E9, E10]
theorem L_591 (h : zW σ b g k gs tl tx B V) : zE b B V l4 (f_L_law_591 xs L σ b (b + 118) (b + 123) l4) := by
  have hI := h.2.2.1
  have hk4 := h.2.2.2.2.1
  obtain ⟨o8, r0, o2, pl, ad, qu, n, hs, hG⟩ := zC_open h.1 hI
  have h0 := zC0_of hs
  obtain ⟨σ1, ES, C1, n1, s1, E1, E2⟩ := zC_save h.1 (s_I_num hI)
  have r2 : z_R σ b 2 = some (b + 39) := h.1.1.2.2.2.1
  have oh : z_ob σ (b + 39) 1 = true := by obtain ⟨hl, hsv, _⟩ := h.1.2.2.2.1; exact hsv.1.1
  have h1 := zC0_reg (zEq_s E1 (by omega) (by omega)) h0
  have G1 := qG_reg (zEq_s E1 (by omega) (by omega)) hG
  have A := c_hold h1 nn
  have h2 := zC0_step h1 A
  have G2 : qG (z_pI σ1 (b + 1) 10 nn) (b + 1) (gu g 4 nn) := qG_congr A.2.1 (gu_ne _ _ (by omega)) (gu_ne _ _ (by omega)) (fun j hj => gu_ne _ _ (by omega)) G1
  have o8' : z_ob σ1 b 8 = true := by rw [z_ob_eq s1]; exact o8
  have o2' : z_ob σ1 (b + 1) 2 = true := by rw [z_ob_eq s1]; exact o2
  have r0' : z_R σ1 b 0 = some (b + 1) := C1.1.2.1
  have e10 := (c_L h0).2.2.2.2.2
  have E9 : f_X9_loseToken σ b = some (g 4, z_pI σ1 (b + 1) 10 nn) := by
    simp only [f_X9_loseToken, ↓zl_eq, ↓zb_eq, ↓zb2_eq, ↓zc_some, ↓zc_none, ↓zb_pre, ↓zb2_pre, ↓zc_pre, ↓zex_eq, ↓reduceIte, Option.isSome_some, Option.isSome_none, Option.getD_some, n32_lit, n32_nn2, o8, r0, o2, e10, r2, oh, ES, o8', r0', o2']
  have C2 : zC (z_pI σ1 (b + 1) 10 nn) b (gu g 4 nn) (s_pk k) (s_pg k gs g) tl tx := zC_line (zFw_of A.1) (zLn_of h2 G2) C1
  have Q : zEq (b + 118) (b + 124) σ (z_pI σ1 (b + 1) 10 nn) := zEq_t (zEq_s (E2 (b + 124)) (by omega) (Nat.le_refl _)) (zEq_fw (zFw_of A.1) (by omega))
  have hM := zM_reg (zEq_s Q (Nat.le_refl _) (by omega)) h.2.1
  have n2 : z_nx σ ≤ z_nx (z_pI σ1 (b + 1) 10 nn) := by rw [A.1.1, n1]; exact Nat.le_refl _
  generalize z_pI σ1 (b + 1) 10 nn = σ3 at E9 C2 Q hM n2
  obtain ⟨σ', E, M, F, t⟩ := zM_gos hM hk4
  have N := zM_new M (gu g 4 nn)
  refine ⟨_, gu g 4 nn, s_pk k, s_pg k gs g, tl, tx, ?_, zW_n h C2 Q n2 N.1 (zFM_t F N.2.1) (s_I_w (s_I_lose hI) (Nat.le_refl _) (by omega)) (fun i hi => s_I_w (s_pg_I hk4 hI h.2.2.2.1 i hi) (Nat.le_refl _) (by omega)) (s_pk4 hk4) h.2.2.2.2.2.1 h.2.2.2.2.2.2.1⟩
  have m1 := M.1
  have f1 : b + 118 + 1 = b + 119 := rfl
  have mg := M.2.1
  unfold zMs at m1
  rw [f1] at m1
  have oM := hM.1.1
  have E10 : f_X10_loseToken σ3 (b + 118) = some (g 4, z_sA σ' (b + 119) (gu g 4 nn)) := by
    simp (disch := omega) only [f_X10_loseToken, ↓zl_eq, ↓zb_eq, ↓zb2_eq, ↓zc_some, ↓zc_none, ↓zb_pre, ↓zb2_pre, ↓zc_pre, ↓zex_eq, ↓reduceIte, Option.isSome_some, Option.isSome_none, Option.getD_some, n32_lit, n32_nn2, oM, E, m1.1, m1.2.1, m1.2.2.2.2.2.1, m1.2.2.2.2.2.2.2.2.2.1, n32_ix, n32_toNat, z_pI_eq, z_ob_sA, mg]
  simp only [f_L_law_591, f_L_law_1539, ↓zl_eq, ↓zb_eq, ↓zb2_eq, ↓zc_some, ↓zc_none, ↓zb_pre, ↓zb2_pre, ↓zc_pre, ↓zex_eq, ↓reduceIte, Option.isSome_some, Option.isSome_none, Option.getD_some, o8, oM, E9, E10]
theorem L_1455 (h : zW σ b g k gs tl tx B V) : zE b B V l4 (f_L_law_1455 xs L σ b (b + 118) (b + 123) l4) := by
  have o8 := h.1.1.1
  have e4 := h.1.2.2.2.2.1
  have E9 : f_X9_clearText σ b = some (n32 tl, z_sA σ b (gu (z_I σ b) 4 (n32 0))) := by
    simp only [f_X9_clearText, ↓zl_eq, ↓zb_eq, ↓zb2_eq, ↓zc_some, ↓zc_none, ↓zb_pre, ↓zb2_pre, ↓zc_pre, ↓zex_eq, ↓reduceIte, Option.isSome_some, Option.isSome_none, Option.getD_some, n32_lit, o8, e4, z_pI_eq]
  have C2 : zC (z_sA σ b (gu (z_I σ b) 4 (n32 0))) b g k gs 0 tx := zC_text h.1 rfl rfl rfl (fun q h1 h2 => z_I_sAn _ _ _ h1) (by rw [z_I_sA, gu_same]) (fun j hj => by omega)
  have Q : zEq (b + 118) (b + 124) σ (z_sA σ b (gu (z_I σ b) 4 (n32 0))) := fun q h1 h2 => ⟨rfl, z_I_sAn _ _ _ (by omega), rfl, rfl⟩
  have hM := zM_reg (zEq_s Q (Nat.le_refl _) (by omega)) h.2.1
  have n2 : z_nx σ ≤ z_nx (z_sA σ b (gu (z_I σ b) 4 (n32 0))) := Nat.le_refl _
  generalize z_sA σ b (gu (z_I σ b) 4 (n32 0)) = σ3 at E9 C2 Q hM n2
  have oM := hM.1.1
  have e6 := hM.2.2.2.2.1
  have M2 : zM (z_sA σ3 (b + 118) (gu (gu (z_I σ3 (b + 118)) 4 (n32 0)) 6 (n32 0))) b g k gs 0 tx := by
    obtain ⟨a1, a2, a3, a4, a5, a6⟩ := hM
    refine ⟨a1, by rw [z_I_sAn _ _ _ (by omega)]; exact a2, by rw [z_I_sA, gu_ne _ _ (by omega), gu_ne _ _ (by omega)]; exact a3, fun i j hi hj => by rw [z_I_sAn _ _ _ (by omega)]; exact a4 i j hi hj, by rw [z_I_sA, gu_same], fun j hj => by omega⟩
  have g6 : gu (z_I σ3 (b + 118)) 4 (n32 0) 6 = n32 tl := by rw [gu_ne _ _ (by omega)]; exact e6
  have E10 : f_X10_clearText σ3 (b + 118) = some (n32 tl, z_sA σ3 (b + 118) (gu (gu (z_I σ3 (b + 118)) 4 (n32 0)) 6 (n32 0))) := by
    simp only [f_X10_clearText, ↓zl_eq, ↓zb_eq, ↓zb2_eq, ↓zc_some, ↓zc_none, ↓zb_pre, ↓zb2_pre, ↓zc_pre, ↓zex_eq, ↓reduceIte, Option.isSome_some, Option.isSome_none, Option.getD_some, n32_lit, oM, z_pI_eq, z_ob_sA, z_I_sA, z_sA_sA, g6]
  refine ⟨_, g, k, gs, 0, tx, ?_, zW_n h C2 Q n2 M2 (zFM_sA _ (by omega) (by omega) _) (s_I_w h.2.2.1 (Nat.le_refl _) (by omega)) (fun i hi => s_I_w (h.2.2.2.1 i hi) (Nat.le_refl _) (by omega)) h.2.2.2.2.1 (by omega) (fun j hj => by omega)⟩
  simp only [f_L_law_1455, f_L_law_1539, ↓zl_eq, ↓zb_eq, ↓zb2_eq, ↓zc_some, ↓zc_none, ↓zb_pre, ↓zb2_pre, ↓zc_pre, ↓zex_eq, ↓reduceIte, Option.isSome_some, Option.isSome_none, Option.getD_some, o8, oM, E9, E10]
theorem L_1468 (h : zW σ b g k gs tl tx B V) : zE b B V l4 (f_L_law_1468 xs L σ b (b + 118) (b + 123) l4) := by
  obtain ⟨v, g', k', gs', tl', tx', ⟨σ1, E9, C1, Q, n1⟩, HM, hI, hgs, hk, ht, htx⟩ := p_parse h
  have o8 := h.1.1.1
  have hM := zM_reg (zEq_s Q (Nat.le_refl _) (by omega)) h.2.1
  obtain ⟨σ2, E10', M2, F⟩ := HM σ1 hM
  have E10 : f_X10_parse σ1 (b + 118) = some (v, σ2) := E10'
  have oM := hM.1.1
  refine ⟨σ2, g', k', gs', tl', tx', ?_, zW_n h C1 Q n1 M2 F hI hgs hk ht htx⟩
  simp only [f_L_law_1468, f_L_law_1539, ↓zl_eq, ↓zb_eq, ↓zb2_eq, ↓zc_some, ↓zc_none, ↓zb_pre, ↓zb2_pre, ↓zc_pre, ↓zex_eq, ↓reduceIte, Option.isSome_some, Option.isSome_none, Option.getD_some, o8, oM, E9, E10]
theorem L_1525 (h : zW σ b g k gs tl tx B V) : zE b B V l4 (f_L_law_1525 xs L σ b (b + 118) (b + 123) l4) := by
  have hI := h.2.2.1
  obtain ⟨o8, r0, o2, pl, ad, qu, n, hs, hG⟩ := zC_open h.1 hI
  have h0 := zC0_of hs
  obtain ⟨h5, h52⟩ := s_I_5 hI
  obtain ⟨_, _, _, _, _, _, _, mv, hmv, h9, h7⟩ := s_I_num hI
  have HH := c_hashed hs hG h5 h52 hmv h9 h7
  have r2 : z_R σ b 2 = some (b + 39) := h.1.1.2.2.2.1
  have e4 := h.1.2.2.2.2.1
  obtain ⟨hl, hsv, hr⟩ := h.1.2.2.2.1
  have oh : z_ob σ (b + 39) 1 = true := hsv.1.1
  have ek : z_I σ (b + 39) 1 = n32 k := hsv.2.1
  have E9 : f_X9_digest σ b = some (31 * s_hall g qu (31 * 3169 + (n32 tl).toInt64) + (n32 k).toInt64) := by
    simp only [f_X9_digest, f_X9_mixed, ↓zl_eq, ↓zb_eq, ↓zb2_eq, ↓zc_some, ↓zc_none, ↓zb_pre, ↓zb2_pre, ↓zc_pre, ↓zex_eq, ↓reduceIte, Option.isSome_some, Option.isSome_none, Option.getD_some, o8, e4, r0, o2, HH, r2, oh, ek]
  have hM := h.2.1
  have T := zM_thr hM (n32 0)
  have qk : ∀ x, x < 32 → s_is g x = true → s_qok g x (qu x) := by
    intro x hx his
    obtain ⟨_, _, _, _, _, qa, _, qq⟩ := h0.2.2
    have hz : g (18 + 7 * x + 0) = n32 1 := of_decide_eq_true his
    rcases qa.2.2.2 x hx with z | ⟨_, i, hi, rfl⟩
    · rw [z] at hz; exact absurd hz nn01
    · exact (qq i hi).2.2.2
  refine ⟨_, g, k, gs, tl, tx, ?_, zW_q h⟩
  have i6 : z_I (z_sA σ (b + 118) (gu (z_I σ (b + 118)) 4 (n32 0))) (b + 118) 6 = n32 tl := T.1.2.2.2.2.1
  have i3 : z_I (z_sA σ (b + 118) (gu (z_I σ (b + 118)) 4 (n32 0))) (b + 118) 3 = n32 k := T.1.2.2.1
  have D := fun H => m_digest19 (qu := qu) T.1.1 T.1.2.1 h5 h52 h7 (by omega) i3 qk H
  have oM := hM.1.1
  have E10 : f_X10_digest σ (b + 118) = some (31 * s_hall g qu (31 * 3169 + (n32 tl).toInt64) + (n32 k).toInt64, z_sA σ (b + 118) (gu (z_I σ (b + 118)) 4 (n32 0))) := by
    simp only [f_X10_digest, f_X10_sums, ↓zl_eq, ↓zb_eq, ↓zb2_eq, ↓zc_some, ↓zc_none, ↓zb_pre, ↓zb2_pre, ↓zc_pre, ↓zex_eq, ↓reduceIte, Option.isSome_some, Option.isSome_none, Option.getD_some, n32_lit, oM, z_pI_eq, z_ob_sA, i6, D]
  simp only [f_L_law_1525, f_L_law_1539, ↓zl_eq, ↓zb_eq, ↓zb2_eq, ↓zc_some, ↓zc_none, ↓zb_pre, ↓zb2_pre, ↓zc_pre, ↓zex_eq, ↓reduceIte, Option.isSome_some, Option.isSome_none, Option.getD_some, o8, oM, E9, E10]
  rw [if_pos ((lg_cmp_eq _ _).2 rfl)]
end LAW
