/-! WHAT IF -/
/-- the first place with P, of n from j on, or the last -/
def s_fst (P : Nat → Bool) : Nat → Nat → Nat
  | 0, j => j
  | n + 1, j => if P j = true then j else s_fst P n (j + 1)
theorem s_fst_p (P : Nat → Bool) : ∀ n j, j ≤ s_fst P n j ∧ s_fst P n j ≤ j + n ∧ (s_fst P n j = j + n ∨ P (s_fst P n j) = true) ∧ ∀ i, j ≤ i → i < s_fst P n j → P i = false
  | 0, j => ⟨Nat.le_refl _, Nat.le_refl _, Or.inl rfl, fun i h1 h2 => by have h3 : i < j := h2; omega⟩
  | n + 1, j => by
    obtain ⟨h1, h2, h3, h4⟩ := s_fst_p P n (j + 1)
    unfold s_fst
    by_cases hp : P j = true
    · rw [if_pos hp]
      exact ⟨Nat.le_refl _, by omega, Or.inr hp, fun i a b => by omega⟩
    · rw [if_neg hp]
      refine ⟨by omega, by omega, ?_, fun i a b => ?_⟩
      · rcases h3 with h3 | h3
        · exact Or.inl (by omega)
        · exact Or.inr h3
      · by_cases hij : i = j
        · rw [hij]; simpa using hp
        · exact h4 i (by omega) b
theorem s_eq_r (g : zG) : s_eq g g := fun _ _ => rfl
theorem s_eq_s {g g' : zG} (h : s_eq g g') : s_eq g' g := fun j hj => (h j hj).symm
theorem s_eq_t {g g' g'' : zG} (h : s_eq g g') (h2 : s_eq g' g'') : s_eq g g'' := fun j hj => (h2 j hj).trans (h j hj)
theorem s_eq_gu {g g' : zG} (h : s_eq g g') (k : Nat) (v : Int32) : s_eq (gu g k v) (gu g' k v) := fun j hj => by
  unfold gu
  split
  · rfl
  · exact h j hj
theorem s_cp_cp (f A X : zG) : s_cp (s_cp f A 942) X 942 = s_cp f X 942 := by
  funext j
  unfold s_cp
  by_cases h : j < 942
  · rw [if_pos h, if_pos h, if_pos h]
  · rw [if_neg h, if_neg h]
theorem s_cp_s (g f A : zG) (h : s_eq g f) (X : zG) : s_cp f X 942 = s_cp g X 942 := by
  funext j
  unfold s_cp
  by_cases hj : j < 942
  · rw [if_pos hj, if_pos hj, h j hj]
  · rw [if_neg hj, if_neg hj]
section TOP
variable {σ : zSt} {b k tl : Nat} {g g' : zG} {gs : Nat → zG} {tx : Nat → Int32} {B V : Nat}
theorem s_I_eq (h : s_eq g g') (H : s_I g B V) : s_I g' B V := by
  have q5 := (s_I_5 H).1
  refine s_I_mk H (h 3 (by decide)) (h 5 (by decide)) (by rw [h 6 (by decide)]; exact s_I_6 H) (by rw [h 2 (by decide)]; exact s_I_2 H) (by rw [h 1 (by decide)]; exact s_I_1 H) (h 7 (by decide)) (h 9 (by decide)) (h 10 (by decide)) (fun m w hm hw => h _ (by omega)) (s_sta_congr (fun j _ _ => h j (by omega)) (s_I_sta H)) (s_hol_eq h (s_I_hol H)) ?_ (fun x hx h0 => by rw [h _ (by omega)]; exact h0)
  rcases s_I_hon H with h4 | ⟨x, hx, h4, hz⟩
  · exact Or.inl (by rw [h 4 (by decide)]; exact h4)
  · exact Or.inr ⟨x, hx, by rw [h 4 (by decide)]; exact h4, by rw [h _ (by omega)]; exact hz⟩
theorem zC_eq (h : s_eq g g') (hN : s_num g) (H : zC σ b g k gs tl tx) : zC σ b g' k gs tl tx := by
  obtain ⟨t, hl, hb, hs, h4, ht⟩ := H
  exact ⟨t, zLn_eq h hN hl, hb, hs, h4, ht⟩
/-- the class: a line for trials is made one with the line -/
theorem zC_copy (h : zC σ b g k gs tl tx) (hN : s_num g) : ∃ σ1, f_X2_copyFrom σ (b + 20) (b + 1) = some σ1 ∧ zFr (b + 20) σ σ1 ∧ zLn σ1 (b + 20) g ∧ zC σ1 b g k gs tl tx := by
  obtain ⟨σ1, E, F, L⟩ := zLn_copy h.2.2.1 h.2.1 (by omega) hN
  exact ⟨σ1, E, F, L, zC_trial (zFw_of F) (zLn_bl L) h⟩
theorem zA9_trial {σ2 : zSt} (h : zC σ b g k gs tl tx) (F : zFr (b + 20) σ σ2) (L : zBl σ2 (b + 20)) (he : s_eq g g') (hN : s_num g) {out : Option ((Nat ⊕ Int32) × zSt)} {r : Nat ⊕ Int32} (E : out = some (r, σ2)) : zA9 σ b out r g' k gs tl tx :=
  ⟨σ2, E, zC_eq he hN (zC_trial (zFw_of F) L h), zEq_fw (zFw_of F) (by omega), by rw [F.1]; exact Nat.le_refl _⟩
/-- the reference lays its array aside -/
theorem zM_lays (h : zM σ b g k gs tl tx) : ∃ A, f_X10_lays σ (b + 118) = some (z_sA σ (b + 121) (s_cp g A 942)) ∧ zM (z_sA σ (b + 121) (s_cp g A 942)) b g k gs tl tx ∧ zFM b σ (z_sA σ (b + 121) (s_cp g A 942)) ∧ z_I (z_sA σ (b + 121) (s_cp g A 942)) (b + 118) = z_I σ (b + 118) := by
  obtain ⟨hM, h1, h2, h3, h4, h5⟩ := h
  have E := m_lays hM
  have f1 : b + 118 + 1 = b + 119 := rfl
  have f3 : b + 118 + 3 = b + 121 := rfl
  rw [f1, f3, h1] at E
  refine ⟨z_I σ (b + 121), E, ⟨hM, ?_, ?_, fun i j hi hj => ?_, ?_, fun j hj => ?_⟩, zFM_sA _ (by omega) (by omega) _, z_I_sAn _ _ _ (by omega)⟩
  · rw [z_I_sAn _ _ _ (by omega)]; exact h1
  · rw [z_I_sAn _ _ _ (by omega)]; exact h2
  · rw [z_I_sAn _ _ _ (by omega)]; exact h3 i j hi hj
  · rw [z_I_sAn _ _ _ (by omega)]; exact h4
  · rw [z_I_sAn _ _ _ (by omega)]; exact h5 j hj
/-- and takes it back -/
theorem m_back (hM : zMs σ (b + 118)) {A f X : zG} (h3 : z_I σ (b + 121) = s_cp f A 942) : f_X10_takesBack (z_sA σ (b + 118 + 1) X) (b + 118) = some (z_sA σ (b + 119) (s_cp f X 942)) := by
  have E := m_takesBack (zMs_sA hM (b + 118 + 1) X)
  have f1 : b + 118 + 1 = b + 119 := rfl
  have f3 : b + 118 + 3 = b + 121 := rfl
  rw [f1] at E ⊢
  rw [f3, z_I_sA, z_sA_sA, z_I_sAn _ _ _ (by omega), h3, s_cp_cp] at E
  exact E
theorem p_completeAfter (h : zW σ b g k gs tl tx B V) (hB : B = 1740000) (hV : V ≤ 1000000) : zP σ b g k gs tl tx B V (f_L_completeAfter σ b (b + 123)) (fun σ1 => f_X10_completeAfter σ1 (b + 118)) := by
  have hI := h.2.2.1
  have O := h.2.2.2.2.2.2.2
  obtain ⟨o8, r0, o2, pl, ad, qu, n, hs, hG⟩ := zC_open h.1 hI
  have h0 := zC0_of hs
  obtain ⟨t3, tB⟩ := s_I_3 hI
  have late := c_late h0 t3 (by omega)
  have r17 : ∀ σ1, zM σ1 b g k gs tl tx → f_X10_completeAfter σ1 (b + 118) = f_X10_completeAfter_17 σ1 (b + 118) (bi (decide (s_nat g 3 ≤ 900000))) (some (b + 118)) := by
    intro σ1 hM
    have e1 : z_I σ1 (b + 118 + 1) 3 = n32 (s_nat g 3) := by have := hM.2.1; rw [show z_I σ1 (b + 118 + 1) = g from this]; exact t3
    have t1 := hM.1
    simp (disch := omega) only [f_X10_completeAfter, ↓zl_eq, ↓zb_eq, ↓zb2_eq, ↓zc_some, ↓zc_none, ↓zb_pre, ↓zb2_pre, ↓zc_pre, ↓zex_eq, ↓reduceIte, Option.isSome_some, Option.isSome_none, Option.getD_some, n32_lit, t1.1, t1.2.1, t1.2.2.2.2.2.1, t1.2.2.2.2.2.2.2.2.2.1, n32_ix, n32_toNat, e1, n32_lt]
    by_cases hc : s_nat g 3 ≤ 900000
    · rw [if_neg (by omega), decide_eq_true hc]; rfl
    · rw [if_pos (by omega), decide_eq_false hc]; rfl
  by_cases ht : s_nat g 3 ≤ 900000
  · rw [decide_eq_true ht] at late r17
    have rt : z_R σ b 1 = some (b + 20) := h.1.1.2.2.1
    have ot : z_ob σ (b + 20) 2 = true := h.1.2.2.1.1.1
    obtain ⟨σ1, EC, F1, L1, C1⟩ := zC_copy h.1 (s_I_num hI)
    obtain ⟨st, st0, H⟩ := c_chain L1 (s_I_low hI ht) 300 (by omega) (by omega)
    obtain ⟨J1, J2, J3, J4⟩ := s_fst_p (fun j => s_compl (s_it g j) 32) 300 0
    generalize s_fst (fun j => s_compl (s_it g j) 32) 300 0 = J at J1 J2 J3 J4
    have cmp : ∀ j, j ≤ 300 → f_X2_isComplete (st j) (b + 20) = some (bi (s_compl (s_it g j) 32)) := fun j hj => by
      obtain ⟨_, ⟨pl', ad', qu', n', a1, a2, a3, a4⟩, Ij, _, _⟩ := H j hj
      exact c_isComplete ⟨a1, a2, a3, s_I_6 Ij, s_I_sta Ij⟩
    have sh : ∀ j, j ≤ 300 → z_ob (st j) b 8 = true ∧ z_R (st j) b 1 = some (b + 20) ∧ z_ob (st j) (b + 20) 2 = true := fun j hj => by
      have F := zFr_t F1 (H j hj).1
      exact ⟨by rw [z_ob_eq F.2.1]; exact o8, by rw [F.2.2.1]; exact rt, by rw [z_ob_eq F.2.1]; exact ot⟩
    have FJ := zFr_t F1 (H J (by omega)).1
    have LP : f_X9_completeAfter_33 b σ1 (n32 0) = some (.inr (if s_compl (s_it g J) 32 = true then n32 J else nn), st J) := by
      unfold f_X9_completeAfter_33
      have e0 : (σ1, n32 0) = ((fun j => (st j, n32 j)) 0 : zSt × Int32) := by rw [← st0]
      rw [e0]
      refine zloop_go (N := zN) (fun j => (st j, n32 j)) _ J (fun j hj => ?_) ?_ (by unfold zN; omega)
      · show b_X9_completeAfter_33 b (st j) (n32 j) = some (.inl (st (j + 1), n32 (j + 1)))
        obtain ⟨s1, s2, s3⟩ := sh j (by omega)
        have cj := cmp j (by omega)
        rw [J4 j (by omega) hj] at cj
        simp (disch := omega) only [b_X9_completeAfter_33, ↓zl_eq, ↓zb_eq, ↓zb2_eq, ↓zc_some, ↓zc_none, ↓zb_pre, ↓zb2_pre, ↓zc_pre, ↓zex_eq, ↓reduceIte, Option.isSome_some, Option.isSome_none, Option.getD_some, n32_lit, n32_le, s1, s2, s3, cj, bf0', ((H j (by omega)).2.2.2.2 (by omega)).1, n32_add]
        rw [if_neg (by omega)]
      · show b_X9_completeAfter_33 b (st J) (n32 J) = _
        obtain ⟨s1, s2, s3⟩ := sh J (by omega)
        have cj := cmp J (by omega)
        by_cases h3 : J = 300
        · subst h3
          cases hc : s_compl (s_it g 300) 32 with
          | true =>
            rw [hc] at cj
            simp (disch := omega) only [b_X9_completeAfter_33, f_X9_completeAfter_82, ↓zl_eq, ↓zb_eq, ↓zb2_eq, ↓zc_some, ↓zc_none, ↓zb_pre, ↓zb2_pre, ↓zc_pre, ↓zex_eq, ↓reduceIte, Option.isSome_some, Option.isSome_none, Option.getD_some, n32_lit, n32_le, Nat.le_refl, s1, s2, s3, cj, bt0']
          | false =>
            rw [hc] at cj
            simp (disch := omega) only [b_X9_completeAfter_33, f_X9_completeAfter_82, ↓zl_eq, ↓zb_eq, ↓zb2_eq, ↓zc_some, ↓zc_none, ↓zb_pre, ↓zb2_pre, ↓zc_pre, ↓zex_eq, ↓reduceIte, Option.isSome_some, Option.isSome_none, Option.getD_some, n32_lit, n32_nn2, n32_le, Nat.le_refl, s1, s2, s3, cj, bf0', Bool.false_eq_true]
        · have hc : s_compl (s_it g J) 32 = true := by
            rcases J3 with h | h
            · omega
            · exact h
          rw [hc] at cj ⊢
          simp (disch := omega) only [b_X9_completeAfter_33, ↓zl_eq, ↓zb_eq, ↓zb2_eq, ↓zc_some, ↓zc_none, ↓zb_pre, ↓zb2_pre, ↓zc_pre, ↓zex_eq, ↓reduceIte, Option.isSome_some, Option.isSome_none, Option.getD_some, n32_lit, n32_le, s1, s2, s3, cj, bt0']
          rw [if_neg (by omega)]
    have eq : s_eq g (s_cp g (s_it g J) 942) := s_cp_eq g (s_it g J)
    refine ⟨0, if s_compl (s_it g J) 32 = true then n32 J else nn, s_cp g (s_it g J) 942, k, gs, tl, tx, w_completeAfter O o8 (zA9_trial (σ2 := st J) h.1 FJ (zLn_bl (H J (by omega)).2.1) eq (s_I_num hI) ?_), fun σ1 hM => ?_, s_I_w (s_I_eq eq hI) (Nat.le_refl _) (by omega), fun i hi => s_I_w (h.2.2.2.1 i hi) (Nat.le_refl _) (by omega), h.2.2.2.2.1, h.2.2.2.2.2.1, h.2.2.2.2.2.2.1⟩
    · simp only [f_X9_completeAfter, ↓zl_eq, ↓zb_eq, ↓zb2_eq, ↓zc_some, ↓zc_none, ↓zb_pre, ↓zb2_pre, ↓zc_pre, ↓zex_eq, ↓reduceIte, Option.isSome_some, Option.isSome_none, Option.getD_some, n32_lit, bf0', Bool.not_true, o8, r0, o2, late, rt, ot, EC, LP]
    · have T := zM_thr hM (n32 0)
      obtain ⟨A, EL, ML, FL, tL⟩ := zM_lays T.1
      generalize hσ3 : z_sA (z_sA σ1 (b + 118) (gu (z_I σ1 (b + 118)) 4 (n32 0))) (b + 121) (s_cp g A 942) = σ3 at EL ML FL tL
      have a3 : z_I σ3 (b + 121) = s_cp g A 942 := by rw [← hσ3, z_I_sA]
      have mg : z_I σ3 (b + 118 + 1) = g := ML.2.1
      have hv : ∀ j, j < 300 → s_vok (s_it g j) := fun j hj => ((H j (by omega)).2.2.2.2 hj).2
      have G := m_gs hM.1 true true true (show bi true = bi true from rfl) (show n32 1 = bi true from rfl) (show n32 1 = bi true from rfl)
      have sg : s_goes true true true = n32 0 := rfl
      rw [sg] at G
      have oo : z_ob (z_sA σ1 (b + 118) (gu (z_I σ1 (b + 118)) 4 (n32 0))) (b + 118) 9 = true := hM.1.1
      have cm : ∀ j, f_X10_isComplete (z_sA σ3 (b + 118 + 1) (s_it g j)) (b + 118) = some (bi (s_compl (s_it g j) 32)) := fun j => by
        have := m_isComplete (zMs_sA ML.1 (b + 118 + 1) (s_it g j))
        rw [z_I_sA] at this
        exact this
      have LM : f_X10_completeAfter_33 (b + 118) σ3 (n32 0) = some (if s_compl (s_it g J) 32 = true then n32 J else nn, z_sA σ3 (b + 119) (s_cp g (s_it g J) 942)) := by
        unfold f_X10_completeAfter_33
        have e0 : (σ3, n32 0) = ((fun j => (z_sA σ3 (b + 118 + 1) (s_it g j), n32 j)) 0 : zSt × Int32) := by
          have : z_sA σ3 (b + 118 + 1) (s_it g 0) = σ3 := by
            show z_sA σ3 (b + 118 + 1) g = σ3
            rw [← mg, z_sA_id]
          simp only [this]
        rw [e0]
        have tb := m_back ML.1 (X := s_it g J) a3
        have f57 : f_X10_completeAfter_57 (z_sA σ3 (b + 118 + 1) (s_it g J)) (b + 118) (n32 J) = some (if s_compl (s_it g J) 32 = true then n32 J else nn, z_sA σ3 (b + 119) (s_cp g (s_it g J) 942)) := by
          have cj := cm J
          cases hc : s_compl (s_it g J) 32 with
          | true =>
            rw [hc] at cj
            simp only [f_X10_completeAfter_57, f_X10_completeAfter_69, ↓zl_eq, ↓zb_eq, ↓zb2_eq, ↓zc_some, ↓zc_none, ↓zb_pre, ↓zb2_pre, ↓zc_pre, ↓zex_eq, ↓reduceIte, Option.isSome_some, Option.isSome_none, Option.getD_some, n32_lit, z_ob_sA, ML.1.1, cj, bt0', tb]
          | false =>
            rw [hc] at cj
            simp only [f_X10_completeAfter_57, f_X10_completeAfter_69, ↓zl_eq, ↓zb_eq, ↓zb2_eq, ↓zc_some, ↓zc_none, ↓zb_pre, ↓zb2_pre, ↓zc_pre, ↓zex_eq, ↓reduceIte, Option.isSome_some, Option.isSome_none, Option.getD_some, n32_lit, n32_nn2, z_ob_sA, ML.1.1, cj, bf0', tb, Bool.false_eq_true]
        refine zloop_go (N := zN) (fun j => (z_sA σ3 (b + 118 + 1) (s_it g j), n32 j)) _ J (fun j hj => ?_) ?_ (by unfold zN; omega)
        · show b_X10_completeAfter_33 (b + 118) (z_sA σ3 (b + 118 + 1) (s_it g j)) (n32 j) = some (.inl (z_sA σ3 (b + 118 + 1) (s_it g (j + 1)), n32 (j + 1)))
          have C := m_chain (σ := σ3) (g := g) ML.1 hv (show j < 300 by omega)
          have cj := cm j
          rw [J4 j (by omega) hj] at cj
          simp (disch := omega) only [b_X10_completeAfter_33, ↓zl_eq, ↓zb_eq, ↓zb2_eq, ↓zc_some, ↓zc_none, ↓zb_pre, ↓zb2_pre, ↓zc_pre, ↓zex_eq, ↓reduceIte, Option.isSome_some, Option.isSome_none, Option.getD_some, n32_lit, n32_le, z_ob_sA, ML.1.1, cj, bf0', C, n32_add]
          rw [if_neg (by omega)]
        · show b_X10_completeAfter_33 (b + 118) (z_sA σ3 (b + 118 + 1) (s_it g J)) (n32 J) = _
          by_cases h3 : J = 300
          · subst h3
            simp (disch := omega) only [b_X10_completeAfter_33, ↓zl_eq, ↓zb_eq, ↓zb2_eq, ↓zc_some, ↓zc_none, ↓zb_pre, ↓zb2_pre, ↓zc_pre, ↓zex_eq, ↓reduceIte, Option.isSome_some, Option.isSome_none, Option.getD_some, n32_lit, n32_le, Nat.le_refl, f57]
          · have hc : s_compl (s_it g J) 32 = true := by
              rcases J3 with h | h
              · omega
              · exact h
            have cj := cm J
            rw [hc] at cj
            simp (disch := omega) only [b_X10_completeAfter_33, ↓zl_eq, ↓zb_eq, ↓zb2_eq, ↓zc_some, ↓zc_none, ↓zb_pre, ↓zb2_pre, ↓zc_pre, ↓zex_eq, ↓reduceIte, Option.isSome_some, Option.isSome_none, Option.getD_some, n32_lit, n32_le, z_ob_sA, ML.1.1, cj, bt0', f57]
            rw [if_neg (by omega)]
      have N := zM_new ML (s_cp g (s_it g J) 942)
      refine ⟨_, ?_, N.1, zFM_t T.2.1 (zFM_t FL N.2.1), by rw [N.2.2, tL]; exact T.2.2⟩
      show f_X10_completeAfter σ1 (b + 118) = _
      rw [r17 σ1 hM]
      simp only [f_X10_completeAfter_17, ↓zl_eq, ↓zb_eq, ↓zb2_eq, ↓zc_some, ↓zc_none, ↓zb_pre, ↓zb2_pre, ↓zc_pre, ↓zex_eq, ↓reduceIte, Option.isSome_some, Option.isSome_none, Option.getD_some, n32_lit, hM.1.1, G, Bool.and_self, bt0', oo, EL, LM]
  · rw [decide_eq_false ht] at late r17
    refine zP_q h (r := 1) (v := 0) (x_completeAfter1 _ O o8 (zA9_x h.1 ?_)) (fun σ1 hM => zAM_q hM ?_)
    · simp only [f_X9_completeAfter, ↓zl_eq, ↓zb_eq, ↓zb2_eq, ↓zc_some, ↓zc_none, ↓zb_pre, ↓zb2_pre, ↓zc_pre, ↓zex_eq, ↓reduceIte, Option.isSome_some, Option.isSome_none, Option.getD_some, n32_lit, bt0', Bool.not_false, o8, r0, o2, late]
    · have G := m_gs hM.1 false true true (show bi false = bi false from rfl) (show n32 1 = bi true from rfl) (show n32 1 = bi true from rfl)
      show f_X10_completeAfter σ1 (b + 118) = _
      rw [r17 σ1 hM]
      simp only [f_X10_completeAfter_17, ↓zl_eq, ↓zb_eq, ↓zb2_eq, ↓zc_some, ↓zc_none, ↓zb_pre, ↓zb2_pre, ↓zc_pre, ↓zex_eq, ↓reduceIte, Option.isSome_some, Option.isSome_none, Option.getD_some, n32_lit, hM.1.1, G, Bool.false_and, bf0']
      rfl
end TOP
