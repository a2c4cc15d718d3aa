/-! TEXT, UNDO, AND CALLS WITHOUT EXCEPTIONS -/
theorem nar_byte : ∀ c, c < 128 → vp_nar .byte (n32 c).toInt8.toInt32 = n32 c := by decide +kernel
section TOP
variable {σ : zSt} {b k tl : Nat} {g g' : zG} {gs : Nat → zG} {tx : Nat → Int32} {B V : Nat}
/-- only the text has changed -/
theorem zC_text {σ1 : zSt} {tl' : Nat} {tx' : Nat → Int32} (h : zC σ b g k gs tl tx) (hs : z_sh σ1 = z_sh σ) (hR : z_R σ1 = z_R σ) (hJ : z_J σ1 = z_J σ) (hI : ∀ q, q ≠ b → q ≠ b + 117 → z_I σ1 q = z_I σ q) (h4 : z_I σ1 b 4 = n32 tl') (ht : ∀ j, j < tl' → z_I σ1 (b + 117) j = tx' j) : zC σ1 b g k gs tl' tx' := by
  obtain ⟨⟨t1, t2, t3, t4, t5, t6, t7⟩, hl, hb, ⟨hl', hsv, hr⟩, _, _⟩ := h
  have E : zEq (b + 1) (b + 117) σ σ1 := fun q a1 a2 => ⟨by rw [hs], hI q (by omega) (by omega), by rw [hJ], by rw [hR]⟩
  exact ⟨⟨by rw [z_ob_eq hs]; exact t1, by rw [hR]; exact t2, by rw [hR]; exact t3, by rw [hR]; exact t4, by rw [hR]; exact t5, by rw [z_ar_eq hs]; exact t6, by rw [z_ln_eq hs]; exact t7⟩, zLn_reg (zEq_s E (by omega) (by omega)) hl, zBl_reg (zEq_s E (by omega) (by omega)) hb, ⟨hl', zSv_reg (zEq_s E (by omega) (by omega)) (fun i hi => zEq_s E (by have := hr i hi; omega) (by have := hr i hi; omega)) hsv, hr⟩, h4, ht⟩
theorem p_append (h : zW σ b g k gs tl tx B V) (hB : B = 1740000) (hV : V ≤ 1000000) (x : Int32) : zP σ b g k gs tl tx B V (f_L_append σ b x (b + 123)) (fun σ1 => f_X10_append σ1 (b + 118) x) := by
  have O := h.2.2.2.2.2.2.2
  have htl := h.2.2.2.2.2.1
  have htx := h.2.2.2.2.2.2.1
  obtain ⟨o8, t2, t3, t4, t5, t6, t7⟩ := h.1.1
  have e4 := h.1.2.2.2.2.1
  have etx := h.1.2.2.2.2.2
  have mfull : ∀ σ1, zM σ1 b g k gs tl tx → ∀ c : Bool, f_X10_in σ1 x.toInt64 (Int64.ofNat 0) (Int64.ofNat 127) = some (bi c) → f_X10_append σ1 (b + 118) x = f_X10_append_24 σ1 (b + 118) x (bi (decide (tl < 120))) (bi c) (some (b + 118)) := by
    intro σ1 hM c hc
    have e6 := hM.2.2.2.2.1
    simp (disch := omega) only [f_X10_append, ↓zl_eq, ↓zb_eq, ↓zb2_eq, ↓zc_some, ↓zc_none, ↓zb_pre, ↓zb2_pre, ↓zc_pre, ↓zex_eq, ↓reduceIte, Option.isSome_some, Option.isSome_none, Option.getD_some, n32_lit, i64_lit, hc, hM.1.1, e6, n32_le]
    by_cases hc : tl < 120
    · rw [if_neg (by omega), decide_eq_true hc]; rfl
    · rw [if_pos (by omega), decide_eq_false hc]; rfl
  by_cases hx : ((0 : Nat) : Int) ≤ x.toInt ∧ x.toInt ≤ ((127 : Nat) : Int)
  · have W := fun σ => c_win1 σ (by omega) (by omega) hx
    have WM := fun σ => m_win1 σ (by omega) (by omega) hx
    have WT : f_X9_isWithin σ (n32 tl) (n32 0) (n32 120 - n32 1) = some (bi (decide (tl < 120))) := by
      have hd : decide (0 ≤ ((tl : Nat) : Int) ∧ ((tl : Nat) : Int) < ((120 : Nat) : Int)) = decide (tl < 120) := by
        apply decide_eq_decide.2
        omega
      rw [c_winm σ (n := 120) (by omega), n32_toInt (by omega), hd]
    by_cases hf : tl < 120
    · rw [decide_eq_true hf] at WT mfull
      obtain ⟨c, hc, rfl⟩ := n32_of2 (x := x) (k := 127) (by omega) (by omega) (by omega)
      have nb := nar_byte c (by omega)
      have tx1 : ∀ j, j < tl + 1 → (if j = tl then n32 c else tx j) = (fun j => if j = tl then n32 c else tx j) j := fun _ _ => rfl
      refine ⟨0, n32 (tl + 1), g, k, gs, tl + 1, fun j => if j = tl then n32 c else tx j, w_append O o8 ⟨z_pI (z_pI σ (b + 117) tl (n32 c)) b 4 (n32 (tl + 1)), ?_, ?_, fun q h1 h2 => ⟨rfl, ?_, rfl, rfl⟩, Nat.le_refl _⟩, fun σ1 hM => ?_, s_I_w h.2.2.1 (Nat.le_refl _) (by omega), fun i hi => s_I_w (h.2.2.2.1 i hi) (Nat.le_refl _) (by omega), h.2.2.2.2.1, by omega, fun j hj => ?_⟩
      · have e9 : z_I (z_pI σ (b + 117) tl (n32 c)) b 4 = n32 tl := by rw [z_I_pI, if_neg (by omega)]; exact e4
        have e9' : z_I (z_pI (z_pI σ (b + 117) tl (n32 c)) b 4 (n32 (tl + 1))) b 4 = n32 (tl + 1) := by rw [z_I_pI, if_pos ⟨rfl, rfl⟩]
        simp (disch := omega) only [f_X9_append, ↓zl_eq, ↓zb_eq, ↓zb2_eq, ↓zc_some, ↓zc_none, ↓zb_pre, ↓zb2_pre, ↓zc_pre, ↓zex_eq, ↓reduceIte, Option.isSome_some, Option.isSome_none, Option.getD_some, n32_lit, W, bt0', o8, t5, t6, t7, e4, ofN_n32, WT, n32_ix, n32_toNat, nb, z_ob_pI, e9, n32_add, e9']
      · refine zC_text (σ := σ) h.1 rfl rfl rfl (fun q h1 h2 => ?_) (by rw [z_I_pI, if_pos ⟨rfl, rfl⟩]) (fun j hj => ?_)
        · funext j; rw [z_I_pI, if_neg (by omega), z_I_pI, if_neg (by omega)]
        · rw [z_I_pI, if_neg (by omega), z_I_pI]
          by_cases hjt : j = tl
          · rw [if_pos ⟨rfl, hjt⟩, if_pos hjt]
          · rw [if_neg (by omega), if_neg hjt]; exact etx j (by omega)
      · funext j; rw [z_I_pI, if_neg (by omega), z_I_pI, if_neg (by omega)]
      · have T := zM_thr hM (n32 0)
        have G := m_gs hM.1 true true true (show bi true = bi true from rfl) (show bi true = bi true from rfl) (show n32 1 = bi true from rfl)
        have sg : s_goes true true true = n32 0 := rfl
        rw [sg] at G
        generalize hσ2 : z_sA σ1 (b + 118) (gu (z_I σ1 (b + 118)) 4 (n32 0)) = σ2 at G T
        obtain ⟨TM, TF, Tt⟩ := T
        obtain ⟨tm, tg, ts, tsv, tlg, ttx⟩ := TM
        have f4 : b + 118 + 4 = b + 122 := rfl
        have m1 := tm
        unfold zMs at m1
        rw [f4] at m1
        have e6' : z_I (z_pI σ2 (b + 122) tl (n32 c)) (b + 118) 6 = n32 tl := by rw [z_I_pI, if_neg (by omega)]; exact tlg
        have e6'' : z_I (z_pI (z_pI σ2 (b + 122) tl (n32 c)) (b + 118) 6 (n32 (tl + 1))) (b + 118) 6 = n32 (tl + 1) := by rw [z_I_pI, if_pos ⟨rfl, rfl⟩]
        have iq : ∀ q, q ≠ b + 118 → q ≠ b + 122 → z_I (z_pI (z_pI σ2 (b + 122) tl (n32 c)) (b + 118) 6 (n32 (tl + 1))) q = z_I σ2 q := fun q h1 h2 => by
          funext j; rw [z_I_pI, if_neg (by omega), z_I_pI, if_neg (by omega)]
        refine ⟨z_pI (z_pI σ2 (b + 122) tl (n32 c)) (b + 118) 6 (n32 (tl + 1)), ?_, ⟨tm, ?_, ?_, fun i j hi hj => ?_, e6'', fun j hj => ?_⟩, zFM_t TF ⟨rfl, rfl, rfl, rfl, fun q hq => iq q (by omega) (by omega)⟩, ?_⟩
        · show f_X10_append σ1 (b + 118) (n32 c) = _
          rw [mfull σ1 hM true (WM σ1)]
          simp (disch := omega) only [f_X10_append_24, ↓zl_eq, ↓zb_eq, ↓zb2_eq, ↓zc_some, ↓zc_none, ↓zb_pre, ↓zb2_pre, ↓zc_pre, ↓zex_eq, ↓reduceIte, Option.isSome_some, Option.isSome_none, Option.getD_some, n32_lit, hM.1.1, G, Bool.and_self, bt0', m1.1, m1.2.2.2.2.1, m1.2.2.2.2.2.2.2.2.1, m1.2.2.2.2.2.2.2.2.2.2.2.2, tlg, n32_ix, n32_toNat, z_ob_pI, e6', n32_add, e6'']
        · rw [iq _ (by omega) (by omega)]; exact tg
        · rw [z_I_pI, if_neg (by omega), z_I_pI, if_neg (by omega)]; exact ts
        · rw [iq _ (by omega) (by omega)]; exact tsv i j hi hj
        · rw [z_I_pI, if_neg (by omega), z_I_pI]
          show _ = if j = tl then n32 c else tx j
          by_cases hjt : j = tl
          · rw [if_pos ⟨rfl, hjt⟩, if_pos hjt]
          · rw [if_neg (by omega), if_neg hjt]; exact ttx j (by omega)
        · rw [z_I_pI, if_neg (by omega), z_I_pI, if_neg (by omega)]; exact Tt
      · by_cases hjt : j = tl
        · exact ⟨c, by omega, if_pos hjt⟩
        · obtain ⟨c', h1, h2⟩ := htx j (by omega)
          exact ⟨c', h1, by show (if j = tl then n32 c else tx j) = _; rw [if_neg hjt]; exact h2⟩
    · rw [decide_eq_false hf] at WT mfull
      refine zP_q h (r := 2) (v := 0) (x_append1 _ O o8 (zA9_x h.1 ?_)) (fun σ1 hM => zAM_q hM ?_)
      · simp only [f_X9_append, ↓zl_eq, ↓zb_eq, ↓zb2_eq, ↓zc_some, ↓zc_none, ↓zb_pre, ↓zb2_pre, ↓zc_pre, ↓zex_eq, ↓reduceIte, Option.isSome_some, Option.isSome_none, Option.getD_some, n32_lit, W, bt0', bf0', o8, t5, t6, t7, e4, ofN_n32, WT]
      · have G := m_gs hM.1 true false true (show bi true = bi true from rfl) (show bi false = bi false from rfl) (show n32 1 = bi true from rfl)
        show f_X10_append σ1 (b + 118) x = _
        rw [mfull σ1 hM true (WM σ1)]
        simp only [f_X10_append_24, ↓zl_eq, ↓zb_eq, ↓zb2_eq, ↓zc_some, ↓zc_none, ↓zb_pre, ↓zb2_pre, ↓zc_pre, ↓zex_eq, ↓reduceIte, Option.isSome_some, Option.isSome_none, Option.getD_some, n32_lit, hM.1.1, G, Bool.and_false, Bool.false_and, bf0']
        rfl
  · have W := fun σ => c_win0 σ (by omega) (by omega) hx
    have WM := fun σ => m_win0 σ (by omega) (by omega) hx
    refine zP_q h (r := 1) (v := 0) (x_append0 _ O o8 (zA9_x h.1 ?_)) (fun σ1 hM => zAM_q hM ?_)
    · simp only [f_X9_append, ↓zl_eq, ↓zb_eq, ↓zb2_eq, ↓zc_some, ↓zc_none, ↓zb_pre, ↓zb2_pre, ↓zc_pre, ↓zex_eq, ↓reduceIte, Option.isSome_some, Option.isSome_none, Option.getD_some, n32_lit, W, bf0']
    · have G := m_gs hM.1 false (decide (tl < 120)) true (show bi false = bi false from rfl) rfl (show n32 1 = bi true from rfl)
      show f_X10_append σ1 (b + 118) x = _
      rw [mfull σ1 hM false (WM σ1)]
      simp only [f_X10_append_24, ↓zl_eq, ↓zb_eq, ↓zb2_eq, ↓zc_some, ↓zc_none, ↓zb_pre, ↓zb2_pre, ↓zc_pre, ↓zex_eq, ↓reduceIte, Option.isSome_some, Option.isSome_none, Option.getD_some, n32_lit, hM.1.1, G, Bool.false_and, bf0']
      rfl
theorem zC_k4 (h : zC σ b g k gs tl tx) : z_I σ (b + 39) 1 = n32 k ∧ k ≤ 4 := by
  obtain ⟨hl, hsv, _⟩ := h.2.2.2.1
  exact ⟨hsv.2.1, hsv.2.2.1⟩
theorem p_undo (h : zW σ b g k gs tl tx B V) (hB : B = 1740000) (hV : V ≤ 1000000) : zP σ b g k gs tl tx B V (f_L_undo σ b (b + 123)) (fun σ1 => f_X10_undo σ1 (b + 118)) := by
  have hI := h.2.2.1
  have O := h.2.2.2.2.2.2.2
  obtain ⟨o8, r0, o2, _⟩ := zC_open h.1 hI
  obtain ⟨r2, oh⟩ := zC_hs h.1
  obtain ⟨e1, hk4⟩ := zC_k4 h.1
  rcases k with _ | k
  · refine zP_q h (r := 1) (v := 0) (x_undo1 _ O o8 (zA9_x h.1 ?_)) (fun σ1 hM => zAM_q hM ?_)
    · simp only [f_X9_undo, ↓zl_eq, ↓zb_eq, ↓zb2_eq, ↓zc_some, ↓zc_none, ↓zb_pre, ↓zb2_pre, ↓zc_pre, ↓zex_eq, ↓reduceIte, Option.isSome_some, Option.isSome_none, Option.getD_some, n32_lit, o8, r2, oh, e1]
    · have G := m_gs hM.1 false true true (show n32 0 = bi false from rfl) (show n32 1 = bi true from rfl) (show n32 1 = bi true from rfl)
      have e3 := hM.2.2.1
      simp (disch := omega) only [f_X10_undo, f_X10_undo_13, ↓zl_eq, ↓zb_eq, ↓zb2_eq, ↓zc_some, ↓zc_none, ↓zb_pre, ↓zb2_pre, ↓zc_pre, ↓zex_eq, ↓reduceIte, Option.isSome_some, Option.isSome_none, Option.getD_some, n32_lit, hM.1.1, e3, n32_le, Nat.le_refl, G, Bool.false_and, bf0']
      rfl
  · obtain ⟨⟨_, t2, t3, t4, t5, t6, t7⟩, hl, hb, ⟨hl', hsv, hr⟩, h4, htx⟩ := h.1
    obtain ⟨σ1, ER, S1, L1, n1, s1, R1, I1⟩ := c_restore hsv (zLn_bl hl) (fun i hi => by have := hr i hi; omega) (by omega)
    have Ig := h.2.2.2.1 k (by omega)
    have eq : s_eq (gs k) (s_cp (gs k) g 942) := s_cp_eq (gs k) g
    have i1 : z_I σ1 (b + 39) 1 = n32 k := S1.2.1
    refine ⟨0, n32 k, s_cp (gs k) g 942, k, gs, tl, tx, w_undo O o8 ⟨σ1, ?_, ⟨⟨by rw [z_ob_eq s1]; exact o8, by rw [R1]; exact t2, by rw [R1]; exact t3, by rw [R1]; exact t4, by rw [R1]; exact t5, by rw [z_ar_eq s1]; exact t6, by rw [z_ln_eq s1]; exact t7⟩, zLn_eq eq (s_I_num Ig) L1, zBl_reg (fun q h1 h2 => ?_) hb, ⟨hl', S1, hr⟩, by rw [(I1 b (by omega) (by omega)).1]; exact h4, fun j hj => by rw [(I1 (b + 117) (by omega) (by omega)).1]; exact htx j hj⟩, fun q h1 h2 => ?_, by rw [n1]; exact Nat.le_refl _⟩, fun σ2 hM => ?_, s_I_w (s_I_eq eq Ig) (Nat.le_refl _) (by omega), fun i hi => s_I_w (h.2.2.2.1 i (by omega)) (Nat.le_refl _) (by omega), by omega, h.2.2.2.2.2.1, h.2.2.2.2.2.2.1⟩
    · have nz : (n32 (k + 1) = n32 0) = False := eq_false (by rw [n32_eq (by omega) (by omega)]; omega)
      have oo : z_ob σ1 = z_ob σ := z_ob_eq s1
      simp only [f_X9_undo, ↓zl_eq, ↓zb_eq, ↓zb2_eq, ↓zc_some, ↓zc_none, ↓zb_pre, ↓zb2_pre, ↓zc_pre, ↓zex_eq, ↓reduceIte, Option.isSome_some, Option.isSome_none, Option.getD_some, n32_lit, o8, r2, oh, e1, nz, r0, ER, oo, R1, i1]
    · have := I1 q (by omega) (by omega)
      exact ⟨by rw [s1], this.1, this.2, by rw [R1]⟩
    · have := I1 q (by omega) (by omega)
      exact ⟨by rw [s1], this.1, this.2, by rw [R1]⟩
    · have G := m_gs hM.1 true true true (show n32 1 = bi true from rfl) (show n32 1 = bi true from rfl) (show n32 1 = bi true from rfl)
      have sg : s_goes true true true = n32 0 := rfl
      rw [sg] at G
      have e3 := hM.2.2.1
      have T := zM_thr hM (n32 0)
      generalize hσ3 : z_sA σ2 (b + 118) (gu (z_I σ2 (b + 118)) 4 (n32 0)) = σ3 at G T
      obtain ⟨⟨tm, tg, ts, tsv, tlg, ttx⟩, TF, Tt⟩ := T
      have mk : n32 (k + 1) - n32 1 = n32 k := n32_sub (by omega)
      generalize hσ4 : z_sA σ3 (b + 118) (gu (z_I σ3 (b + 118)) 3 (n32 k)) = σ4
      have tm4 : zMs σ4 (b + 118) := by rw [← hσ4]; exact tm
      have q4 : ∀ q, q ≠ b + 118 → z_I σ4 q = z_I σ3 q := fun q hq => by rw [← hσ4]; exact z_I_sAn _ _ _ hq
      have q40 : z_I σ4 (b + 118) = gu (z_I σ3 (b + 118)) 3 (n32 k) := by rw [← hσ4, z_I_sA]
      have F4 : zFM b σ3 σ4 := by rw [← hσ4]; exact zFM_sA _ (by omega) (by omega) _
      have p34 : z_pI σ3 (b + 118) 3 (n32 k) = σ4 := by rw [z_pI_eq]; exact hσ4
      have m1 := tm4
      have f1 : b + 118 + 1 = b + 119 := rfl
      have f2 : b + 118 + 2 = b + 120 := rfl
      unfold zMs at m1
      rw [f1, f2] at m1
      have LP : f_X10_undo_35 (b + 118) σ4 (n32 0) = some (n32 k, z_sA σ4 (b + 119) (s_cp (gs k) g 942)) := by
        unfold f_X10_undo_35
        have g4 : z_I σ4 (b + 119) = g := by rw [q4 _ (by omega)]; exact tg
        have e0 : (σ4, n32 0) = ((fun j => (z_sA σ4 (b + 119) (s_cp (gs k) g j), n32 j)) 0 : zSt × Int32) := by
          simp only [s_cp0, ← g4, z_sA_id]
        rw [e0]
        refine zloop_go (N := zN) (fun j => (z_sA σ4 (b + 119) (s_cp (gs k) g j), n32 j)) _ 942 (fun j hj => ?_) ?_ (by unfold zN; omega)
        · show b_X10_undo_35 (b + 118) (z_sA σ4 (b + 119) (s_cp (gs k) g j)) (n32 j) = some (.inl (z_sA σ4 (b + 119) (s_cp (gs k) g (j + 1)), n32 (j + 1)))
          have i3 : z_I (z_sA σ4 (b + 119) (s_cp (gs k) g j)) (b + 118) 3 = n32 k := by rw [z_I_sAn _ _ _ (by omega), q40, gu_same]
          have i2 : z_I (z_sA σ4 (b + 119) (s_cp (gs k) g j)) (b + 120) (942 * k + j) = gs k j := by rw [z_I_sAn _ _ _ (by omega), q4 _ (by omega)]; exact tsv k j (by omega) hj
          have hkk : 942 * k + j < 3768 := by omega
          rw [← s_cp_step]
          simp (disch := omega) only [b_X10_undo_35, ↓zl_eq, ↓zb_eq, ↓zb2_eq, ↓zc_some, ↓zc_none, ↓zb_pre, ↓zb2_pre, ↓zc_pre, ↓zex_eq, ↓reduceIte, Option.isSome_some, Option.isSome_none, Option.getD_some, n32_lit, n32_le, z_ob_sA, z_R_sA, z_ar_sA, z_ln_sA, m1.1, m1.2.1, m1.2.2.1, m1.2.2.2.2.2.1, m1.2.2.2.2.2.2.1, m1.2.2.2.2.2.2.2.2.2.1, m1.2.2.2.2.2.2.2.2.2.2.1, i3, n32_mul, n32_add, n32_ix, n32_toNat, i2, z_pI_eq, z_I_sA, z_sA_sA]
          rw [if_neg (by omega)]
        · show b_X10_undo_35 (b + 118) (z_sA σ4 (b + 119) (s_cp (gs k) g 942)) (n32 942) = _
          have i3 : z_I (z_sA σ4 (b + 119) (s_cp (gs k) g 942)) (b + 118) 3 = n32 k := by rw [z_I_sAn _ _ _ (by omega), q40, gu_same]
          simp (disch := omega) only [b_X10_undo_35, ↓zl_eq, ↓zb_eq, ↓zb2_eq, ↓zc_some, ↓zc_none, ↓zb_pre, ↓zb2_pre, ↓zc_pre, ↓zex_eq, ↓reduceIte, Option.isSome_some, Option.isSome_none, Option.getD_some, n32_lit, n32_le, Nat.le_refl, z_ob_sA, m1.1, i3]
      have e33 : z_I σ3 (b + 118) 3 = n32 (k + 1) := ts
      refine ⟨z_sA σ4 (b + 119) (s_cp (gs k) g 942), ?_, ⟨tm4, z_I_sA _ _ _, ?_, fun i j hi hj => ?_, ?_, fun j hj => ?_⟩, zFM_t TF (zFM_t F4 (zFM_sA _ (by omega) (by omega) _)), ?_⟩
      · have nl : ¬ (k + 1 ≤ 0) := by omega
        simp (disch := omega) only [f_X10_undo, f_X10_undo_13, ↓zl_eq, ↓zb_eq, ↓zb2_eq, ↓zc_some, ↓zc_none, ↓zb_pre, ↓zb2_pre, ↓zc_pre, ↓zex_eq, ↓reduceIte, Option.isSome_some, Option.isSome_none, Option.getD_some, n32_lit, hM.1.1, e3, n32_le, if_neg nl, G, Bool.and_self, bt0', tm.1, e33, mk, p34, LP]
      · rw [z_I_sAn _ _ _ (by omega), q40, gu_same]
      · rw [z_I_sAn _ _ _ (by omega), q4 _ (by omega)]; exact tsv i j (by omega) hj
      · rw [z_I_sAn _ _ _ (by omega), q40, gu_ne _ _ (by omega)]; exact tlg
      · rw [z_I_sAn _ _ _ (by omega), q4 _ (by omega)]; exact ttx j hj
      · rw [z_I_sAn _ _ _ (by omega), q40, gu_ne _ _ (by omega)]; exact Tt
end TOP
