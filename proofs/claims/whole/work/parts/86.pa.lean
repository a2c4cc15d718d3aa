/-! THE LEAST TARGET -/
def s_lj (h : zG) (vis : Nat) : Nat := s_fst (fun j => !decide (0 < s_wtn (s_it h j) 32)) vis 0
def s_lx (vis t : Nat) (gi : zG) : zG := s_it (gu gi 0 (n32 t)) (s_lj (gu gi 0 (n32 t)) vis)
def s_lg (g : zG) (vis : Nat) : Nat → zG
  | 0 => g
  | i + 1 => s_cp g (s_lx vis (20 * (i + 1)) (s_lg g vis i)) 942
def s_lr (g : zG) (vis i : Nat) : Bool := !decide (0 < s_wtn (s_lx vis (20 * (i + 1)) (s_lg g vis i)) 32)
theorem s_lg_eq (g : zG) (vis : Nat) : ∀ i, s_eq g (s_lg g vis i)
  | 0 => s_eq_r g
  | _ + 1 => s_cp_eq g _
theorem bi_n (c : Bool) : bi (!c) = if c = true then n32 0 else n32 1 := by cases c <;> rfl
section TOP
variable {σ : zSt} {b k tl : Nat} {g g' : zG} {gs : Nat → zG} {tx : Nat → Int32} {B V : Nat}
/-- what the reference needs of the arrays of one target -/
def s_lf (h : zG) (vis B V : Nat) : Prop := (∀ j, j < vis → s_vok (s_it h j)) ∧ ∀ j, j ≤ vis → s_I (s_it h j) B V
theorem c_sendsAll (h : zC σ b g k gs tl tx) (hI : s_I g 900000 V) (hV : V ≤ 1000000) {vis : Nat} (hvis : vis ≤ 100) (t : Nat) : ∃ σ', f_X9_sendsAll σ b (n32 t) (n32 vis) = some (bi (!decide (0 < s_wtn (s_lx vis t g) 32)), σ') ∧ zFr (b + 20) σ σ' ∧ zBl σ' (b + 20) ∧ s_lf (gu g 0 (n32 t)) vis 1740000 (V + 100) := by
  have o8 := h.1.1
  have r0 := h.1.2.1
  have rt : z_R σ b 1 = some (b + 20) := h.1.2.2.1
  have ot : z_ob σ (b + 20) 2 = true := h.2.2.1.1.1
  obtain ⟨σ1, EC, F1, L1, C1⟩ := zC_copy h (s_I_num hI)
  obtain ⟨pl, ad, qu, n, a1, a2, a3, a4⟩ := L1
  have T := c_top (⟨a1, a2, a3⟩ : zC0 σ1 (b + 20) pl ad qu n g) (k := 0) (by decide) (n32 t)
  have T0 := zC0_step (⟨a1, a2, a3⟩ : zC0 σ1 (b + 20) pl ad qu n g) T
  have TG : qG (z_pI σ1 (b + 20) (6 + 0) (n32 t)) (b + 20) (gu g 0 (n32 t)) := qG_congr T.2.1 (gu_ne _ _ (by omega)) (gu_ne _ _ (by omega)) (fun j hj => gu_ne _ _ (by omega)) a4
  have LT : zLn (z_pI σ1 (b + 20) 6 (n32 t)) (b + 20) (gu g 0 (n32 t)) := zLn_of T0 TG
  have hIt : s_I (gu g 0 (n32 t)) 900000 V := s_I_top hI (fun j hj => gu_ne _ _ (by omega)) (by rw [gu_ne _ _ (by omega)]; exact s_I_1 hI) (by rw [gu_ne _ _ (by omega)]; exact s_I_2 hI)
  have F2 : zFr (b + 20) σ (z_pI σ1 (b + 20) 6 (n32 t)) := zFr_t F1 T.1
  generalize hhh : gu g 0 (n32 t) = hh at LT hIt ⊢
  generalize hσ2 : z_pI σ1 (b + 20) 6 (n32 t) = σ2 at LT F2
  obtain ⟨st, st0, H⟩ := c_chain LT hIt vis (by omega) (by omega)
  have ex : s_lx vis t g = s_it hh (s_lj hh vis) := by unfold s_lx; rw [hhh]
  have P := s_fst_p (fun j => !decide (0 < s_wtn (s_it hh j) 32)) vis 0
  have ej : s_fst (fun j => !decide (0 < s_wtn (s_it hh j) 32)) vis 0 = s_lj hh vis := rfl
  rw [ej] at P
  rw [ex]
  generalize s_lj hh vis = J at P
  obtain ⟨J1, J2, J3, J4⟩ := P
  have J4' : ∀ j, j < J → decide (0 < s_wtn (s_it hh j) 32) = true := fun j hj => by
    have := J4 j (by omega) hj
    simpa using this
  have wt : ∀ j, j ≤ vis → f_X2_isWaitedAt (st j) (b + 20) = some (bi (decide (0 < s_wtn (s_it hh j) 32))) := fun j hj => by
    obtain ⟨_, ⟨pl', ad', qu', n', c1, c2, c3, c4⟩, Ij, _, _⟩ := H j hj
    exact c_isWaitedAt ⟨c1, c2, c3, s_I_6 Ij, s_I_sta Ij⟩ (s_I_5 Ij).1
  have sh : ∀ j, j ≤ vis → z_ob (st j) b 8 = true ∧ z_R (st j) b 1 = some (b + 20) ∧ z_ob (st j) (b + 20) 2 = true := fun j hj => by
    have F := zFr_t F2 (H j hj).1
    exact ⟨by rw [z_ob_eq F.2.1]; exact o8, by rw [F.2.2.1]; exact rt, by rw [z_ob_eq F.2.1]; exact ot⟩
  have LP : f_X9_sendsAll_21 b (n32 vis) σ2 (n32 0) = some (bi (!decide (0 < s_wtn (s_it hh J) 32)), st J) := by
    unfold f_X9_sendsAll_21
    have e0 : (σ2, n32 0) = ((fun j => (st j, n32 j)) 0 : zSt × Int32) := by rw [← st0]
    rw [e0]
    have f49 : f_X9_sendsAll_49 (st J) b = some (bi (!decide (0 < s_wtn (s_it hh J) 32)), st J) := by
      obtain ⟨s1, s2, s3⟩ := sh J (by omega)
      have w := wt J (by omega)
      generalize decide (0 < s_wtn (s_it hh J) 32) = c at w
      cases c <;> simp only [f_X9_sendsAll_49, f_X9_sendsAll_64, ↓zl_eq, ↓zb_eq, ↓zb2_eq, ↓zc_some, ↓zc_none, ↓zb_pre, ↓zb2_pre, ↓zc_pre, ↓zex_eq, ↓reduceIte, Option.isSome_some, Option.isSome_none, Option.getD_some, n32_lit, s1, s2, s3, w, bt0', bf0', bl0, bl1] <;> rfl
    refine zloop_go (N := zN) (fun j => (st j, n32 j)) _ J (fun j hj => ?_) ?_ (by unfold zN; omega)
    · show b_X9_sendsAll_21 b (n32 vis) (st j) (n32 j) = some (.inl (st (j + 1), n32 (j + 1)))
      obtain ⟨s1, s2, s3⟩ := sh j (by omega)
      have w := wt j (by omega)
      rw [J4' j hj] at w
      simp (disch := omega) only [b_X9_sendsAll_21, ↓zl_eq, ↓zb_eq, ↓zb2_eq, ↓zc_some, ↓zc_none, ↓zb_pre, ↓zb2_pre, ↓zc_pre, ↓zex_eq, ↓reduceIte, Option.isSome_some, Option.isSome_none, Option.getD_some, n32_lit, n32_le, s1, s2, s3, w, bt0', ((H j (by omega)).2.2.2.2 (by omega)).1, n32_add]
      rw [if_neg (by omega)]
    · show b_X9_sendsAll_21 b (n32 vis) (st J) (n32 J) = _
      obtain ⟨s1, s2, s3⟩ := sh J (by omega)
      by_cases h3 : J = vis
      · rw [h3] at f49 ⊢
        simp (disch := omega) only [b_X9_sendsAll_21, ↓zl_eq, ↓zb_eq, ↓zb2_eq, ↓zc_some, ↓zc_none, ↓zb_pre, ↓zb2_pre, ↓zc_pre, ↓zex_eq, ↓reduceIte, Option.isSome_some, Option.isSome_none, Option.getD_some, n32_lit, n32_le, Nat.le_refl, f49]
      · have hc : decide (0 < s_wtn (s_it hh J) 32) = false := by
          rcases J3 with h | h
          · omega
          · simpa using h
        have w := wt J (by omega)
        rw [hc] at w
        simp (disch := omega) only [b_X9_sendsAll_21, ↓zl_eq, ↓zb_eq, ↓zb2_eq, ↓zc_some, ↓zc_none, ↓zb_pre, ↓zb2_pre, ↓zc_pre, ↓zex_eq, ↓reduceIte, Option.isSome_some, Option.isSome_none, Option.getD_some, n32_lit, n32_le, s1, s2, s3, w, bf0', f49]
        rw [if_neg (by omega)]
  refine ⟨st J, ?_, zFr_t F2 (H J (by omega)).1, zLn_bl (H J (by omega)).2.1, fun j hj => ((H j (by omega)).2.2.2.2 hj).2, fun j hj => s_I_w (H j hj).2.2.1 (by omega) (by omega)⟩
  have o8' : z_ob σ1 b 8 = true := by rw [z_ob_eq F1.2.1]; exact o8
  have rt' : z_R σ1 b 1 = some (b + 20) := by rw [F1.2.2.1]; exact rt
  have ot' : z_ob σ1 (b + 20) 2 = true := by rw [z_ob_eq F1.2.1]; exact ot
  simp only [f_X9_sendsAll, ↓zl_eq, ↓zb_eq, ↓zb2_eq, ↓zc_some, ↓zc_none, ↓zb_pre, ↓zb2_pre, ↓zc_pre, ↓zex_eq, ↓reduceIte, Option.isSome_some, Option.isSome_none, Option.getD_some, n32_lit, o8, rt, r0, ot, EC, o8', rt', ot', hσ2, LP]
/-- the class through the targets -/
theorem c_targets (h : zC σ b g k gs tl tx) (hI : s_I g 900000 V) (hV : V ≤ 1000000) {vis : Nat} (hvis : vis ≤ 100) : ∀ m, ∃ st : Nat → zSt, st 0 = σ ∧ ∀ i, i ≤ m → zFr (b + 20) σ (st i) ∧ zC (st i) b (s_lg g vis i) k gs tl tx ∧ (i < m → f_X9_sendsAll (st i) b (n32 (20 * (i + 1))) (n32 vis) = some (bi (s_lr g vis i), st (i + 1)) ∧ s_lf (gu (s_lg g vis i) 0 (n32 (20 * (i + 1)))) vis 1740000 (V + 100)) := by
  intro m
  induction m with
  | zero =>
    refine ⟨fun _ => σ, rfl, fun j hj => ?_⟩
    have : j = 0 := by omega
    subst this
    exact ⟨zFr_r _ σ, h, fun h => by omega⟩
  | succ m ih =>
    obtain ⟨st, s0, H⟩ := ih
    obtain ⟨F, C, _⟩ := H m (Nat.le_refl _)
    have Im := s_I_eq (s_lg_eq g vis m) hI
    obtain ⟨σ', E, F', L', lf⟩ := c_sendsAll C Im hV hvis (20 * (m + 1))
    have C' : zC σ' b (s_lg g vis (m + 1)) k gs tl tx := zC_eq (s_eq_t (s_eq_s (s_lg_eq g vis m)) (s_lg_eq g vis (m + 1))) (s_I_num Im) (zC_trial (zFw_of F') L' C)
    refine ⟨fun i => if i = m + 1 then σ' else st i, by show (if 0 = m + 1 then σ' else st 0) = σ; rw [if_neg (by omega)]; exact s0, fun j hj => ?_⟩
    by_cases hjm : j = m + 1
    · subst hjm
      show zFr (b + 20) σ (if m + 1 = m + 1 then σ' else _) ∧ zC (if m + 1 = m + 1 then σ' else _) b _ k gs tl tx ∧ _
      rw [if_pos rfl]
      exact ⟨zFr_t F F', C', fun h => absurd h (Nat.lt_irrefl _)⟩
    · have Hj := H j (by omega)
      show zFr (b + 20) σ (if j = m + 1 then σ' else st j) ∧ zC (if j = m + 1 then σ' else st j) b _ k gs tl tx ∧ (_ → f_X9_sendsAll (if j = m + 1 then σ' else st j) b _ _ = some (_, if j + 1 = m + 1 then σ' else st (j + 1)) ∧ _)
      rw [if_neg hjm]
      refine ⟨Hj.1, Hj.2.1, fun _ => ?_⟩
      by_cases hjm2 : j = m
      · subst hjm2
        rw [if_pos rfl]
        exact ⟨E, lf⟩
      · rw [if_neg (by omega)]
        exact Hj.2.2 (by omega)
/-- the reference at one target -/
theorem m_target {σ3 : zSt} (hM : zMs σ3 (b + 118)) {A f gi : zG} (h3 : z_I σ3 (b + 121) = s_cp f A 942) {vis t B V : Nat} (hvis : vis ≤ 100) (hf : s_lf (gu gi 0 (n32 t)) vis B V) :
    f_X10_leastTarget_58 (b + 118) (n32 vis) (n32 t) (z_sA σ3 (b + 119) (gu gi 0 (n32 t))) (n32 0) = some (if decide (0 < s_wtn (s_lx vis t gi) 32) = true then .inl (z_sA σ3 (b + 119) (s_cp f (s_lx vis t gi) 942), n32 t + n32 20) else .inr (n32 t, z_sA σ3 (b + 119) (s_cp f (s_lx vis t gi) 942))) := by
  generalize hhh : gu gi 0 (n32 t) = hh at hf ⊢
  have ex : s_lx vis t gi = s_it hh (s_lj hh vis) := by unfold s_lx; rw [hhh]
  have P := s_fst_p (fun j => !decide (0 < s_wtn (s_it hh j) 32)) vis 0
  have ej : s_fst (fun j => !decide (0 < s_wtn (s_it hh j) 32)) vis 0 = s_lj hh vis := rfl
  rw [ej] at P
  rw [ex]
  generalize s_lj hh vis = J at P
  obtain ⟨J1, J2, J3, J4⟩ := P
  have J4' : ∀ j, j < J → 0 < s_wtn (s_it hh j) 32 := fun j hj => by
    have := J4 j (by omega) hj
    simpa using this
  have wm : ∀ j, j ≤ vis → f_X10_waiting (z_sA σ3 (b + 118 + 1) (s_it hh j)) (b + 118) = some (n32 (s_wtn (s_it hh j) 32)) := fun j hj => by
    obtain ⟨q5, q52⟩ := s_I_5 (hf.2 j hj)
    have := m_waiting (zMs_sA hM (b + 118 + 1) (s_it hh j)) (q := s_nat (s_it hh j) 5) (by rw [z_I_sA]; exact q52) q5
    rw [z_I_sA, s_waiting_n] at this
    exact this
  have wb : ∀ j, j ≤ vis → s_wtn (s_it hh j) 32 ≤ 3200 := fun j hj => s_wtn_le _ (s_I_5 (hf.2 j hj)).1 32
  have tb := m_back hM (X := s_it hh J) h3
  have o9 := hM.1
  have f80 : f_X10_leastTarget_80 (z_sA σ3 (b + 118 + 1) (s_it hh J)) (b + 118) (n32 vis) (n32 t) = some (if decide (0 < s_wtn (s_it hh J) 32) = true then .inl (z_sA σ3 (b + 119) (s_cp f (s_it hh J) 942), n32 t + n32 20) else .inr (n32 t, z_sA σ3 (b + 119) (s_cp f (s_it hh J) 942))) := by
    have w := wm J (by omega)
    have w2 := wb J (by omega)
    simp (disch := omega) only [f_X10_leastTarget_80, ↓zl_eq, ↓zb_eq, ↓zb2_eq, ↓zc_some, ↓zc_none, ↓zb_pre, ↓zb2_pre, ↓zc_pre, ↓zex_eq, ↓reduceIte, Option.isSome_some, Option.isSome_none, Option.getD_some, n32_lit, z_ob_sA, o9, w, tb, n32_eq, decide_eq_true_eq]
    by_cases hc : s_wtn (s_it hh J) 32 = 0
    · rw [if_pos hc, if_neg (by omega)]
    · rw [if_neg hc, if_pos (by omega)]
  unfold f_X10_leastTarget_58
  have e0 : (z_sA σ3 (b + 119) hh, n32 0) = ((fun j => (z_sA σ3 (b + 118 + 1) (s_it hh j), n32 j)) 0 : zSt × Int32) := rfl
  rw [e0]
  refine zloop_go (N := zN) (fun j => (z_sA σ3 (b + 118 + 1) (s_it hh j), n32 j)) _ J (fun j hj => ?_) ?_ (by unfold zN; omega)
  · show b_X10_leastTarget_58 (b + 118) (n32 vis) (n32 t) (z_sA σ3 (b + 118 + 1) (s_it hh j)) (n32 j) = some (.inl (z_sA σ3 (b + 118 + 1) (s_it hh (j + 1)), n32 (j + 1)))
    have C := m_chain (σ := σ3) (g := hh) hM hf.1 (show j < vis by omega)
    have w := wm j (by omega)
    have w2 := wb j (by omega)
    have w3 := J4' j hj
    simp (disch := omega) only [b_X10_leastTarget_58, ↓zl_eq, ↓zb_eq, ↓zb2_eq, ↓zc_some, ↓zc_none, ↓zb_pre, ↓zb2_pre, ↓zc_pre, ↓zex_eq, ↓reduceIte, Option.isSome_some, Option.isSome_none, Option.getD_some, n32_lit, n32_le, z_ob_sA, o9, w, C, n32_add]
    rw [if_neg (by omega), if_neg (by omega)]
  · show b_X10_leastTarget_58 (b + 118) (n32 vis) (n32 t) (z_sA σ3 (b + 118 + 1) (s_it hh J)) (n32 J) = _
    by_cases h4 : J = vis
    · rw [h4] at f80 ⊢
      simp (disch := omega) only [b_X10_leastTarget_58, ↓zl_eq, ↓zb_eq, ↓zb2_eq, ↓zc_some, ↓zc_none, ↓zb_pre, ↓zb2_pre, ↓zc_pre, ↓zex_eq, ↓reduceIte, Option.isSome_some, Option.isSome_none, Option.getD_some, n32_le, Nat.le_refl, f80]
    · have hc : ¬ 0 < s_wtn (s_it hh J) 32 := by
        rcases J3 with h | h
        · omega
        · simpa using h
      have w := wm J (by omega)
      have w2 := wb J (by omega)
      have hz : s_wtn (s_it hh J) 32 ≤ 0 := by omega
      simp (disch := omega) only [b_X10_leastTarget_58, ↓zl_eq, ↓zb_eq, ↓zb2_eq, ↓zc_some, ↓zc_none, ↓zb_pre, ↓zb2_pre, ↓zc_pre, ↓zex_eq, ↓reduceIte, Option.isSome_some, Option.isSome_none, Option.getD_some, n32_lit, n32_le, z_ob_sA, o9, w, if_pos hz, f80]
      rw [ite_self]
theorem p_leastTarget (h : zW σ b g k gs tl tx B V) (hB : B = 1740000) (hV : V ≤ 1000000) (x : Int32) : zP σ b g k gs tl tx B V (f_L_leastTarget σ b x (b + 123)) (fun σ1 => f_X10_leastTarget σ1 (b + 118) x) := by
  have hI := h.2.2.1
  have O := h.2.2.2.2.2.2.2
  obtain ⟨o8, r0, o2, pl, ad, qu, n, hs, hG⟩ := zC_open h.1 hI
  have h0 := zC0_of hs
  obtain ⟨t3, tB⟩ := s_I_3 hI
  have late := c_late h0 t3 (by omega)
  have r26 : ∀ σ1, zM σ1 b g k gs tl tx → ∀ c : Bool, f_X10_in σ1 x.toInt64 (Int64.ofNat 0) (Int64.ofNat 100) = some (bi c) → f_X10_leastTarget σ1 (b + 118) x = f_X10_leastTarget_26 σ1 (b + 118) x (bi (decide (s_nat g 3 ≤ 900000))) (bi c) (some (b + 118)) := by
    intro σ1 hM c hc
    have e1 : z_I σ1 (b + 118 + 1) 3 = n32 (s_nat g 3) := by have := hM.2.1; rw [show z_I σ1 (b + 118 + 1) = g from this]; exact t3
    have t1 := hM.1
    simp (disch := omega) only [f_X10_leastTarget, ↓zl_eq, ↓zb_eq, ↓zb2_eq, ↓zc_some, ↓zc_none, ↓zb_pre, ↓zb2_pre, ↓zc_pre, ↓zex_eq, ↓reduceIte, Option.isSome_some, Option.isSome_none, Option.getD_some, n32_lit, i64_lit, hc, t1.1, t1.2.1, t1.2.2.2.2.2.1, t1.2.2.2.2.2.2.2.2.2.1, n32_ix, n32_toNat, e1, n32_lt]
    by_cases hc : s_nat g 3 ≤ 900000
    · rw [if_neg (by omega), decide_eq_true hc]; rfl
    · rw [if_pos (by omega), decide_eq_false hc]; rfl
  by_cases hx : ((0 : Nat) : Int) ≤ x.toInt ∧ x.toInt ≤ ((100 : Nat) : Int)
  · have W := fun σ => c_win1 σ (by omega) (by omega) hx
    have WM := fun σ => m_win1 σ (by omega) (by omega) hx
    by_cases ht : s_nat g 3 ≤ 900000
    · rw [decide_eq_true ht] at late r26
      obtain ⟨vis, hvis, rfl⟩ := n32_of2 (x := x) (k := 100) (by omega) (by omega) (by omega)
      obtain ⟨st, st0, H⟩ := c_targets h.1 (s_I_low hI ht) hV hvis 20
      obtain ⟨J1, J2, J3, J4⟩ := s_fst_p (s_lr g vis) 20 0
      generalize s_fst (s_lr g vis) 20 0 = J at J1 J2 J3 J4
      have oj : ∀ i, i ≤ 20 → z_ob (st i) b 8 = true := fun i hi => (H i hi).2.1.1.1
      have LP : f_X9_leastTarget_43 b (n32 vis) σ (n32 20) = some (.inr (if J = 20 then nn else n32 (20 * (J + 1))), st (if J = 20 then 20 else J + 1)) := by
        unfold f_X9_leastTarget_43
        have e0 : (σ, n32 20) = ((fun i => (st i, n32 (20 * (i + 1)))) 0 : zSt × Int32) := by rw [← st0]
        rw [e0]
        refine zloop_go (N := zN) (fun i => (st i, n32 (20 * (i + 1)))) _ J (fun i hi => ?_) ?_ (by unfold zN; omega)
        · show b_X9_leastTarget_43 b (n32 vis) (st i) (n32 (20 * (i + 1))) = some (.inl (st (i + 1), n32 (20 * (i + 1 + 1))))
          have S := ((H i (by omega)).2.2 (by omega)).1
          rw [J4 i (by omega) hi] at S
          have ea : 20 * (i + 1) + 20 = 20 * (i + 1 + 1) := by omega
          simp (disch := omega) only [b_X9_leastTarget_43, ↓zl_eq, ↓zb_eq, ↓zb2_eq, ↓zc_some, ↓zc_none, ↓zb_pre, ↓zb2_pre, ↓zc_pre, ↓zex_eq, ↓reduceIte, Option.isSome_some, Option.isSome_none, Option.getD_some, n32_lit, n32_lt, oj, S, bf0', n32_add, ea]
          rw [if_neg (by omega)]
        · show b_X9_leastTarget_43 b (n32 vis) (st J) (n32 (20 * (J + 1))) = _
          by_cases h20 : J = 20
          · subst h20
            rw [if_pos rfl, if_pos rfl]
            simp (disch := omega) only [b_X9_leastTarget_43, ↓zl_eq, ↓zb_eq, ↓zb2_eq, ↓zc_some, ↓zc_none, ↓zb_pre, ↓zb2_pre, ↓zc_pre, ↓zex_eq, ↓reduceIte, Option.isSome_some, Option.isSome_none, Option.getD_some, n32_lit, n32_nn2, n32_lt]
            rw [if_pos (by omega)]
          · have hc : s_lr g vis J = true := by
              rcases J3 with h | h
              · omega
              · exact h
            have S := ((H J (by omega)).2.2 (by omega)).1
            rw [hc] at S
            have oJ := oj J (by omega)
            rw [if_neg h20, if_neg h20]
            simp (disch := omega) only [b_X9_leastTarget_43, ↓zl_eq, ↓zb_eq, ↓zb2_eq, ↓zc_some, ↓zc_none, ↓zb_pre, ↓zb2_pre, ↓zc_pre, ↓zex_eq, ↓reduceIte, Option.isSome_some, Option.isSome_none, Option.getD_some, n32_lit, n32_lt, oJ, S, bt0']
            rw [if_neg (by omega)]
      generalize hJF : (if J = 20 then 20 else J + 1) = JF at LP
      have hJF2 : JF ≤ 20 := by
        rw [← hJF]
        by_cases h20 : J = 20
        · rw [if_pos h20]; exact Nat.le_refl _
        · rw [if_neg h20]; omega
      have eq := s_lg_eq g vis JF
      obtain ⟨FJ, CJ, _⟩ := H JF hJF2
      refine ⟨0, if J = 20 then nn else n32 (20 * (J + 1)), s_lg g vis JF, k, gs, tl, tx, w_leastTarget O o8 ⟨st JF, ?_, CJ, zEq_fw (zFw_of FJ) (by omega), by rw [FJ.1]; exact Nat.le_refl _⟩, fun σ1 hM => ?_, s_I_w (s_I_eq eq hI) (Nat.le_refl _) (by omega), fun i hi => s_I_w (h.2.2.2.1 i hi) (Nat.le_refl _) (by omega), h.2.2.2.2.1, h.2.2.2.2.2.1, h.2.2.2.2.2.2.1⟩
      · simp only [f_X9_leastTarget, ↓zl_eq, ↓zb_eq, ↓zb2_eq, ↓zc_some, ↓zc_none, ↓zb_pre, ↓zb2_pre, ↓zc_pre, ↓zex_eq, ↓reduceIte, Option.isSome_some, Option.isSome_none, Option.getD_some, n32_lit, W, bt0', bf0', Bool.not_true, o8, r0, o2, late, LP]
      · have T := zM_thr hM (n32 0)
        obtain ⟨A, EL, ML, FL, tL⟩ := zM_lays T.1
        generalize hσ3 : z_sA (z_sA σ1 (b + 118) (gu (z_I σ1 (b + 118)) 4 (n32 0))) (b + 121) (s_cp g A 942) = σ3 at EL ML FL tL
        have a3 : z_I σ3 (b + 121) = s_cp g A 942 := by rw [← hσ3, z_I_sA]
        have mg : z_I σ3 (b + 118 + 1) = g := ML.2.1
        have G := m_gs hM.1 true true true (show bi true = bi true from rfl) (show bi true = bi true from rfl) (show n32 1 = bi true from rfl)
        have sg : s_goes true true true = n32 0 := rfl
        rw [sg] at G
        have oo : z_ob (z_sA σ1 (b + 118) (gu (z_I σ1 (b + 118)) 4 (n32 0))) (b + 118) 9 = true := hM.1.1
        have LM : f_X10_leastTarget_42 (b + 118) (n32 vis) σ3 (n32 20) = some (if J = 20 then nn else n32 (20 * (J + 1)), z_sA σ3 (b + 119) (s_lg g vis JF)) := by
          unfold f_X10_leastTarget_42
          have e0 : (σ3, n32 20) = ((fun i => (z_sA σ3 (b + 119) (s_lg g vis i), n32 (20 * (i + 1)))) 0 : zSt × Int32) := by
            have : z_sA σ3 (b + 119) (s_lg g vis 0) = σ3 := by
              show z_sA σ3 (b + 119) g = σ3
              rw [← mg]; exact z_sA_id σ3 (b + 119)
            simp only [this]
          rw [e0]
          have m1 := ML.1
          have f1 : b + 118 + 1 = b + 119 := rfl
          unfold zMs at m1
          rw [f1] at m1
          refine zloop_go (N := zN) (fun i => (z_sA σ3 (b + 119) (s_lg g vis i), n32 (20 * (i + 1)))) _ J (fun i hi => ?_) ?_ (by unfold zN; omega)
          · show b_X10_leastTarget_42 (b + 118) (n32 vis) (z_sA σ3 (b + 119) (s_lg g vis i)) (n32 (20 * (i + 1))) = some (.inl (z_sA σ3 (b + 119) (s_lg g vis (i + 1)), n32 (20 * (i + 1 + 1))))
            have TG := m_target (b := b) ML.1 a3 (gi := s_lg g vis i) (t := 20 * (i + 1)) hvis ((H i (by omega)).2.2 (by omega)).2
            have hr := J4 i (by omega) hi
            have hr2 : decide (0 < s_wtn (s_lx vis (20 * (i + 1)) (s_lg g vis i)) 32) = true := by
              unfold s_lr at hr
              simpa using hr
            rw [hr2, if_pos rfl] at TG
            have ea : 20 * (i + 1) + 20 = 20 * (i + 1 + 1) := by omega
            rw [n32_add, ea] at TG
            simp (disch := omega) only [b_X10_leastTarget_42, ↓zl_eq, ↓zb_eq, ↓zb2_eq, ↓zc_some, ↓zc_none, ↓zb_pre, ↓zb2_pre, ↓zc_pre, ↓zex_eq, ↓reduceIte, Option.isSome_some, Option.isSome_none, Option.getD_some, n32_lit, n32_lt, z_ob_sA, z_R_sA, z_ar_sA, z_ln_sA, m1.1, m1.2.1, m1.2.2.2.2.2.1, m1.2.2.2.2.2.2.2.2.2.1, n32_ix, n32_toNat, z_pI_eq, z_I_sA, z_sA_sA, TG]
            rw [if_neg (by omega)]
            rfl
          · show b_X10_leastTarget_42 (b + 118) (n32 vis) (z_sA σ3 (b + 119) (s_lg g vis J)) (n32 (20 * (J + 1))) = _
            by_cases h20 : J = 20
            · subst h20
              rw [if_pos rfl] at hJF
              subst hJF
              rw [if_pos rfl]
              simp (disch := omega) only [b_X10_leastTarget_42, ↓zl_eq, ↓zb_eq, ↓zb2_eq, ↓zc_some, ↓zc_none, ↓zb_pre, ↓zb2_pre, ↓zc_pre, ↓zex_eq, ↓reduceIte, Option.isSome_some, Option.isSome_none, Option.getD_some, n32_lit, n32_nn2, n32_lt]
              rw [if_pos (by omega)]
            · rw [if_neg h20] at hJF
              subst hJF
              rw [if_neg h20]
              have hc : s_lr g vis J = true := by
                rcases J3 with h | h
                · omega
                · exact h
              have TG := m_target (b := b) ML.1 a3 (gi := s_lg g vis J) (t := 20 * (J + 1)) hvis ((H J (by omega)).2.2 (by omega)).2
              have hr2 : decide (0 < s_wtn (s_lx vis (20 * (J + 1)) (s_lg g vis J)) 32) = false := by
                unfold s_lr at hc
                simpa using hc
              rw [hr2, if_neg (by decide)] at TG
              simp (disch := omega) only [b_X10_leastTarget_42, ↓zl_eq, ↓zb_eq, ↓zb2_eq, ↓zc_some, ↓zc_none, ↓zb_pre, ↓zb2_pre, ↓zc_pre, ↓zex_eq, ↓reduceIte, Option.isSome_some, Option.isSome_none, Option.getD_some, n32_lit, n32_lt, z_ob_sA, z_R_sA, z_ar_sA, z_ln_sA, m1.1, m1.2.1, m1.2.2.2.2.2.1, m1.2.2.2.2.2.2.2.2.2.1, n32_ix, n32_toNat, z_pI_eq, z_I_sA, z_sA_sA, TG]
              rw [if_neg (by omega)]
              rfl
        have N := zM_new ML (s_lg g vis JF)
        refine ⟨_, ?_, N.1, zFM_t T.2.1 (zFM_t FL N.2.1), by rw [N.2.2, tL]; exact T.2.2⟩
        show f_X10_leastTarget σ1 (b + 118) (n32 vis) = _
        rw [r26 σ1 hM true (WM σ1)]
        simp only [f_X10_leastTarget_26, ↓zl_eq, ↓zb_eq, ↓zb2_eq, ↓zc_some, ↓zc_none, ↓zb_pre, ↓zb2_pre, ↓zc_pre, ↓zex_eq, ↓reduceIte, Option.isSome_some, Option.isSome_none, Option.getD_some, n32_lit, hM.1.1, G, Bool.and_self, bt0', oo, EL, LM]
    · rw [decide_eq_false ht] at late r26
      refine zP_q h (r := 2) (v := 0) (x_leastTarget1 _ O o8 (zA9_x h.1 ?_)) (fun σ1 hM => zAM_q hM ?_)
      · simp only [f_X9_leastTarget, ↓zl_eq, ↓zb_eq, ↓zb2_eq, ↓zc_some, ↓zc_none, ↓zb_pre, ↓zb2_pre, ↓zc_pre, ↓zex_eq, ↓reduceIte, Option.isSome_some, Option.isSome_none, Option.getD_some, n32_lit, W, bt0', Bool.not_false, o8, r0, o2, late]
      · have G := m_gs hM.1 true false true (show bi true = bi true from rfl) (show bi false = bi false from rfl) (show n32 1 = bi true from rfl)
        show f_X10_leastTarget σ1 (b + 118) x = _
        rw [r26 σ1 hM true (WM σ1)]
        simp only [f_X10_leastTarget_26, ↓zl_eq, ↓zb_eq, ↓zb2_eq, ↓zc_some, ↓zc_none, ↓zb_pre, ↓zb2_pre, ↓zc_pre, ↓zex_eq, ↓reduceIte, Option.isSome_some, Option.isSome_none, Option.getD_some, n32_lit, hM.1.1, G, Bool.and_false, Bool.false_and, bf0']
        rfl
  · have W := fun σ => c_win0 σ (by omega) (by omega) hx
    have WM := fun σ => m_win0 σ (by omega) (by omega) hx
    refine zP_q h (r := 1) (v := 0) (x_leastTarget0 _ O o8 (zA9_x h.1 ?_)) (fun σ1 hM => zAM_q hM ?_)
    · simp only [f_X9_leastTarget, ↓zl_eq, ↓zb_eq, ↓zb2_eq, ↓zc_some, ↓zc_none, ↓zb_pre, ↓zb2_pre, ↓zc_pre, ↓zex_eq, ↓reduceIte, Option.isSome_some, Option.isSome_none, Option.getD_some, n32_lit, W, bf0']
    · have G := m_gs hM.1 false (decide (s_nat g 3 ≤ 900000)) true (show bi false = bi false from rfl) rfl (show n32 1 = bi true from rfl)
      show f_X10_leastTarget σ1 (b + 118) x = _
      rw [r26 σ1 hM false (WM σ1)]
      simp only [f_X10_leastTarget_26, ↓zl_eq, ↓zb_eq, ↓zb2_eq, ↓zc_some, ↓zc_none, ↓zb_pre, ↓zb2_pre, ↓zc_pre, ↓zex_eq, ↓reduceIte, Option.isSome_some, Option.isSome_none, Option.getD_some, n32_lit, hM.1.1, G, Bool.false_and, bf0']
      rfl
end TOP
