/-! THE LEAST TARGET -/
def s_lj (h : zG) (vis : Nat) : Nat := s_fst (fun j => !decide (0 < s_wtn (s_it h j) 32)) vis 0
def s_lx (vis t : Nat) (gi : zG) : zG := s_it (gu gi 0 (n32 t)) (s_lj (gu gi 0 (n32 t)) vis)
def s_lg (g : zG) (vis : Nat) : Nat → zG
  | 0 => g
  | i + 1 => s_cp g (s_lx vis (20 * (i + 1)) (s_lg g vis i)) 942
def s_lr (g : zG) (vis i : Nat) : Bool := !decide (0 < s_wtn (s_lx vis (20 * (i + 1)) (s_lg g vis i)) 32)
theorem s_lg_eq (g : zG) (vis : Nat) : ∀ i, s_eq g (s_lg g vis i)
  | 0 => s_eq_r g
  | _ + 1 => s_cp_eq g _
theorem bi_n (c : Bool) : bi (!c) = if c = true then n32 0 else n32 1 := by cases c <;> rfl
section TOP
variable {σ : zSt} {b k tl : Nat} {g g' : zG} {gs : Nat → zG} {tx : Nat → Int32} {B V : Nat}
/-- what the reference needs of the arrays of one target -/
def s_lf (h : zG) (vis B V : Nat) : Prop := (∀ j, j < vis → s_vok (s_it h j)) ∧ ∀ j, j ≤ vis → s_I (s_it h j) B V
theorem c_sendsAll (h : zC σ b g k gs tl tx) (hI : s_I g 900000 V) (hV : V ≤ 1000000) {vis : Nat} (hvis : vis ≤ 100) (t : Nat) : ∃ σ', f_X9_sendsAll σ b (n32 t) (n32 vis) = some (bi (!decide (0 < s_wtn (s_lx vis t g) 32)), σ') ∧ zFr (b + 20) σ σ' ∧ zBl σ' (b + 20) ∧ s_lf (gu g 0 (n32 t)) vis 1740000 (V + 100) := by
  have o8 := h.1.1
  have r0 := h.1.2.1
  have rt : z_R σ b 1 = some (b + 20) := h.1.2.2.1
  have ot : z_ob σ (b + 20) 2 = true := h.2.2.1.1.1
  obtain ⟨σ1, EC, F1, L1, C1⟩ := zC_copy h (s_I_num hI)
  obtain ⟨pl, ad, qu, n, a1, a2, a3, a4⟩ := L1
  have T := c_top (⟨a1, a2, a3⟩ : zC0 σ1 (b + 20) pl ad qu n g) (k := 0) (by decide) (n32 t)
  have T0 := zC0_step (⟨a1, a2, a3⟩ : zC0 σ1 (b + 20) pl ad qu n g) T
  have TG : qG (z_pI σ1 (b + 20) (6 + 0) (n32 t)) (b + 20) (gu g 0 (n32 t)) := qG_congr T.2.1 (gu_ne _ _ (by omega)) (gu_ne _ _ (by omega)) (fun j hj => gu_ne _ _ (by omega)) a4
  have LT : zLn (z_pI σ1 (b + 20) 6 (n32 t)) (b + 20) (gu g 0 (n32 t)) := zLn_of T0 TG
  have hIt : s_I (gu g 0 (n32 t)) 900000 V := s_I_top hI (fun j hj => gu_ne _ _ (by omega)) (by rw [gu_ne _ _ (by omega)]; exact s_I_1 hI) (by rw [gu_ne _ _ (by omega)]; exact s_I_2 hI)
  have F2 : zFr (b + 20) σ (z_pI σ1 (b + 20) 6 (n32 t)) := zFr_t F1 T.1
  generalize hhh : gu g 0 (n32 t) = hh at LT hIt ⊢
  generalize hσ2 : z_pI σ1 (b + 20) 6 (n32 t) = σ2 at LT F2
  obtain ⟨st, st0, H⟩ := c_chain LT hIt vis (by omega) (by omega)
  have ex : s_lx vis t g = s_it hh (s_lj hh vis) := by unfold s_lx; rw [hhh]
  have P := s_fst_p (fun j => !decide (0 < s_wtn (s_it hh j) 32)) vis 0
  have ej : s_fst (fun j => !decide (0 < s_wtn (s_it hh j) 32)) vis 0 = s_lj hh vis := rfl
  rw [ej] at P
  rw [ex]
  generalize s_lj hh vis = J at P
  obtain ⟨J1, J2, J3, J4⟩ := P
  have J4' : ∀ j, j < J → decide (0 < s_wtn (s_it hh j) 32) = true := fun j hj => by
    have := J4 j (by omega) hj
    simpa using this
  have wt : ∀ j, j ≤ vis → f_X2_isWaitedAt (st j) (b + 20) = some (bi (decide (0 < s_wtn (s_it hh j) 32))) := fun j hj => by
    obtain ⟨_, ⟨pl', ad', qu', n', c1, c2, c3, c4⟩, Ij, _, _⟩ := H j hj
    exact c_isWaitedAt ⟨c1, c2, c3, s_I_6 Ij, s_I_sta Ij⟩ (s_I_5 Ij).1
  have sh : ∀ j, j ≤ vis → z_ob (st j) b 8 = true ∧ z_R (st j) b 1 = some (b + 20) ∧ z_ob (st j) (b + 20) 2 = true := fun j hj => by
    have F := zFr_t F2 (H j hj).1
    exact ⟨by rw [z_ob_eq F.2.1]; exact o8, by rw [F.2.2.1]; exact rt, by rw [z_ob_eq F.2.1]; exact ot⟩
  have LP : f_X9_sendsAll_21 b (n32 vis) σ2 (n32 0) = some (bi (!decide (0 < s_wtn (s_it hh J) 32)), st J) := by
    unfold f_X9_sendsAll_21
    have e0 : (σ2, n32 0) = ((fun j => (st j, n32 j)) 0 : zSt × Int32) := by rw [← st0]
    rw [e0]
    have f49 : f_X9_sendsAll_49 (st J) b = some (bi (!decide (0 < s_wtn (s_it hh J) 32)), st J) := by
      obtain ⟨s1, s2, s3⟩ := sh J (by omega)
      have w := wt J (by omega)
      generalize decide (0 < s_wtn (s_it hh J) 32) = c at w
      cases c <;> simp only [f_X9_sendsAll_49, f_X9_sendsAll_64, ↓zl_eq, ↓zb_eq, ↓zb2_eq, ↓zc_some, ↓zc_none, ↓zb_pre, ↓zb2_pre, ↓zc_pre, ↓zex_eq, ↓reduceIte, Option.isSome_some, Option.isSome_none, Option.getD_some, n32_lit, s1, s2, s3, w, bt0', bf0', bl0, bl1] <;> rfl
    refine zloop_go (N := zN) (fun j => (st j, n32 j)) _ J (fun j hj => ?_) ?_ (by unfold zN; omega)
    · show b_X9_sendsAll_21 b (n32 vis) (st j) (n32 j) = some (.inl (st (j + 1), n32 (j + 1)))
      obtain ⟨s1, s2, s3⟩ := sh j (by omega)
      have w := wt j (by omega)
      rw [J4' j hj] at w
      simp (disch := omega) only [b_X9_sendsAll_21, ↓zl_eq, ↓zb_eq, ↓zb2_eq, ↓zc_some, ↓zc_none, ↓zb_pre, ↓zb2_pre, ↓zc_pre, ↓zex_eq, ↓reduceIte, Option.isSome_some, Option.isSome_none, Option.getD_some, n32_lit, n32_le, s1, s2, s3, w, bt0', ((H j (by omega)).2.2.2.2 (by omega)).1, n32_add]
      rw [if_neg (by omega)]
    · show b_X9_sendsAll_21 b (n32 vis) (st J) (n32 J) = _
      obtain ⟨s1, s2, s3⟩ := sh J (by omega)
      by_cases h3 : J = vis
      · rw [h3] at f49 ⊢
        simp (disch := omega) only [b_X9_sendsAll_21, ↓zl_eq, ↓zb_eq, ↓zb2_eq, ↓zc_some, ↓zc_none, ↓zb_pre, ↓zb2_pre, ↓zc_pre, ↓zex_eq, ↓reduceIte, Option.isSome_some, Option.isSome_none, Option.getD_some, n32_lit, n32_le, Nat.le_refl, f49]
      · have hc : decide (0 < s_wtn (s_it hh J) 32) = false := by
          rcases J3 with h | h
          · omega
          · simpa using h
        have w := wt J (by omega)
        rw [hc] at w
        simp (disch := omega) only [b_X9_sendsAll_21, ↓zl_eq, ↓zb_eq, ↓zb2_eq, ↓zc_some, ↓zc_none, ↓zb_pre, ↓zb2_pre, ↓zc_pre, ↓zex_eq, ↓reduceIte, Option.isSome_some, Option.isSome_none, Option.getD_some, n32_lit, n32_le, s1, s2, s3, w, bf0', f49]
        rw [if_neg (by omega)]
  refine ⟨st J, ?_, zFr_t F2 (H J (by omega)).1, zLn_bl (H J (by omega)).2.1, fun j hj => ((H j (by omega)).2.2.2.2 hj).2, fun j hj => s_I_w (H j hj).2.2.1 (by omega) (by omega)⟩
  have o8' : z_ob σ1 b 8 = true := by rw [z_ob_eq F1.2.1]; exact o8
  have rt' : z_R σ1 b 1 = some (b + 20) := by rw [F1.2.2.1]; exact rt
  have ot' : z_ob σ1 (b + 20) 2 = true := by rw [z_ob_eq F1.2.1]; exact ot
  simp only [f_X9_sendsAll, ↓zl_eq, ↓zb_eq, ↓zb2_eq, ↓zc_some, ↓zc_none, ↓zb_pre, ↓zb2_pre, ↓zc_pre, ↓zex_eq, ↓reduceIte, Option.isSome_some, Option.isSome_none, Option.getD_some, n32_lit, o8, rt, r0, ot, EC, o8', rt', ot', hσ2, LP]
/-- the class through the targets -/
theorem c_targets (h : zC σ b g k gs tl tx) (hI : s_I g 900000 V) (hV : V ≤ 1000000) {vis : Nat} (hvis : vis ≤ 100) : ∀ m, ∃ st : Nat → zSt, st 0 = σ ∧ ∀ i, i ≤ m → zFr (b + 20) σ (st i) ∧ zC (st i) b (s_lg g vis i) k gs tl tx ∧ (i < m → f_X9_sendsAll (st i) b (n32 (20 * (i + 1))) (n32 vis) = some (bi (s_lr g vis i), st (i + 1)) ∧ s_lf (gu (s_lg g vis i) 0 (n32 (20 * (i + 1)))) vis 1740000 (V + 100)) := by
  intro m
  induction m with
  | zero =>
    refine ⟨fun _ => σ, rfl, fun j hj => ?_⟩
    have : j = 0 := by omega
    subst this
    exact ⟨zFr_r _ σ, h, fun h => by omega⟩
  | succ m ih =>
    obtain ⟨st, s0, H⟩ := ih
    obtain ⟨F, C, _⟩ := H m (Nat.le_refl _)
    have Im := s_I_eq (s_lg_eq g vis m) hI
    obtain ⟨σ', E, F', L', lf⟩ := c_sendsAll C Im hV hvis (20 * (m + 1))
    have C' : zC σ' b (s_lg g vis (m + 1)) k gs tl tx := zC_eq (s_eq_t (s_eq_s (s_lg_eq g vis m)) (s_lg_eq g vis (m + 1))) (s_I_num Im) (zC_trial (zFw_of F') L' C)
    refine ⟨fun i => if i = m + 1 then σ' else st i, by show (if 0 = m + 1 then σ' else st 0) = σ; rw [if_neg (by omega)]; exact s0, fun j hj => ?_⟩
    by_cases hjm : j = m + 1
    · subst hjm
      show zFr (b + 20) σ (if m + 1 = m + 1 then σ' else _) ∧ zC (if m + 1 = m + 1 then σ' else _) b _ k gs tl tx ∧ _
      rw [if_pos rfl]
      exact ⟨zFr_t F F', C', fun h => absurd h (Nat.lt_irrefl _)⟩
    · have Hj := H j (by omega)
      show zFr (b + 20) σ (if j = m + 1 then σ' else st j) ∧ zC (if j = m + 1 then σ' else st j) b _ k gs tl tx ∧ (_ → f_X9_sendsAll (if j = m + 1 then σ' else st j) b _ _ = some (_, if j + 1 = m + 1 then σ' else st (j + 1)) ∧ _)
      rw [if_neg hjm]
      refine ⟨Hj.1, Hj.2.1, fun _ => ?_⟩
      by_cases hjm2 : j = m
      · subst hjm2
        rw [if_pos rfl]
        exact ⟨E, lf⟩
      · rw [if_neg (by omega)]
        exact Hj.2.2 (by omega)
end TOP
