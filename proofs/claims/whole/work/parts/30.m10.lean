def s_go (g : zG) (h : Nat) : Prop := s_okv g h ∧ s_allfin (n32 h) (g 3) (g 0 - s_rot g h) 101 (s_begin g h)
def s_vok (g : zG) : Prop := (g 4 = nn ∧ (s_h2 g = nn ∨ ∃ x, x < 32 ∧ s_h2 g = n32 x ∧ s_go (s_tok g x) x)) ∨ (∃ h, g 4 = n32 h ∧ s_go g h)
def s_visits (g : zG) : zG :=
  if g 4 = nn then (if s_h2 g = nn then g else s_vis (s_tok g (s_h2 g).toNatClampNeg) (s_h2 g).toNatClampNeg 101) else s_vis g (s_nat g 4) 101
theorem s_tok_4 (g : zG) (h : Nat) : s_tok g h 4 = n32 h := by
  unfold s_tok
  rw [gu_ne _ _ (by decide), gu_same]
def s_compl (g : zG) : Nat → Bool
  | 0 => true
  | k + 1 => s_compl g k && (decide (g (18 + 7 * k + 0) = n32 0) || decide (g (18 + 7 * k + 1) = n32 0) || decide (g (18 + 7 * k + 2) = n32 1))
def s_waiting (g : zG) (q : Nat) : Nat → Int32
  | 0 => n32 0
  | k + 1 => s_waiting g q k + (if s_isOn g k = true then n32 (s_cnt (s_wt g (n32 k)) q) else n32 0)
/-- station's value `what` -/
def s_stv (g : zG) (x what q : Nat) : Int32 := if what = 4 then n32 (s_cnt (s_wt g (n32 x)) q) else if what < 4 then g (18 + 7 * x + (1 + what)) else g (18 + 7 * x + what)
def s_set (g : zG) (what : Nat) : Int32 :=
  if what = 3 then s_sum (fun x => g (18 + 7 * x + 0)) 32 else if what = 4 then n32 (s_cnt (s_ring g) 32) else if what = 5 then g 6 else if what = 6 then g 3 else if what = 7 then g 4 else if what = 8 then g 5 else g what
section MODEL
variable {σ : zSt} {M : Nat}
theorem m_vis18 (hM : zMs σ M) (g : zG) {h : Nat} (hg4 : g 4 = n32 h) (hv : s_go g h) : f_X10_visits_18 (z_sA σ (M + 1) g) M = some (z_sA σ (M + 1) (s_vis g h 101)) := by
  have hh : h < 32 := hv.1.1
  have A := m_vis122 hM g hv.1 (show 101 < 5000 by decide) hv.2
  have e8 : (gu (gu (gu g (18 + 7 * h + 6) (g 3)) (18 + 7 * h + 5) (g (18 + 7 * h + 5) + n32 1)) 9 (g 9 + n32 1)) 8 = g 8 := by
    rw [gu_ne _ _ (by omega), gu_ne _ _ (by omega), gu_ne _ _ (by omega)]
  have B : ∀ rot, rot = s_rot g h → f_X10_visits_56 (z_sA σ (M + 1) g) M (n32 h) (g 3) rot = some (z_sA σ (M + 1) (s_vis g h 101)) := by
    intro rot hr
    subst hr
    simp (disch := omega) only [f_X10_visits_56, f_X10_at, ↓zl_eq, ↓zb_eq, ↓zb2_eq, ↓zc_some, ↓zc_none, ↓zb_pre, ↓zb2_pre, ↓zc_pre, ↓zex_eq, ↓reduceIte, Option.isSome_some, Option.isSome_none, Option.getD_some, n32_lit, n32_nn, n32_nn2, n32_add, n32_mul, n32_toNat, n32_ix, hM.1, hM.2.1, hM.2.2.1, hM.2.2.2.1, hM.2.2.2.2.1, hM.2.2.2.2.2.1, hM.2.2.2.2.2.2.1, hM.2.2.2.2.2.2.2.1, hM.2.2.2.2.2.2.2.2.1, hM.2.2.2.2.2.2.2.2.2.1, hM.2.2.2.2.2.2.2.2.2.2.1, hM.2.2.2.2.2.2.2.2.2.2.2.1, hM.2.2.2.2.2.2.2.2.2.2.2.2, z_pI_eq, z_sA_sA, z_I_sA, z_J_sA, z_R_sA, z_ob_sA, z_ar_sA, z_ln_sA, z_nx_sA, gu_ne, gu_same, e8]
    by_cases hr : s_rot g h ≤ g 8
    · rw [if_pos hr] at A ⊢; exact A
    · rw [if_neg hr] at A ⊢; exact A
  simp (disch := omega) only [f_X10_visits_18, ↓zl_eq, ↓zb_eq, ↓zb2_eq, ↓zc_some, ↓zc_none, ↓zb_pre, ↓zb2_pre, ↓zc_pre, ↓zex_eq, ↓reduceIte, Option.isSome_some, Option.isSome_none, Option.getD_some, n32_lit, n32_nn, n32_nn2, n32_add, n32_mul, n32_toNat, n32_ix, hM.1, hM.2.1, hM.2.2.1, hM.2.2.2.1, hM.2.2.2.2.1, hM.2.2.2.2.2.1, hM.2.2.2.2.2.2.1, hM.2.2.2.2.2.2.2.1, hM.2.2.2.2.2.2.2.2.1, hM.2.2.2.2.2.2.2.2.2.1, hM.2.2.2.2.2.2.2.2.2.2.1, hM.2.2.2.2.2.2.2.2.2.2.2.1, hM.2.2.2.2.2.2.2.2.2.2.2.2, z_pI_eq, z_sA_sA, z_I_sA, z_J_sA, z_R_sA, z_ob_sA, z_ar_sA, z_ln_sA, z_nx_sA, hg4, m_ofA hM]
  by_cases hl : g (18 + 7 * h + 6) = nn
  · rw [if_pos hl, B _ (by unfold s_rot; rw [if_pos hl])]
  · rw [if_neg hl, B _ (by unfold s_rot; rw [if_neg hl])]
theorem m_visits (hM : zMs σ M) (hv : s_vok (z_I σ (M + 1))) : f_X10_visits σ M = some (z_sA σ (M + 1) (s_visits (z_I σ (M + 1)))) := by
  unfold s_visits
  rcases hv with ⟨h4, h | ⟨x, hx, hx2, hgo⟩⟩ | ⟨h, h4, hgo⟩
  · rw [if_pos h4, if_pos h]
    simp (disch := omega) only [f_X10_visits, ↓zl_eq, ↓zb_eq, ↓zb2_eq, ↓zc_some, ↓zc_none, ↓zb_pre, ↓zb2_pre, ↓zc_pre, ↓zex_eq, ↓reduceIte, Option.isSome_some, Option.isSome_none, Option.getD_some, n32_lit, n32_nn, n32_nn2, n32_add, n32_mul, n32_toNat, n32_ix, hM.1, hM.2.1, hM.2.2.1, hM.2.2.2.1, hM.2.2.2.2.1, hM.2.2.2.2.2.1, hM.2.2.2.2.2.2.1, hM.2.2.2.2.2.2.2.1, hM.2.2.2.2.2.2.2.2.1, hM.2.2.2.2.2.2.2.2.2.1, hM.2.2.2.2.2.2.2.2.2.2.1, hM.2.2.2.2.2.2.2.2.2.2.2.1, hM.2.2.2.2.2.2.2.2.2.2.2.2, h4, m_makesToken0 hM h, z_sA_id]
  · have hne : ¬ s_h2 (z_I σ (M + 1)) = nn := by rw [hx2]; rw [n32_ne (by omega)]; exact not_false
    rw [if_pos h4, if_neg hne, hx2, n32_toNat (by omega)]
    simp (disch := omega) only [f_X10_visits, ↓zl_eq, ↓zb_eq, ↓zb2_eq, ↓zc_some, ↓zc_none, ↓zb_pre, ↓zb2_pre, ↓zc_pre, ↓zex_eq, ↓reduceIte, Option.isSome_some, Option.isSome_none, Option.getD_some, n32_lit, n32_nn, n32_nn2, n32_add, n32_mul, n32_toNat, n32_ix, hM.1, hM.2.1, hM.2.2.1, hM.2.2.2.1, hM.2.2.2.2.1, hM.2.2.2.2.2.1, hM.2.2.2.2.2.2.1, hM.2.2.2.2.2.2.2.1, hM.2.2.2.2.2.2.2.2.1, hM.2.2.2.2.2.2.2.2.2.1, hM.2.2.2.2.2.2.2.2.2.2.1, hM.2.2.2.2.2.2.2.2.2.2.2.1, hM.2.2.2.2.2.2.2.2.2.2.2.2, h4, m_makesToken1 hM hx hx2, m_vis18 hM _ (s_tok_4 _ x) hgo, n32_eq]
    simp only [Nat.one_ne_zero, if_false]
  · have hh : h < 32 := hgo.1.1
    have hne : ¬ z_I σ (M + 1) 4 = nn := by rw [h4]; rw [n32_ne (by omega)]; exact not_false
    rw [if_neg hne]
    have e : s_nat (z_I σ (M + 1)) 4 = h := by unfold s_nat; rw [h4, n32_toNat (by omega)]
    have A := m_vis18 hM (z_I σ (M + 1)) h4 hgo
    rw [z_sA_id] at A
    simp (disch := omega) only [f_X10_visits, ↓zl_eq, ↓zb_eq, ↓zb2_eq, ↓zc_some, ↓zc_none, ↓zb_pre, ↓zb2_pre, ↓zc_pre, ↓zex_eq, ↓reduceIte, Option.isSome_some, Option.isSome_none, Option.getD_some, n32_lit, n32_nn, n32_nn2, n32_add, n32_mul, n32_toNat, n32_ix, hM.1, hM.2.1, hM.2.2.1, hM.2.2.2.1, hM.2.2.2.2.1, hM.2.2.2.2.2.1, hM.2.2.2.2.2.2.1, hM.2.2.2.2.2.2.2.1, hM.2.2.2.2.2.2.2.2.1, hM.2.2.2.2.2.2.2.2.2.1, hM.2.2.2.2.2.2.2.2.2.2.1, hM.2.2.2.2.2.2.2.2.2.2.2.1, hM.2.2.2.2.2.2.2.2.2.2.2.2, if_neg hne, A, e]
theorem m_isComplete (hM : zMs σ M) : f_X10_isComplete σ M = some (bi (s_compl (z_I σ (M + 1)) 32)) := by
  unfold f_X10_isComplete f_X10_isComplete_4
  refine zloop_go (fun k => (bi (s_compl (z_I σ (M + 1)) k), n32 k)) _ 32 (fun k hk => ?_) ?_ (by unfold zN; omega)
  · show b_X10_isComplete_4 σ M (bi (s_compl (z_I σ (M + 1)) k)) (n32 k) = some (.inl (bi (s_compl (z_I σ (M + 1)) k && (decide (z_I σ (M + 1) (18 + 7 * k + 0) = n32 0) || decide (z_I σ (M + 1) (18 + 7 * k + 1) = n32 0) || decide (z_I σ (M + 1) (18 + 7 * k + 2) = n32 1))), n32 (k + 1)))
    simp (disch := omega) only [b_X10_isComplete_4, f_X10_isComplete_42, f_X10_isComplete_46, f_X10_isComplete_47, ↓zl_eq, ↓zb_eq, ↓zb2_eq, ↓zc_some, ↓zc_none, ↓zb_pre, ↓zb2_pre, ↓zc_pre, ↓zex_eq, ↓reduceIte, Option.isSome_some, Option.isSome_none, Option.getD_some, n32_lit, n32_nn, n32_nn2, n32_add, n32_mul, n32_toNat, n32_ix, hM.1, n32_le, bi_0n, m_of hM]
    rw [if_neg (by omega)]
    cases s_compl (z_I σ (M + 1)) k with
    | false => rfl
    | true =>
      by_cases h0 : z_I σ (M + 1) (18 + 7 * k + 0) = n32 0 <;> by_cases h1 : z_I σ (M + 1) (18 + 7 * k + 1) = n32 0 <;> by_cases h2 : z_I σ (M + 1) (18 + 7 * k + 2) = n32 1 <;> simp only [h0, h1, h2, ↓reduceIte, decide_true, decide_false, Bool.or_true, Bool.true_or, Bool.or_self, Bool.and_true, Bool.and_false, Bool.true_eq_false] <;> rfl
  · show b_X10_isComplete_4 σ M _ _ = _
    simp (disch := omega) only [b_X10_isComplete_4, ↓zl_eq, ↓zb_eq, ↓zb2_eq, ↓zc_some, ↓zc_none, ↓zb_pre, ↓zb2_pre, ↓zc_pre, ↓zex_eq, ↓reduceIte, Option.isSome_some, Option.isSome_none, Option.getD_some, n32_lit, n32_nn, n32_nn2, n32_add, n32_mul, n32_toNat, n32_ix, n32_le, Nat.le_refl, bi_bl]
theorem m_waiting (hM : zMs σ M) {q : Nat} (hq : z_I σ (M + 1) 5 = n32 q) (hq2 : q ≤ 100) : f_X10_waiting σ M = some (s_waiting (z_I σ (M + 1)) q 32) := by
  unfold f_X10_waiting f_X10_waiting_4
  refine zloop_go (fun k => (s_waiting (z_I σ (M + 1)) q k, n32 k)) _ 32 (fun k hk => ?_) ?_ (by unfold zN; omega)
  · show b_X10_waiting_4 σ M (s_waiting (z_I σ (M + 1)) q k) (n32 k) = some (.inl (s_waiting (z_I σ (M + 1)) q k + (if s_isOn (z_I σ (M + 1)) k = true then n32 (s_cnt (s_wt (z_I σ (M + 1)) (n32 k)) q) else n32 0), n32 (k + 1)))
    simp (disch := omega) only [b_X10_waiting_4, f_X10_waiting_39, f_X10_waiting_40, ↓zl_eq, ↓zb_eq, ↓zb2_eq, ↓zc_some, ↓zc_none, ↓zb_pre, ↓zb2_pre, ↓zc_pre, ↓zex_eq, ↓reduceIte, Option.isSome_some, Option.isSome_none, Option.getD_some, n32_lit, n32_nn, n32_nn2, n32_add, n32_mul, n32_toNat, n32_ix, hM.1, n32_le, m_of hM, m_queueOf hM hq hq2]
    rw [if_neg (by omega)]
    have e9 : s_isOn (z_I σ (M + 1)) k = (decide (z_I σ (M + 1) (18 + 7 * k + 0) = n32 1) && decide (z_I σ (M + 1) (18 + 7 * k + 1) = n32 1)) := rfl
    rw [e9]
    by_cases h1 : z_I σ (M + 1) (18 + 7 * k + 0) = n32 1 <;> by_cases h2 : z_I σ (M + 1) (18 + 7 * k + 1) = n32 1 <;> simp only [h1, h2, ↓reduceIte, decide_true, decide_false, Bool.and_false, Bool.false_and, Bool.and_self, Bool.false_eq_true]
  · show b_X10_waiting_4 σ M _ _ = _
    simp (disch := omega) only [b_X10_waiting_4, ↓zl_eq, ↓zb_eq, ↓zb2_eq, ↓zc_some, ↓zc_none, ↓zb_pre, ↓zb2_pre, ↓zc_pre, ↓zex_eq, ↓reduceIte, Option.isSome_some, Option.isSome_none, Option.getD_some, n32_lit, n32_nn, n32_nn2, n32_add, n32_mul, n32_toNat, n32_ix, n32_le, Nat.le_refl]
theorem m_stationOf (hM : zMs σ M) {q : Nat} (hq : z_I σ (M + 1) 5 = n32 q) (hq2 : q ≤ 100) {x what : Nat} (hx : x < 32) (hw : what < 7) : f_X10_stationOf σ M (n32 x) (n32 what) = some (s_stv (z_I σ (M + 1)) x what q) := by
  unfold s_stv
  by_cases h4 : what = 4
  · subst h4
    simp (disch := omega) only [f_X10_stationOf, f_X10_stationOf_30, ↓zl_eq, ↓zb_eq, ↓zb2_eq, ↓zc_some, ↓zc_none, ↓zb_pre, ↓zb2_pre, ↓zc_pre, ↓zex_eq, ↓reduceIte, Option.isSome_some, Option.isSome_none, Option.getD_some, n32_lit, n32_nn, n32_nn2, n32_add, n32_mul, n32_toNat, n32_ix, hM.1, m_queueOf hM hq hq2]
  · rw [if_neg h4]
    by_cases h5 : what < 4
    · rw [if_pos h5]
      simp (disch := omega) only [f_X10_stationOf, f_X10_stationOf_30, f_X10_stationOf_27, ↓zl_eq, ↓zb_eq, ↓zb2_eq, ↓zc_some, ↓zc_none, ↓zb_pre, ↓zb2_pre, ↓zc_pre, ↓zex_eq, ↓reduceIte, Option.isSome_some, Option.isSome_none, Option.getD_some, n32_lit, n32_nn, n32_nn2, n32_add, n32_mul, n32_toNat, n32_ix, hM.1, n32_eq, n32_le, if_neg h4, if_neg (show ¬ 4 ≤ what by omega), m_of hM]
    · rw [if_neg h5]
      simp (disch := omega) only [f_X10_stationOf, f_X10_stationOf_30, f_X10_stationOf_27, ↓zl_eq, ↓zb_eq, ↓zb2_eq, ↓zc_some, ↓zc_none, ↓zb_pre, ↓zb2_pre, ↓zc_pre, ↓zex_eq, ↓reduceIte, Option.isSome_some, Option.isSome_none, Option.getD_some, n32_lit, n32_nn, n32_nn2, n32_add, n32_mul, n32_toNat, n32_ix, hM.1, n32_eq, n32_le, if_neg h4, if_pos (show 4 ≤ what by omega), m_of hM]
theorem m_settingOf (hM : zMs σ M) {what : Nat} (hw : what < 9) : f_X10_settingOf σ M (n32 what) = some (s_set (z_I σ (M + 1)) what) := by
  unfold s_set
  simp (disch := omega) only [f_X10_settingOf, ↓zl_eq, ↓zb_eq, ↓zb2_eq, ↓zc_some, ↓zc_none, ↓zb_pre, ↓zb2_pre, ↓zc_pre, ↓zex_eq, ↓reduceIte, Option.isSome_some, Option.isSome_none, Option.getD_some, n32_lit, n32_nn, n32_nn2, n32_add, n32_mul, n32_toNat, n32_ix, hM.1, hM.2.1, hM.2.2.1, hM.2.2.2.1, hM.2.2.2.2.1, hM.2.2.2.2.2.1, hM.2.2.2.2.2.2.1, hM.2.2.2.2.2.2.2.1, hM.2.2.2.2.2.2.2.2.1, hM.2.2.2.2.2.2.2.2.2.1, hM.2.2.2.2.2.2.2.2.2.2.1, hM.2.2.2.2.2.2.2.2.2.2.2.1, hM.2.2.2.2.2.2.2.2.2.2.2.2, n32_eq, m_stations hM, m_inRing hM]
  by_cases h3 : what = 3
  · simp only [if_pos h3]
  · by_cases h4 : what = 4
    · simp only [if_neg h3, if_pos h4]
    · by_cases h5 : what = 5
      · simp only [if_neg h3, if_neg h4, if_pos h5]
      · by_cases h6 : what = 6
        · simp only [if_neg h3, if_neg h4, if_neg h5, if_pos h6]
        · by_cases h7 : what = 7
          · simp only [if_neg h3, if_neg h4, if_neg h5, if_neg h6, if_pos h7]
          · by_cases h8 : what = 8
            · simp only [if_neg h3, if_neg h4, if_neg h5, if_neg h6, if_neg h7, if_pos h8]
            · simp only [if_neg h3, if_neg h4, if_neg h5, if_neg h6, if_neg h7, if_neg h8]
end MODEL
