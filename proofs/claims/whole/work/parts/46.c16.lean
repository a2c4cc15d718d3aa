theorem s_vis_inv {g : zG} (hN : s_num g) {s : Nat} (hs : s ≤ 20) (h1 : g 1 = n32 s) {h : Nat} (hh : h < 32) (hz : g (18 + 7 * h + 0) = n32 1) (hm : s_mo (s_mid g h 101)) (ht : s_nat (s_mid g h 101) 3 ≤ s_nat g 3 + 2040) (hb : s_nat g 3 ≤ 1900000000) {mv : Nat} (hmv : mv < 2000000000) (h9 : g 9 = n32 mv) :
    s_num (s_vis g h 101) ∧ s_vis g h 101 1 = n32 s ∧ s_hol (s_vis g h 101) ∧ s_nat (s_vis g h 101) 3 ≤ s_nat g 3 + 2800 ∧ s_vis g h 101 9 = n32 (mv + 1) ∧ s_vis g h 101 0 = g 0 ∧ s_vis g h 101 2 = g 2 ∧ (∀ x, x < 32 → s_vis g h 101 (18 + 7 * x + 0) = g (18 + 7 * x + 0)) := by
  obtain ⟨h5, h52, ⟨z, hz6, h6⟩, ⟨gg, hg1, hg2, h2⟩, hmo, _, hst, mv', hmv', h9', h7⟩ := hN
  have emv : mv' = mv := by
    have a := s_nat_n32 h9' (by omega)
    have b := s_nat_n32 h9 (by omega)
    omega
  subst emv
  have ob := s_ok_begin (show s_ok g from ⟨⟨z, hz6, h6⟩, ⟨_, h5, h52⟩⟩) h
  have bn : ∀ {j : Nat}, j ≠ 8 → j ≠ 9 → j ≠ 18 + 7 * h + 5 → j ≠ 18 + 7 * h + 6 → s_begin g h j = g j := fun a b c d => s_begin_ne _ _ a b c d
  have mid : ∀ {j : Nat}, j ≠ 3 → j ≠ 11 → j ≠ 10 → j ≠ 15 → (j < 242 ∨ 742 ≤ j) → s_mid g h 101 j = s_begin g h j := fun a b c d e => s_all_ne _ _ _ _ _ a b c d e ob
  have n7 : s_nat g 7 = min mv' 40 := s_nat_n32 h7 (by omega)
  have st := hst h hh hz
  obtain ⟨nx, hnx, e3⟩ := st.2.2.2.1
  obtain ⟨gp, hgp, e4⟩ := st.2.2.2.2
  have evis : s_vis g h 101 = s_ps (s_pl (s_logged g h 101 (s_nat g 7)) h) h := rfl
  have g7 : s_logged g h 101 (s_nat g 7) 7 = n32 (min (mv' + 1) 40) := by
    unfold s_logged s_log
    rw [n7]
    by_cases hc : min mv' 40 = 40
    · rw [if_pos hc]
      unfold s_put; rw [gu_same]; congr 1; omega
    · rw [if_neg hc]
      unfold s_put; rw [gu_same]; congr 1; omega
  have lgd : ∀ {j : Nat}, j ≠ 7 → j < 782 → s_logged g h 101 (s_nat g 7) j = s_mid g h 101 j := fun a b => by unfold s_logged; exact s_log_ne _ _ _ _ _ _ a b
  rw [evis]
  generalize s_logged g h 101 (s_nat g 7) = gl at *
  have lg2 : ∀ {j : Nat}, j ≠ 7 → j ≠ 3 → j ≠ 11 → j ≠ 10 → j ≠ 15 → j ≠ 8 → j ≠ 9 → j ≠ 18 + 7 * h + 5 → j ≠ 18 + 7 * h + 6 → j < 242 → gl j = g j := fun a b c d e f p q r s => by
    rw [lgd a (by omega), mid b c d e (Or.inl s), bn f p q r]
  have l3 : gl 3 = s_mid g h 101 3 := lgd (by omega) (by omega)
  have nl3 : s_nat gl 3 = s_nat (s_mid g h 101) 3 := by unfold s_nat; rw [l3]
  have tl : gl 3 = n32 (s_nat gl 3) := by rw [nl3, l3]; exact hm.1
  have l1 : gl 1 = n32 s := by rw [lg2 (by omega) (by omega) (by omega) (by omega) (by omega) (by omega) (by omega) (by omega) (by omega) (by omega)]; exact h1
  have lx : gl (18 + 7 * h + 3) = n32 nx := by rw [lg2 (by omega) (by omega) (by omega) (by omega) (by omega) (by omega) (by omega) (by omega) (by omega) (by omega)]; exact e3
  have lp : gl (18 + 7 * h + 4) = n32 gp := by rw [lg2 (by omega) (by omega) (by omega) (by omega) (by omega) (by omega) (by omega) (by omega) (by omega) (by omega)]; exact e4
  have lz : gl (18 + 7 * h + 0) = n32 1 := by rw [lg2 (by omega) (by omega) (by omega) (by omega) (by omega) (by omega) (by omega) (by omega) (by omega) (by omega)]; exact hz
  have stl : s_sta gl := by
    refine s_sta_congr (g := s_begin g h) (fun j h18 h242 => ?_) (s_sta_begin hh hst)
    rw [lgd (by omega) (by omega), mid (by omega) (by omega) (by omega) (by omega) (Or.inl h242)]
  have P := s_adv_polls (nx := nx) (gp := gp) hh tl (by omega) hs l1
  have epl : s_polls gl h nx gp = s_pl gl h := by unfold s_pl; rw [s_nat_n32 lx (by omega), s_nat_n32 lp (by omega)]
  obtain ⟨ny, hny, ly⟩ := s_polls_next (gp := gp) gl hh hnx lx
  have stp := s_sta_polls (nx := nx) (gp := gp) stl hh lz
  rw [epl] at P ly stp
  have p3 := s_adv_3 P (by omega)
  have p1 : s_pl gl h 1 = n32 s := by rw [P.2.1 1 (by decide)]; exact l1
  have pz : s_pl gl h (18 + 7 * h + 0) = n32 1 := by rw [P.2.2.2.2 h hh]; exact lz
  have Q := s_adv_passes (nx := ny) hh hny p3.1 (by omega) hs p1
  have hol := s_passes_hol (nx := ny) hh hny pz p3.1 (by omega) hs p1
  have stq := s_sta_passes (nx := ny) stp hh hny
  have eps : s_passes (s_pl gl h) h ny = s_ps (s_pl gl h) h := by unfold s_ps; rw [s_nat_n32 ly (by omega)]
  rw [eps] at Q hol stq
  have A := s_adv_t P (by omega) Q
  have a3 := s_adv_3 A (by omega)
  have r5 : s_ps (s_pl gl h) h 5 = g 5 := by rw [A.2.2.1 5 (by decide) (by decide)]; exact lg2 (by omega) (by omega) (by omega) (by omega) (by omega) (by omega) (by omega) (by omega) (by omega) (by omega)
  have r6 : s_ps (s_pl gl h) h 6 = g 6 := by rw [A.2.2.1 6 (by decide) (by decide)]; exact lg2 (by omega) (by omega) (by omega) (by omega) (by omega) (by omega) (by omega) (by omega) (by omega) (by omega)
  have r9 : s_ps (s_pl gl h) h 9 = n32 (mv' + 1) := by
    rw [A.2.2.1 9 (by decide) (by decide), lgd (by omega) (by omega), mid (by omega) (by omega) (by omega) (by omega) (by omega)]
    unfold s_begin
    rw [gu_ne _ _ (by omega), gu_same, h9, n32_add]
  have nr5 : s_nat (s_ps (s_pl gl h) h) 5 = s_nat g 5 := by unfold s_nat; rw [r5]
  have r0 : s_ps (s_pl gl h) h 0 = g 0 := by rw [A.2.1 0 (by decide)]; exact lg2 (by omega) (by omega) (by omega) (by omega) (by omega) (by omega) (by omega) (by omega) (by omega) (by omega)
  have r2 : s_ps (s_pl gl h) h 2 = g 2 := by rw [A.2.1 2 (by decide)]; exact lg2 (by omega) (by omega) (by omega) (by omega) (by omega) (by omega) (by omega) (by omega) (by omega) (by omega)
  have mol : s_mo gl := by
    refine s_mo_t (d := 0) hm (by rw [l3, Nat.add_zero]; exact hm.1) (by omega) (lgd (by omega) (by omega)) (fun m hmm => ?_)
    have : s_nat (s_mid g h 101) 5 = s_nat g 5 := by unfold s_nat; rw [mid (by omega) (by omega) (by omega) (by omega) (by omega), bn (by omega) (by omega) (by omega) (by omega)]
    exact ⟨lgd (by omega) (by omega), lgd (by omega) (by omega)⟩
  have moq : s_mo (s_ps (s_pl gl h) h) := by
    have A9 := A
    obtain ⟨⟨e, he, h3e⟩, _⟩ := A9
    exact s_mo_t (d := e) mol h3e (by omega) (A.2.2.1 5 (by decide) (by decide)) (fun m _ => ⟨A.2.2.2.1 _ (by omega), A.2.2.2.1 _ (by omega)⟩)
  refine ⟨⟨by rw [nr5]; exact h5, by rw [nr5, r5]; exact h52, ⟨z, hz6, by rw [r6]; exact h6⟩, ⟨gg, hg1, hg2, by rw [r2]; exact h2⟩, moq, by omega, stq, mv' + 1, by omega, r9, by rw [A.2.2.1 7 (by decide) (by decide)]; exact g7⟩, by rw [A.2.1 1 (by decide)]; exact l1, hol, by omega, r9, r0, r2, fun x hx => ?_⟩
  rw [A.2.2.2.2 x hx]
  exact lg2 (by omega) (by omega) (by omega) (by omega) (by omega) (by omega) (by omega) (by omega) (by omega) (by omega)
/-- the token made anew keeps what is asked -/
theorem s_tok_ne (g : zG) {x j : Nat} (h3 : j ≠ 3) (h4 : j ≠ 4) (h12 : j ≠ 12) (h5 : j ≠ 18 + 7 * x + 2) (h6 : j ≠ 18 + 7 * x + 3) : s_tok g x j = g j := by
  unfold s_tok
  by_cases hr : s_ring g x = true
  · simp only [hr, if_true]
    rw [gu_ne _ _ h12, gu_ne _ _ h4, gu_ne _ _ h3]
  · simp only [hr, if_false, Bool.false_eq_true]
    rw [gu_ne _ _ h12, gu_ne _ _ h4, gu_ne _ _ h6, gu_ne _ _ h5, gu_ne _ _ h3]
theorem s_tok_3 (g : zG) {x : Nat} (hx : x < 32) : s_tok g x 3 = g 3 + g 1 * n32 (6 + 2 * x) := by
  unfold s_tok
  by_cases hr : s_ring g x = true
  · simp only [hr, if_true]
    rw [gu_ne _ _ (by omega), gu_ne _ _ (by omega), gu_same]
  · simp only [hr, if_false, Bool.false_eq_true]
    rw [gu_ne _ _ (by omega), gu_ne _ _ (by omega), gu_ne _ _ (by omega), gu_ne _ _ (by omega), gu_same]
theorem s_tok_inv {g : zG} (hN : s_num g) {s : Nat} (hs : s ≤ 20) (h1 : g 1 = n32 s) {x : Nat} (hx : x < 32) (hon : g (18 + 7 * x + 1) = n32 1) (hb : s_nat g 3 ≤ 1900000000) : s_num (s_tok g x) ∧ s_nat (s_tok g x) 3 ≤ s_nat g 3 + 1360 := by
  obtain ⟨h5, h52, ⟨z, hz6, h6⟩, ⟨gg, hg1, hg2, h2⟩, hmo, _, hst, mv, hmv, h9, h7⟩ := hN
  have hle : s * (6 + 2 * x) ≤ 1360 := by
    have : s * (6 + 2 * x) ≤ 20 * 68 := Nat.mul_le_mul hs (by omega)
    omega
  have e3 : s_tok g x 3 = n32 (s_nat g 3 + s * (6 + 2 * x)) := by
    rw [s_tok_3 g hx, h1, n32_mul]
    conv => lhs; lhs; rw [hmo.1]
    rw [n32_add]
  have t5 : s_tok g x 5 = g 5 := s_tok_ne _ (by omega) (by omega) (by omega) (by omega) (by omega)
  have nt3 := s_nat_n32 e3 (by omega)
  have nt5 : s_nat (s_tok g x) 5 = s_nat g 5 := by unfold s_nat; rw [t5]
  refine ⟨⟨by rw [nt5]; exact h5, by rw [nt5, t5]; exact h52, ⟨z, hz6, by rw [s_tok_ne _ (by omega) (by omega) (by omega) (by omega) (by omega)]; exact h6⟩, ⟨gg, hg1, hg2, by rw [s_tok_ne _ (by omega) (by omega) (by omega) (by omega) (by omega)]; exact h2⟩, ?_, by omega, s_sta_tok hst hx hon, mv, hmv, by rw [s_tok_ne _ (by omega) (by omega) (by omega) (by omega) (by omega)]; exact h9, by rw [s_tok_ne _ (by omega) (by omega) (by omega) (by omega) (by omega)]; exact h7⟩, by omega⟩
  exact s_mo_t hmo e3 (by omega) t5 (fun m _ => ⟨s_tok_ne _ (by omega) (by omega) (by omega) (by omega) (by omega), s_tok_ne _ (by omega) (by omega) (by omega) (by omega) (by omega)⟩)
