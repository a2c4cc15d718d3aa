/-! HOW MANY MESSAGES HAVE BEEN SENT -/
def s_done (g : zG) (m : Nat) : Bool := !decide (g (242 + 5 * m + 4) = nn)
def s_ds (g : zG) : Prop := g 10 = n32 (s_cnt (s_done g) (s_nat g 5))
theorem s_ds_congr {g g' : zG} (h10 : g' 10 = g 10) (h5 : g' 5 = g 5) (hm : ∀ m, m < s_nat g 5 → g' (242 + 5 * m + 4) = g (242 + 5 * m + 4)) (H : s_ds g) : s_ds g' := by
  have e5 : s_nat g' 5 = s_nat g 5 := by unfold s_nat; rw [h5]
  unfold s_ds
  rw [h10, e5, s_cnt_congr (P := s_done g) _ (fun m h => by unfold s_done; rw [hm m h])]
  exact H
theorem s_ds_sends {g : zG} (H : s_ds g) (hmo : s_mo g) {m : Nat} (hm : m < s_nat g 5) (hw : g (242 + 5 * m + 4) = nn) (hb : s_nat g 3 < 2147483648) : s_ds (s_sends g m) := by
  by_cases hs : s_spoilt g m = true
  · unfold s_sends
    rw [if_pos hs]
    exact s_ds_congr (s_takes_ne _ _ (by decide) (by decide)) (s_takes_ne _ _ (by decide) (by decide)) (fun k _ => s_takes_ne _ _ (by omega) (by omega)) H
  · have e5 : s_nat (s_sends g m) 5 = s_nat g 5 := by unfold s_nat; rw [s_sends_ne _ _ (by decide) (by decide) (by decide) (by decide) (by omega)]
    have hv := c_wait hmo hm hb
    have e4 : s_sends g m (242 + 5 * m + 4) = g 3 - g (242 + 5 * m + 3) := by
      unfold s_sends s_sent
      rw [if_neg hs, gu_ne _ _ (by omega), gu_ne _ _ (by omega), gu_same]
    have u := (s_cnt_upd (P := s_done (s_sends g m)) (P' := s_done g) (m := m) (by unfold s_done; rw [e4, decide_eq_false hv]; rfl) (by unfold s_done; rw [hw]; rfl) (fun k hk => by unfold s_done; rw [s_sends_ne _ _ (by omega) (by omega) (by omega) (by omega) (by omega)]) (s_nat g 5)).2 hm
    have H2 : g 10 = n32 (s_cnt (s_done g) (s_nat g 5)) := H
    unfold s_ds
    rw [e5, s_sends_10, if_neg hs, ← u, H2, n32_add]
theorem s_next_w (g : zG) (x : Int32) (h5 : s_nat g 5 ≤ 100) : s_next g x nn = nn ∨ ∃ c, c < s_nat g 5 ∧ s_next g x nn = n32 c ∧ g (242 + 5 * c + 4) = nn := by
  have e : s_next g x nn = s_nx g x nn (s_nat g 5) := rfl
  rw [e]
  rcases s_nx_min g x nn (s_nat g 5) (by omega) with ⟨h1, _⟩ | ⟨c, h1, h2, h3, _⟩
  · exact Or.inl h1
  · refine Or.inr ⟨c, h1, h2, ?_⟩
    unfold s_wt at h3
    simp only [Bool.and_eq_true, decide_eq_true_eq] at h3
    exact h3.1.2
theorem s_ds_sl (x t0 al : Int32) : ∀ (k : Nat) (g : zG) (sp : Bool), s_ds g → s_mo g → s_nat g 5 ≤ 100 → s_nat g 3 + 20 * k + 20 ≤ 2147483647 → s_ds (s_sl x t0 al k g sp) := by
  intro k
  induction k with
  | zero => intro g sp H _ _ _; exact H
  | succ k ih =>
    intro g sp H hmo h5 hb
    unfold s_sl
    by_cases hs : s_stop x t0 al g sp = true
    · rw [if_pos hs]; exact H
    · rw [if_neg hs]
      rcases s_next_w g x h5 with hj | ⟨c, hc, hce, hw⟩
      · exact absurd (by simp [s_stop, hj]) hs
      · rw [hce, n32_toNat (by omega)]
        obtain ⟨m1, m2, m3⟩ := s_mo_sends hmo hc (B := 2147483647) (by omega) (by omega)
        exact ih _ _ (s_ds_sends H hmo hc hw (by omega)) m1 (by omega) (by omega)
theorem s_ds_all (x t0 al : Int32) (k : Nat) (g : zG) (H : s_ds g) (hmo : s_mo g) (h5 : s_nat g 5 ≤ 100) (hb : s_nat g 3 + 20 * k + 40 ≤ 2147483647) : s_ds (s_all x t0 al k g) := by
  unfold s_all
  by_cases hu : s_urg g x = true
  · rw [if_pos hu]
    rcases s_next_w g x h5 with hj | ⟨c, hc, hce, hw⟩
    · unfold s_urg at hu; rw [hj] at hu; simp at hu
    · rw [hce, n32_toNat (by omega)]
      obtain ⟨m1, m2, m3⟩ := s_mo_sends hmo hc (B := 2147483647) (by omega) (by omega)
      exact s_ds_sl _ _ _ _ _ _ (s_ds_sends H hmo hc hw (by omega)) m1 (by omega) (by omega)
  · rw [if_neg hu]
    exact s_ds_sl _ _ _ _ _ _ H hmo h5 (by omega)
theorem s_ds_vis {g : zG} (hN : s_num g) {h : Nat} (hh : h < 32) (hz : g (18 + 7 * h + 0) = n32 1) (hb : s_nat g 3 ≤ 1900000000) (H : s_ds g) : s_ds (s_vis g h 101) := by
  obtain ⟨h5, h52, ⟨z, hz6, h6⟩, ⟨gg, hg1, hg2, h2⟩, hmo, _, hst, mv', hmv', h9', h7⟩ := hN
  have ob := s_ok_begin (show s_ok g from ⟨⟨z, hz6, h6⟩, ⟨_, h5, h52⟩⟩) h
  have bn : ∀ {j : Nat}, j ≠ 8 → j ≠ 9 → j ≠ 18 + 7 * h + 5 → j ≠ 18 + 7 * h + 6 → s_begin g h j = g j := fun a b c d => s_begin_ne _ _ a b c d
  have mid : ∀ {j : Nat}, j ≠ 3 → j ≠ 11 → j ≠ 10 → j ≠ 15 → (j < 242 ∨ 742 ≤ j) → s_mid g h 101 j = s_begin g h j := fun a b c d e => s_all_ne _ _ _ _ _ a b c d e ob
  have lgd : ∀ {j : Nat}, j ≠ 7 → j < 782 → s_logged g h 101 (s_nat g 7) j = s_mid g h 101 j := fun a b => by unfold s_logged; exact s_log_ne _ _ _ _ _ _ a b
  have st := hst h hh hz
  obtain ⟨nx, hnx, e3⟩ := st.2.2.2.1
  have lx : s_logged g h 101 (s_nat g 7) (18 + 7 * h + 3) = n32 nx := by
    rw [lgd (by omega) (by omega), mid (by omega) (by omega) (by omega) (by omega) (by omega), bn (by omega) (by omega) (by omega) (by omega)]; exact e3
  have vn : ∀ {j : Nat}, j ≠ 3 → j ≠ 11 → j ≠ 4 → j ≠ 13 → j ≠ 14 → (j < 18 ∨ 242 ≤ j) → s_vis g h 101 j = s_logged g h 101 (s_nat g 7) j := fun a b c d e f => s_vis_ne g hh hnx (gp := 0) (by decide) lx a b c d e f
  have D1 : s_ds (s_begin g h) := s_ds_congr (bn (by omega) (by omega) (by omega) (by omega)) (bn (by omega) (by omega) (by omega) (by omega)) (fun m _ => bn (by omega) (by omega) (by omega) (by omega)) H
  have b3 : s_begin g h 3 = g 3 := bn (by omega) (by omega) (by omega) (by omega)
  have b5 : s_begin g h 5 = g 5 := bn (by omega) (by omega) (by omega) (by omega)
  have n3 : s_nat (s_begin g h) 3 = s_nat g 3 := by unfold s_nat; rw [b3]
  have n5 : s_nat (s_begin g h) 5 = s_nat g 5 := by unfold s_nat; rw [b5]
  have M1 : s_mo (s_begin g h) := s_mo_t (d := 0) hmo (by rw [b3]; exact hmo.1) (by omega) b5 (fun m _ => ⟨bn (by omega) (by omega) (by omega) (by omega), bn (by omega) (by omega) (by omega) (by omega)⟩)
  have D2 : s_ds (s_mid g h 101) := s_ds_all _ _ _ _ _ D1 M1 (by omega) (by omega)
  have m5 : s_nat (s_mid g h 101) 5 = s_nat g 5 := by unfold s_nat; rw [mid (by omega) (by omega) (by omega) (by omega) (by omega), b5]
  refine s_ds_congr (g := s_mid g h 101) ?_ ?_ (fun m hm => ?_) D2
  · rw [vn (by omega) (by omega) (by omega) (by omega) (by omega) (by omega), lgd (by omega) (by omega)]
  · rw [vn (by omega) (by omega) (by omega) (by omega) (by omega) (by omega), lgd (by omega) (by omega)]
  · rw [vn (by omega) (by omega) (by omega) (by omega) (by omega) (by omega), lgd (by omega) (by omega)]
theorem s_low_P (P : Nat → Bool) (h0 : Int32) : ∀ k, k ≤ 32 → s_low P h0 k = h0 ∨ ∃ x, x < 32 ∧ s_low P h0 k = n32 x ∧ P x = true
  | 0, _ => Or.inl rfl
  | k + 1, hk => by
    unfold s_low
    by_cases h : P (31 - k) = true
    · rw [if_pos h]; exact Or.inr ⟨31 - k, by omega, rfl, h⟩
    · rw [if_neg h]; exact s_low_P P h0 k (by omega)
theorem s_h2_on (g : zG) : s_h2 g = nn ∨ ∃ x, x < 32 ∧ s_h2 g = n32 x ∧ s_isOn g x = true := by
  unfold s_h2
  rcases s_low_P (s_ring g) (s_h1 g) 32 (Nat.le_refl _) with h | ⟨x, hx, h1, h2⟩
  · rw [h]
    unfold s_h1
    rcases s_low_P (s_isOn g) nn 32 (Nat.le_refl _) with h | ⟨x, hx, h1, h2⟩
    · exact Or.inl h
    · exact Or.inr ⟨x, hx, h1, h2⟩
  · refine Or.inr ⟨x, hx, h1, ?_⟩
    unfold s_ring at h2
    unfold s_isOn
    simp only [Bool.and_eq_true] at h2 ⊢
    exact h2.1
theorem s_ds_visits {g : zG} {B V : Nat} (hI : s_inv g B V) (hB : B ≤ 1800000000) (H : s_ds g) : s_ds (s_visits g) := by
  obtain ⟨hN, ⟨s, hs, h1⟩, hol, hb, hv⟩ := hI
  unfold s_visits
  by_cases h4 : g 4 = nn
  · rw [if_pos h4]
    rcases s_h2_on g with h | ⟨x, hx, hx2, hon⟩
    · rw [if_pos h]; exact H
    · have hne : ¬ s_h2 g = nn := by rw [hx2, n32_ne (by omega)]; exact not_false
      rw [if_neg hne, hx2, n32_toNat (by omega)]
      unfold s_isOn at hon
      simp only [Bool.and_eq_true, decide_eq_true_eq] at hon
      have ti := s_tok_inv hN hs h1 hx hon.2 (by omega)
      refine s_ds_vis ti.1 hx ?_ (by have := ti.2; omega) ?_
      · rw [s_tok_ne _ (by omega) (by omega) (by omega) (by omega) (by omega)]; exact hon.1
      · exact s_ds_congr (s_tok_ne _ (by omega) (by omega) (by omega) (by omega) (by omega)) (s_tok_ne _ (by omega) (by omega) (by omega) (by omega) (by omega)) (fun m _ => s_tok_ne _ (by omega) (by omega) (by omega) (by omega) (by omega)) H
  · rw [if_neg h4]
    rcases hol with h | ⟨x, hx, hx4, hz⟩
    · exact absurd h h4
    · rw [s_nat_n32 hx4 (by omega)]
      exact s_ds_vis hN hx hz (by omega) H
