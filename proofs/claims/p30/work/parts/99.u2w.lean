/-! WHAT THE WAITS ARE -/
def k_w (g : zG) : Prop := ∀ m, m < s_nat g 5 → g (242 + 5 * m + 4) = nn ∨ ∃ w, w < 2147483648 ∧ g (242 + 5 * m + 4) = n32 w
theorem k_w_congr {g g' : zG} (h5 : g' 5 = g 5) (hm : ∀ m, m < s_nat g 5 → g' (242 + 5 * m + 4) = g (242 + 5 * m + 4)) (H : k_w g) : k_w g' := by
  have e5 : s_nat g' 5 = s_nat g 5 := by unfold s_nat; rw [h5]
  intro m h
  rw [e5] at h
  rw [hm m h]
  exact H m h
theorem k_w_sends {g : zG} (H : k_w g) (hmo : s_mo g) {m : Nat} (hm : m < s_nat g 5) (hb : s_nat g 3 < 2147483648) : k_w (s_sends g m) := by
  by_cases hs : s_spoilt g m = true
  · unfold s_sends
    rw [if_pos hs]
    exact k_w_congr (s_takes_ne _ _ (by decide) (by decide)) (fun k _ => s_takes_ne _ _ (by omega) (by omega)) H
  · have e5 : s_nat (s_sends g m) 5 = s_nat g 5 := by unfold s_nat; rw [s_sends_ne _ _ (by decide) (by decide) (by decide) (by decide) (by omega)]
    have e4 : s_sends g m (242 + 5 * m + 4) = g 3 - g (242 + 5 * m + 3) := by
      unfold s_sends s_sent
      rw [if_neg hs, gu_ne _ _ (by omega), gu_ne _ _ (by omega), gu_same]
    intro k hk
    rw [e5] at hk
    by_cases hkm : k = m
    · subst hkm
      right
      obtain ⟨w, hw, e⟩ := (hmo.2 k hm).2
      refine ⟨s_nat g 3 - w, by omega, ?_⟩
      rw [e4, e]
      conv => lhs; lhs; rw [hmo.1]
      exact n32_sub hw
    · rw [s_sends_ne _ _ (by omega) (by omega) (by omega) (by omega) (by omega)]
      exact H k hk
theorem k_w_sl (x t0 al : Int32) : ∀ (k : Nat) (g : zG) (sp : Bool), k_w g → s_mo g → s_nat g 5 ≤ 100 → s_nat g 3 + 20 * k + 20 ≤ 2147483647 → k_w (s_sl x t0 al k g sp) := by
  intro k
  induction k with
  | zero => intro g sp H _ _ _; exact H
  | succ k ih =>
    intro g sp H hmo h5 hb
    unfold s_sl
    by_cases hs : s_stop x t0 al g sp = true
    · rw [if_pos hs]; exact H
    · rw [if_neg hs]
      rcases s_next_w g x h5 with hj | ⟨c, hc, hce, hw⟩
      · exact absurd (by simp [s_stop, hj]) hs
      · rw [hce, n32_toNat (by omega)]
        obtain ⟨m1, m2, m3⟩ := s_mo_sends hmo hc (B := 2147483647) (by omega) (by omega)
        exact ih _ _ (k_w_sends H hmo hc (by omega)) m1 (by omega) (by omega)
theorem k_w_all (x t0 al : Int32) (k : Nat) (g : zG) (H : k_w g) (hmo : s_mo g) (h5 : s_nat g 5 ≤ 100) (hb : s_nat g 3 + 20 * k + 40 ≤ 2147483647) : k_w (s_all x t0 al k g) := by
  unfold s_all
  by_cases hu : s_urg g x = true
  · rw [if_pos hu]
    rcases s_next_w g x h5 with hj | ⟨c, hc, hce, hw⟩
    · unfold s_urg at hu; rw [hj] at hu; simp at hu
    · rw [hce, n32_toNat (by omega)]
      obtain ⟨m1, m2, m3⟩ := s_mo_sends hmo hc (B := 2147483647) (by omega) (by omega)
      exact k_w_sl _ _ _ _ _ _ (k_w_sends H hmo hc (by omega)) m1 (by omega) (by omega)
  · rw [if_neg hu]
    exact k_w_sl _ _ _ _ _ _ H hmo h5 (by omega)
theorem k_w_vis {g : zG} (hN : s_num g) {h : Nat} (hh : h < 32) (hz : g (18 + 7 * h + 0) = n32 1) (hb : s_nat g 3 ≤ 1900000000) (H : k_w g) : k_w (s_vis g h 101) := by
  obtain ⟨h5, h52, ⟨z, hz6, h6⟩, ⟨gg, hg1, hg2, h2⟩, hmo, _, hst, mv', hmv', h9', h7⟩ := hN
  have ob := s_ok_begin (show s_ok g from ⟨⟨z, hz6, h6⟩, ⟨_, h5, h52⟩⟩) h
  have bn : ∀ {j : Nat}, j ≠ 8 → j ≠ 9 → j ≠ 18 + 7 * h + 5 → j ≠ 18 + 7 * h + 6 → s_begin g h j = g j := fun a b c d => s_begin_ne _ _ a b c d
  have mid : ∀ {j : Nat}, j ≠ 3 → j ≠ 11 → j ≠ 10 → j ≠ 15 → (j < 242 ∨ 742 ≤ j) → s_mid g h 101 j = s_begin g h j := fun a b c d e => s_all_ne _ _ _ _ _ a b c d e ob
  have lgd : ∀ {j : Nat}, j ≠ 7 → j < 782 → s_logged g h 101 (s_nat g 7) j = s_mid g h 101 j := fun a b => by unfold s_logged; exact s_log_ne _ _ _ _ _ _ a b
  have st := hst h hh hz
  obtain ⟨nx, hnx, e3⟩ := st.2.2.2.1
  have lx : s_logged g h 101 (s_nat g 7) (18 + 7 * h + 3) = n32 nx := by
    rw [lgd (by omega) (by omega), mid (by omega) (by omega) (by omega) (by omega) (by omega), bn (by omega) (by omega) (by omega) (by omega)]; exact e3
  have vn : ∀ {j : Nat}, j ≠ 3 → j ≠ 11 → j ≠ 4 → j ≠ 13 → j ≠ 14 → (j < 18 ∨ 242 ≤ j) → s_vis g h 101 j = s_logged g h 101 (s_nat g 7) j := fun a b c d e f => s_vis_ne g hh hnx (gp := 0) (by decide) lx a b c d e f
  have D1 : k_w (s_begin g h) := k_w_congr (bn (by omega) (by omega) (by omega) (by omega)) (fun m hm => bn (by omega) (by omega) (by omega) (by omega)) H
  have b3 : s_begin g h 3 = g 3 := bn (by omega) (by omega) (by omega) (by omega)
  have b5 : s_begin g h 5 = g 5 := bn (by omega) (by omega) (by omega) (by omega)
  have n3 : s_nat (s_begin g h) 3 = s_nat g 3 := by unfold s_nat; rw [b3]
  have n5 : s_nat (s_begin g h) 5 = s_nat g 5 := by unfold s_nat; rw [b5]
  have M1 : s_mo (s_begin g h) := s_mo_t (d := 0) hmo (by rw [b3]; exact hmo.1) (by omega) b5 (fun m hm => ⟨bn (by omega) (by omega) (by omega) (by omega), bn (by omega) (by omega) (by omega) (by omega)⟩)
  have D2 : k_w (s_mid g h 101) := k_w_all _ _ _ _ _ D1 M1 (by omega) (by omega)
  have m5 : s_nat (s_mid g h 101) 5 = s_nat g 5 := by unfold s_nat; rw [mid (by omega) (by omega) (by omega) (by omega) (by omega), b5]
  refine k_w_congr (g := s_mid g h 101) ?_ (fun m hm => ?_) D2
  · rw [vn (by omega) (by omega) (by omega) (by omega) (by omega) (by omega), lgd (by omega) (by omega)]
  · rw [vn (by omega) (by omega) (by omega) (by omega) (by omega) (by omega), lgd (by omega) (by omega)]
theorem k_w_visits {g : zG} {B V : Nat} (hI : s_I g B V) (hB : B ≤ 1800000000) (H : k_w g) : k_w (s_visits g) := by
  obtain ⟨hN, ⟨s, hs, h1⟩, hol, hb, hv⟩ := hI.1
  unfold s_visits
  by_cases h4 : g 4 = nn
  · rw [if_pos h4]
    rcases s_h2_on g with h | ⟨x, hx, hx2, hon⟩
    · rw [if_pos h]; exact H
    · have hne : ¬ s_h2 g = nn := by rw [hx2, n32_ne (by omega)]; exact not_false
      rw [if_neg hne, hx2, n32_toNat (by omega)]
      unfold s_isOn at hon
      simp only [Bool.and_eq_true, decide_eq_true_eq] at hon
      have ti := s_tok_inv hN hs h1 hx hon.2 (by omega)
      refine k_w_vis ti.1 hx ?_ (by have := ti.2; omega) ?_
      · rw [s_tok_ne _ (by omega) (by omega) (by omega) (by omega) (by omega)]; exact hon.1
      · exact k_w_congr (s_tok_ne _ (by omega) (by omega) (by omega) (by omega) (by omega)) (fun m hm => s_tok_ne _ (by omega) (by omega) (by omega) (by omega) (by omega)) H
  · rw [if_neg h4]
    rcases hol with h | ⟨x, hx, hx4, hz⟩
    · exact absurd h h4
    · rw [s_nat_n32 hx4 (by omega)]
      exact k_w_vis hN hx hz (by omega) H
theorem k_w_gives {g : zG} (H : k_w g) {q : Nat} (h5 : g 5 = n32 q) (hq : q < 100) (x l u : Int32) : k_w (s_gives g q x l u) := by
  have n5 : s_nat g 5 = q := s_nat_n32 h5 (by omega)
  have n5' : s_nat (s_gives g q x l u) 5 = q + 1 := s_nat_n32 (s_gives_5 _ _ _ _ _) (by omega)
  intro m hm
  rw [n5'] at hm
  by_cases hmq : m = q
  · subst hmq
    exact Or.inl (s_gives_q g m x l u).2.2.2.2
  · rw [s_gives_ne _ _ _ _ _ (by omega) (by omega)]
    exact H m (by omega)
theorem k_w_it {g : zG} (H : k_w g) {m : Nat} (hI : ∀ j, j ≤ m → ∃ B V, B ≤ 1800000000 ∧ s_I (s_it g j) B V) : ∀ j, j ≤ m → k_w (s_it g j)
  | 0, _ => H
  | j + 1, hj => by
    obtain ⟨B, V, hB, I⟩ := hI j (by omega)
    exact k_w_visits I hB (k_w_it H hI j (by omega))
/-- how many stations there are, and what the waits are -/
def w_N (g : zG) : Prop := 1 ≤ s_ns g ∧ k_w g
