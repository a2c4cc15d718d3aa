/-! THE HOLDER IS ON; EVERY MESSAGE HAS A STATION -/
def s_hon (g : zG) : Prop := g 4 = nn ∨ ∃ x, x < 32 ∧ g 4 = n32 x ∧ g (18 + 7 * x + 1) = n32 1
def s_own (g : zG) : Prop := ∀ m, m < s_nat g 5 → ∃ y, y < 32 ∧ g (242 + 5 * m + 2) = n32 y ∧ g (18 + 7 * y + 0) = n32 1
theorem s_come_on (g : zG) {h to x : Nat} : s_come g h to (18 + 7 * x + 1) = g (18 + 7 * x + 1) := by
  unfold s_come
  rw [gu_ne _ _ (by omega), gu_ne _ _ (by omega), gu_ne _ _ (by omega), gu_ne _ _ (by omega), gu_ne _ _ (by omega)]
theorem s_polls_on (g : zG) {h nx gp x : Nat} : s_polls g h nx gp (18 + 7 * x + 1) = g (18 + 7 * x + 1) := by
  unfold s_polls s_poll s_asked
  split
  · split
    · rfl
    · split
      · rw [s_tick_ne _ (by omega), s_takes_ne _ _ (by omega) (by omega), gu_ne _ _ (by omega)]
      · split
        · split
          · rw [s_tick_ne _ (by omega), s_takes_ne _ _ (by omega) (by omega), s_takes_ne _ _ (by omega) (by omega), gu_ne _ _ (by omega)]
          · rw [s_come_on, s_takes_ne _ _ (by omega) (by omega), s_takes_ne _ _ (by omega) (by omega), gu_ne _ _ (by omega)]
        · rw [s_tick_ne _ (by omega), s_takes_ne _ _ (by omega) (by omega), gu_ne _ _ (by omega)]
  · rfl
theorem s_drop_on (g : zG) {h nx x : Nat} : s_drop g h nx (18 + 7 * x + 1) = g (18 + 7 * x + 1) := by
  unfold s_drop
  split
  · rw [gu_ne _ _ (by omega), gu_ne _ _ (by omega)]
  · rfl
theorem s_passes_on (g : zG) {h nx x : Nat} : s_passes g h nx (18 + 7 * x + 1) = g (18 + 7 * x + 1) := by
  unfold s_passes
  split
  · exact s_tries_ne _ _ _ (by omega) (by omega) (by omega)
  · unfold s_end
    rw [gu_ne _ _ (by omega), gu_ne _ _ (by omega), s_ask_ne _ _ _ _ (by omega) (by omega), s_drop_on, s_tries_ne _ _ _ (by omega) (by omega) (by omega)]
theorem s_tries_hon {nx : Nat} : ∀ (k : Nat) (g : zG), (s_tries nx k g).1 = true → (s_tries nx k g).2 (18 + 7 * nx + 1) = n32 1 := by
  intro k
  induction k with
  | zero => intro g h; cases h
  | succ k ih =>
    intro g
    rw [s_tries]
    split
    · rename_i hc
      intro _
      show gu (s_takes g (n32 1)) 4 (n32 nx) (18 + 7 * nx + 1) = _
      rw [gu_ne _ _ (by omega)]
      have := hc.2
      simp only [s_ring, Bool.and_eq_true, decide_eq_true_eq] at this
      exact this.1.2
    · exact ih _
theorem s_passes_hon {g : zG} {h nx : Nat} (hh : h < 32) (hx : nx < 32) (hz : g (18 + 7 * h + 1) = n32 1) : s_hon (s_passes g h nx) := by
  have AP := fun x => s_passes_on g (h := h) (nx := nx) (x := x)
  right
  unfold s_passes at AP ⊢
  split
  · rename_i ht
    exact ⟨nx, hx, (s_tries_hol hx 3 g ht).1, s_tries_hon 3 g ht⟩
  · rename_i ht
    rw [if_neg ht] at AP
    have hm := Nat.mod_lt (nx + 1) (show 32 > 0 by decide)
    obtain ⟨l1, l2⟩ := s_ask_lt h hh 32 (s_drop (s_tries nx 3 g).2 h nx) ((nx + 1) % 32) hm (by omega)
    refine ⟨_, l1, by unfold s_end; rw [gu_same], ?_⟩
    rcases l2 with l2 | l2
    · rw [l2] at AP ⊢
      rw [AP h]; exact hz
    · simp only [s_ring, Bool.and_eq_true, decide_eq_true_eq] at l2
      unfold s_end
      rw [gu_ne _ _ (by omega), gu_ne _ _ (by omega)]
      exact l2.1.2
theorem s_sl_w (x t0 al : Int32) {m w : Nat} (hw : w < 4) : ∀ (k : Nat) (g : zG) (sp : Bool), s_ok g → s_sl x t0 al k g sp (242 + 5 * m + w) = g (242 + 5 * m + w) := by
  intro k
  induction k with
  | zero => intro g sp _; rfl
  | succ k ih =>
    intro g sp ho
    unfold s_sl
    by_cases hs : s_stop x t0 al g sp = true
    · rw [if_pos hs]
    · rw [if_neg hs]
      rcases s_next_ok ho x nn with hj | ⟨m', hm, hme⟩
      · exact absurd (by simp [s_stop, hj]) hs
      · rw [hme, n32_toNat (by omega)]
        rw [ih _ _ (s_ok_sends ho m'), s_sends_ne _ _ (by omega) (by omega) (by omega) (by omega) (by omega)]
theorem s_all_w (x t0 al : Int32) {m w : Nat} (hw : w < 4) (k : Nat) (g : zG) (ho : s_ok g) : s_all x t0 al k g (242 + 5 * m + w) = g (242 + 5 * m + w) := by
  unfold s_all
  by_cases hu : s_urg g x = true
  · rw [if_pos hu]
    rcases s_next_ok ho x nn with hj | ⟨m', hm, hme⟩
    · unfold s_urg at hu; rw [hj] at hu; simp at hu
    · rw [hme, n32_toNat (by omega), s_sl_w _ _ _ hw _ _ _ (s_ok_sends ho m'), s_sends_ne _ _ (by omega) (by omega) (by omega) (by omega) (by omega)]
  · rw [if_neg hu, s_sl_w _ _ _ hw _ _ _ ho]
theorem s_vis_kp {g : zG} (hN : s_num g) {h : Nat} (hh : h < 32) (hz : g (18 + 7 * h + 0) = n32 1) : (∀ x, s_vis g h 101 (18 + 7 * x + 1) = g (18 + 7 * x + 1) ∨ 32 ≤ x) ∧ (∀ m w, m < 100 → w < 4 → s_vis g h 101 (242 + 5 * m + w) = g (242 + 5 * m + w)) ∧ (g (18 + 7 * h + 1) = n32 1 → s_hon (s_vis g h 101)) := by
  obtain ⟨h5, h52, ⟨z, hz6, h6⟩, ⟨gg, hg1, hg2, h2⟩, hmo, _, hst, mv', hmv', h9', h7⟩ := hN
  have ob := s_ok_begin (show s_ok g from ⟨⟨z, hz6, h6⟩, ⟨_, h5, h52⟩⟩) h
  have bn : ∀ {j : Nat}, j ≠ 8 → j ≠ 9 → j ≠ 18 + 7 * h + 5 → j ≠ 18 + 7 * h + 6 → s_begin g h j = g j := fun a b c d => s_begin_ne _ _ a b c d
  have mid : ∀ {j : Nat}, j ≠ 3 → j ≠ 11 → j ≠ 10 → j ≠ 15 → (j < 242 ∨ 742 ≤ j) → s_mid g h 101 j = s_begin g h j := fun a b c d e => s_all_ne _ _ _ _ _ a b c d e ob
  have lgd : ∀ {j : Nat}, j ≠ 7 → j < 782 → s_logged g h 101 (s_nat g 7) j = s_mid g h 101 j := fun a b => by unfold s_logged; exact s_log_ne _ _ _ _ _ _ a b
  have st := hst h hh hz
  obtain ⟨nx, hnx, e3⟩ := st.2.2.2.1
  have lx : s_logged g h 101 (s_nat g 7) (18 + 7 * h + 3) = n32 nx := by
    rw [lgd (by omega) (by omega), mid (by omega) (by omega) (by omega) (by omega) (by omega), bn (by omega) (by omega) (by omega) (by omega)]; exact e3
  have lon : ∀ x, x < 32 → s_logged g h 101 (s_nat g 7) (18 + 7 * x + 1) = g (18 + 7 * x + 1) := fun x hx => by
    rw [lgd (by omega) (by omega), mid (by omega) (by omega) (by omega) (by omega) (by omega), bn (by omega) (by omega) (by omega) (by omega)]
  refine ⟨fun x => ?_, fun m w hm hw => ?_, fun hon => ?_⟩
  · rcases Nat.lt_or_ge x 32 with hx | hx
    · left
      unfold s_vis s_ps
      rw [s_passes_on]
      unfold s_pl
      rw [s_polls_on, lon x hx]
    · exact Or.inr hx
  · rw [s_vis_ne g hh hnx (gp := 0) (by decide) lx (by omega) (by omega) (by omega) (by omega) (by omega) (by omega), lgd (by omega) (by omega)]
    have e : s_mid g h 101 (242 + 5 * m + w) = s_begin g h (242 + 5 * m + w) := s_all_w _ _ _ hw _ _ ob
    rw [e, bn (by omega) (by omega) (by omega) (by omega)]
  · unfold s_vis s_ps
    obtain ⟨ny, hny, e⟩ := s_polls_next (gp := s_nat (s_logged g h 101 (s_nat g 7)) (18 + 7 * h + 4)) (s_logged g h 101 (s_nat g 7)) hh hnx lx
    have e2 : s_nat (s_logged g h 101 (s_nat g 7)) (18 + 7 * h + 3) = nx := s_nat_n32 lx (by omega)
    have ey : s_nat (s_pl (s_logged g h 101 (s_nat g 7)) h) (18 + 7 * h + 3) = ny := s_nat_n32 (by unfold s_pl; rw [e2]; exact e) (by omega)
    rw [ey]
    refine s_passes_hon hh hny ?_
    unfold s_pl
    rw [s_polls_on, lon h hh]; exact hon
/-- all that is said of an array at rest -/
def s_I (g : zG) (B V : Nat) : Prop := s_inv g B V ∧ s_hon g ∧ s_ds g ∧ s_own g
theorem s_I_w {g : zG} {B B' V V' : Nat} (h : s_I g B V) (hB : B ≤ B') (hV : V ≤ V') : s_I g B' V' := by
  obtain ⟨⟨a, b, c, d, e⟩, r⟩ := h
  exact ⟨⟨a, b, c, by omega, by omega⟩, r⟩
theorem s_own_vis {g g' : zG} (h5 : g' 5 = g 5) (hq : s_nat g 5 ≤ 100) (hw : ∀ m, m < 100 → g' (242 + 5 * m + 2) = g (242 + 5 * m + 2)) (hz : ∀ x, x < 32 → g' (18 + 7 * x + 0) = g (18 + 7 * x + 0)) (H : s_own g) : s_own g' := by
  intro m hm
  have e5 : s_nat g' 5 = s_nat g 5 := by unfold s_nat; rw [h5]
  rw [e5] at hm
  obtain ⟨y, hy, h1, h2⟩ := H m hm
  exact ⟨y, hy, by rw [hw m (by omega)]; exact h1, by rw [hz y hy]; exact h2⟩
theorem s_vis_5 {g : zG} (hN : s_num g) {h : Nat} (hh : h < 32) (hz : g (18 + 7 * h + 0) = n32 1) : s_vis g h 101 5 = g 5 := by
  obtain ⟨h5, h52, ⟨z, hz6, h6⟩, ⟨gg, hg1, hg2, h2⟩, hmo, _, hst, mv', hmv', h9', h7⟩ := hN
  have ob := s_ok_begin (show s_ok g from ⟨⟨z, hz6, h6⟩, ⟨_, h5, h52⟩⟩) h
  have bn : ∀ {j : Nat}, j ≠ 8 → j ≠ 9 → j ≠ 18 + 7 * h + 5 → j ≠ 18 + 7 * h + 6 → s_begin g h j = g j := fun a b c d => s_begin_ne _ _ a b c d
  have mid : ∀ {j : Nat}, j ≠ 3 → j ≠ 11 → j ≠ 10 → j ≠ 15 → (j < 242 ∨ 742 ≤ j) → s_mid g h 101 j = s_begin g h j := fun a b c d e => s_all_ne _ _ _ _ _ a b c d e ob
  have lgd : ∀ {j : Nat}, j ≠ 7 → j < 782 → s_logged g h 101 (s_nat g 7) j = s_mid g h 101 j := fun a b => by unfold s_logged; exact s_log_ne _ _ _ _ _ _ a b
  obtain ⟨nx, hnx, e3⟩ := (hst h hh hz).2.2.2.1
  have lx : s_logged g h 101 (s_nat g 7) (18 + 7 * h + 3) = n32 nx := by
    rw [lgd (by omega) (by omega), mid (by omega) (by omega) (by omega) (by omega) (by omega), bn (by omega) (by omega) (by omega) (by omega)]; exact e3
  rw [s_vis_ne g hh hnx (gp := 0) (by decide) lx (by omega) (by omega) (by omega) (by omega) (by omega) (by omega), lgd (by omega) (by omega), mid (by omega) (by omega) (by omega) (by omega) (by omega), bn (by omega) (by omega) (by omega) (by omega)]
/-- what a visit keeps besides -/
theorem s_visits_kp {g : zG} {B V : Nat} (hI : s_inv g B V) (hB : B ≤ 1800000000) (hS : s_same g (s_visits g)) (ho : s_hon g) (hw : s_own g) : s_hon (s_visits g) ∧ s_own (s_visits g) ∧ s_visits g 5 = g 5 ∧ (∀ m w, m < 100 → w < 4 → s_visits g (242 + 5 * m + w) = g (242 + 5 * m + w)) := by
  obtain ⟨hN, ⟨s, hs, h1⟩, hol, hb, hv⟩ := hI
  have q5 := hN.1
  have hS2 := hS.2
  clear hS
  unfold s_visits at hS2 ⊢
  by_cases h4 : g 4 = nn
  · rw [if_pos h4] at hS2 ⊢
    rcases s_h2_on g with h | ⟨x, hx, hx2, hon⟩
    · rw [if_pos h]; exact ⟨ho, hw, rfl, fun _ _ _ _ => rfl⟩
    · have hne : ¬ s_h2 g = nn := by rw [hx2, n32_ne (by omega)]; exact not_false
      rw [if_neg hne, hx2, n32_toNat (by omega)] at hS2 ⊢
      unfold s_isOn at hon
      simp only [Bool.and_eq_true, decide_eq_true_eq] at hon
      have ti := s_tok_inv hN hs h1 hx hon.2 (by omega)
      have tz : s_tok g x (18 + 7 * x + 0) = n32 1 := by rw [s_tok_ne _ (by omega) (by omega) (by omega) (by omega) (by omega)]; exact hon.1
      obtain ⟨k1, k2, k3⟩ := s_vis_kp ti.1 hx tz
      have v5 : s_vis (s_tok g x) x 101 5 = g 5 := by
        rw [s_vis_5 ti.1 hx tz, s_tok_ne _ (by omega) (by omega) (by omega) (by omega) (by omega)]
      have vw : ∀ m w, m < 100 → w < 4 → s_vis (s_tok g x) x 101 (242 + 5 * m + w) = g (242 + 5 * m + w) := fun m w hm hw => by
        rw [k2 m w hm hw, s_tok_ne _ (by omega) (by omega) (by omega) (by omega) (by omega)]
      refine ⟨k3 (by rw [s_tok_ne _ (by omega) (by omega) (by omega) (by omega) (by omega)]; exact hon.2), s_own_vis v5 q5 (fun m hm => vw m 2 hm (by decide)) hS2 hw, v5, vw⟩
  · rw [if_neg h4] at hS2 ⊢
    rcases hol with h | ⟨x, hx, hx4, hz⟩
    · exact absurd h h4
    · rw [s_nat_n32 hx4 (by omega)] at hS2 ⊢
      obtain ⟨k1, k2, k3⟩ := s_vis_kp hN hx hz
      have v5 := s_vis_5 hN hx hz
      have hon : g (18 + 7 * x + 1) = n32 1 := by
        rcases ho with h | ⟨y, hy, hy4, hon⟩
        · exact absurd h h4
        · rw [hx4, n32_eq (by omega) (by omega)] at hy4
          rw [hy4]; exact hon
      exact ⟨k3 hon, s_own_vis v5 q5 (fun m hm => k2 m 2 hm (by decide)) hS2 hw, v5, k2⟩
/-- A VISIT keeps what is said of an array at rest -/
theorem s_I_visits {g : zG} {B V : Nat} (h : s_I g B V) (hB : B ≤ 1800000000) (hV : s_inv (s_visits g) (B + 4200) (V + 1)) (hS : s_same g (s_visits g)) : s_I (s_visits g) (B + 4200) (V + 1) := by
  obtain ⟨hI, ho, hd, hw⟩ := h
  obtain ⟨k1, k2, k3, k4⟩ := s_visits_kp hI hB hS ho hw
  exact ⟨hV, k1, s_ds_visits hI hB hd, k2⟩
