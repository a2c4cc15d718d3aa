/-! one visit of the reference -/
def s_rot (g : zG) (h : Nat) : Int32 := if g (18 + 7 * h + 6) = nn then n32 0 else g 3 - g (18 + 7 * h + 6)
def s_begin (g : zG) (h : Nat) : zG := gu (gu (gu (gu g (18 + 7 * h + 6) (g 3)) (18 + 7 * h + 5) (g (18 + 7 * h + 5) + n32 1)) 9 (g 9 + n32 1)) 8 (if s_rot g h ≤ g 8 then g 8 else s_rot g h)
def s_mid (g : zG) (h k : Nat) : zG := s_all (n32 h) (g 3) (g 0 - s_rot g h) k (s_begin g h)
def s_logged (g : zG) (h k lg : Nat) : zG := s_log (s_mid g h k) lg (g 3) (n32 h) (s_rot g h) (s_mid g h k 10 - g 10)
def s_nat (g : zG) (j : Nat) : Nat := (g j).toNatClampNeg
def s_pl (g : zG) (h : Nat) : zG := s_polls g h (s_nat g (18 + 7 * h + 3)) (s_nat g (18 + 7 * h + 4))
def s_ps (g : zG) (h : Nat) : zG := s_passes g h (s_nat g (18 + 7 * h + 3))
def s_vis (g : zG) (h k : Nat) : zG := s_ps (s_pl (s_logged g h k (s_nat g 7)) h) h
/-- what a visit asks of the array -/
def s_okv (g : zG) (h : Nat) : Prop := h < 32 ∧ s_ok g ∧ (∃ lg, lg ≤ 40 ∧ g 7 = n32 lg) ∧ (∃ nx, nx < 32 ∧ g (18 + 7 * h + 3) = n32 nx) ∧ (∃ gp, gp < 32 ∧ g (18 + 7 * h + 4) = n32 gp) ∧ (∃ gg, 1 ≤ gg ∧ gg ≤ 20 ∧ g 2 = n32 gg)
theorem s_sl_ne (x t0 al : Int32) : ∀ (k : Nat) (g : zG) (sp : Bool) {j : Nat}, j ≠ 3 → j ≠ 11 → j ≠ 10 → j ≠ 15 → (j < 242 ∨ 742 ≤ j) → s_ok g → s_sl x t0 al k g sp j = g j := by
  intro k
  induction k with
  | zero => intro g sp j _ _ _ _ _ _; rfl
  | succ k ih =>
    intro g sp j h1 h2 h3 h4 h5 ho
    unfold s_sl
    by_cases hs : s_stop x t0 al g sp = true
    · rw [if_pos hs]
    · rw [if_neg hs]
      rcases s_next_ok ho x nn with hj | ⟨m, hm, hme⟩
      · exact absurd (by simp [s_stop, hj]) hs
      · rw [hme, n32_toNat (by omega)]
        rw [ih _ _ h1 h2 h3 h4 h5 (s_ok_sends ho m), s_sends_ne _ _ h1 h2 h3 h4 (by omega)]
theorem s_all_ne (x t0 al : Int32) (k : Nat) (g : zG) {j : Nat} (h1 : j ≠ 3) (h2 : j ≠ 11) (h3 : j ≠ 10) (h4 : j ≠ 15) (h5 : j < 242 ∨ 742 ≤ j) (ho : s_ok g) : s_all x t0 al k g j = g j := by
  unfold s_all
  by_cases hu : s_urg g x = true
  · rw [if_pos hu]
    rcases s_next_ok ho x nn with hj | ⟨m, hm, hme⟩
    · unfold s_urg at hu; rw [hj] at hu; simp at hu
    · rw [hme, n32_toNat (by omega), s_sl_ne _ _ _ _ _ _ h1 h2 h3 h4 h5 (s_ok_sends ho m), s_sends_ne _ _ h1 h2 h3 h4 (by omega)]
  · rw [if_neg hu, s_sl_ne _ _ _ _ _ _ h1 h2 h3 h4 h5 ho]
theorem s_put_ne (g : zG) (k : Nat) (t0 h rot sent : Int32) {j : Nat} (h7 : j ≠ 7) (hj : j < 782 ∨ 782 + 4 * k + 4 ≤ j) : s_put g k t0 h rot sent j = g j := by
  unfold s_put
  rw [gu_ne _ _ h7, gu_ne _ _ (by omega), gu_ne _ _ (by omega), gu_ne _ _ (by omega), gu_ne _ _ (by omega)]
theorem s_log_ne (g : zG) (k : Nat) (t0 h rot sent : Int32) {j : Nat} (h7 : j ≠ 7) (hj : j < 782) : s_log g k t0 h rot sent j = g j := by
  unfold s_log
  split
  · rw [s_put_ne _ _ _ _ _ _ h7 (Or.inl hj), gu_ne _ _ h7]
    unfold s_shift
    rw [if_neg (by omega)]
  · rw [s_put_ne _ _ _ _ _ _ h7 (Or.inl hj)]
theorem s_ok_begin {g : zG} (ho : s_ok g) (h : Nat) : s_ok (s_begin g h) := by
  obtain ⟨⟨n, h1, h2⟩, ⟨q, h3, h4⟩⟩ := ho
  refine ⟨⟨n, h1, ?_⟩, ⟨q, h3, ?_⟩⟩
  · unfold s_begin; rw [gu_ne _ _ (by omega), gu_ne _ _ (by omega), gu_ne _ _ (by omega), gu_ne _ _ (by omega)]; exact h2
  · unfold s_begin; rw [gu_ne _ _ (by omega), gu_ne _ _ (by omega), gu_ne _ _ (by omega), gu_ne _ _ (by omega)]; exact h4
theorem s_begin_ne (g : zG) (h : Nat) {j : Nat} (h1 : j ≠ 8) (h2 : j ≠ 9) (h3 : j ≠ 18 + 7 * h + 5) (h4 : j ≠ 18 + 7 * h + 6) : s_begin g h j = g j := by
  unfold s_begin; rw [gu_ne _ _ h1, gu_ne _ _ h2, gu_ne _ _ h3, gu_ne _ _ h4]
theorem s_come_ne (g : zG) (h to : Nat) {j : Nat} (h1 : j ≠ 13) (h2 : j < 18 ∨ 242 ≤ j) (hh : h < 32) (ht : to < 32) : s_come g h to j = g j := by
  unfold s_come
  rw [gu_ne _ _ h1, gu_ne _ _ (by omega), gu_ne _ _ (by omega), gu_ne _ _ (by omega), gu_ne _ _ (by omega)]
theorem s_polls_ne (g : zG) {h nx gp : Nat} {j : Nat} (h1 : j ≠ 13) (h2 : j < 18 ∨ 242 ≤ j) (h3 : j ≠ 3) (h11 : j ≠ 11) (hh : h < 32) : s_polls g h nx gp j = g j := by
  have ht := s_to_lt h nx gp
  unfold s_polls s_poll s_asked
  split
  · split
    · rfl
    · split
      · rw [s_tick_ne _ h3, s_takes_ne _ _ h3 h11, gu_ne _ _ (by omega)]
      · split
        · split
          · rw [s_tick_ne _ h3, s_takes_ne _ _ h3 h11, s_takes_ne _ _ h3 h11, gu_ne _ _ (by omega)]
          · rw [s_come_ne _ _ _ h1 h2 hh ht, s_takes_ne _ _ h3 h11, s_takes_ne _ _ h3 h11, gu_ne _ _ (by omega)]
        · rw [s_tick_ne _ h3, s_takes_ne _ _ h3 h11, gu_ne _ _ (by omega)]
  · rfl
theorem s_polls_next (g : zG) {h nx gp : Nat} (hh : h < 32) (hx : nx < 32) (h3 : g (18 + 7 * h + 3) = n32 nx) : ∃ ny, ny < 32 ∧ s_polls g h nx gp (18 + 7 * h + 3) = n32 ny := by
  have ht := s_to_lt h nx gp
  unfold s_polls s_poll s_asked
  split
  · split
    · exact ⟨nx, hx, h3⟩
    · split
      · exact ⟨nx, hx, by rw [s_tick_ne _ (by omega), s_takes_ne _ _ (by omega) (by omega), gu_ne _ _ (by omega)]; exact h3⟩
      · split
        · split
          · exact ⟨nx, hx, by rw [s_tick_ne _ (by omega), s_takes_ne _ _ (by omega) (by omega), s_takes_ne _ _ (by omega) (by omega), gu_ne _ _ (by omega)]; exact h3⟩
          · exact ⟨_, ht, by unfold s_come; rw [gu_ne _ _ (by omega), gu_same]⟩
        · exact ⟨nx, hx, by rw [s_tick_ne _ (by omega), s_takes_ne _ _ (by omega) (by omega), gu_ne _ _ (by omega)]; exact h3⟩
  · exact ⟨nx, hx, h3⟩
