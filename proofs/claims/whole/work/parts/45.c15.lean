/-! WHAT STAYS BEHIND A VISIT -/
/-- the time goes on by so much at most, and the rest that a visit asks of stays -/
def s_adv (g g' : zG) (d : Nat) : Prop := (∃ e, e ≤ d ∧ g' 3 = n32 (s_nat g 3 + e)) ∧ (∀ j, j < 3 → g' j = g j) ∧ (∀ j, 5 ≤ j → j < 11 → g' j = g j) ∧ (∀ j, 242 ≤ j → g' j = g j) ∧ ∀ x, x < 32 → g' (18 + 7 * x + 0) = g (18 + 7 * x + 0)
theorem s_adv_t {g g' g'' : zG} {d d' : Nat} (h : s_adv g g' d) (hb : s_nat g 3 + d < 2147483648) (h2 : s_adv g' g'' d') : s_adv g g'' (d + d') := by
  obtain ⟨⟨e, he, h3⟩, a1, a2, a3, a4⟩ := h
  obtain ⟨⟨e', he', h3'⟩, b1, b2, b3, b4⟩ := h2
  have : s_nat g' 3 = s_nat g 3 + e := s_nat_n32 h3 (by omega)
  refine ⟨⟨e + e', by omega, by rw [h3', this]; congr 1; omega⟩, fun j hj => by rw [b1 j hj, a1 j hj], fun j h1 h2 => by rw [b2 j h1 h2, a2 j h1 h2], fun j h1 => by rw [b3 j h1, a3 j h1], fun x hx => by rw [b4 x hx, a4 x hx]⟩
theorem s_adv_w {g g' : zG} {d d' : Nat} (h : s_adv g g' d) (hd : d ≤ d') : s_adv g g' d' := by
  obtain ⟨⟨e, he, h3⟩, r⟩ := h
  exact ⟨⟨e, by omega, h3⟩, r⟩
theorem s_adv_r {g : zG} (h : g 3 = n32 (s_nat g 3)) : s_adv g g 0 := ⟨⟨0, Nat.le_refl _, h⟩, fun _ _ => rfl, fun _ _ _ => rfl, fun _ _ => rfl, fun _ _ => rfl⟩
theorem s_adv_3 {g g' : zG} {d : Nat} (h : s_adv g g' d) (hb : s_nat g 3 + d < 2147483648) : g' 3 = n32 (s_nat g' 3) ∧ s_nat g' 3 ≤ s_nat g 3 + d := by
  obtain ⟨⟨e, he, h3⟩, _⟩ := h
  have : s_nat g' 3 = s_nat g 3 + e := s_nat_n32 h3 (by omega)
  exact ⟨by rw [this]; exact h3, by omega⟩
/-- a number is put where nothing is asked -/
theorem s_adv_gu {g : zG} (h : g 3 = n32 (s_nat g 3)) {k : Nat} (v : Int32) (hk : k = 4 ∨ (11 ≤ k ∧ k < 18) ∨ ∃ x w, x < 32 ∧ 1 ≤ w ∧ w < 7 ∧ k = 18 + 7 * x + w) : s_adv g (gu g k v) 0 := by
  have h3 : gu g k v 3 = g 3 := gu_ne _ _ (by rcases hk with hk | hk | ⟨x, w, h1, h2, h3, hk⟩ <;> omega)
  refine ⟨⟨0, Nat.le_refl _, by rw [h3]; exact h⟩, fun j hj => gu_ne _ _ ?_, fun j h1 h2 => gu_ne _ _ ?_, fun j h1 => gu_ne _ _ ?_, fun y hy => gu_ne _ _ ?_⟩
  all_goals rcases hk with hk | hk | ⟨x, w, h1, h2, h3, hk⟩ <;> omega
theorem s_adv_takes {g : zG} (h : g 3 = n32 (s_nat g 3)) : s_adv g (s_takes g (n32 1)) 1 := by
  refine ⟨⟨1, Nat.le_refl _, ?_⟩, fun j hj => s_takes_ne _ _ (by omega) (by omega), fun j h1 h2 => s_takes_ne _ _ (by omega) (by omega), fun j h1 => s_takes_ne _ _ (by omega) (by omega), fun y hy => s_takes_ne _ _ (by omega) (by omega)⟩
  rw [s_takes_3]
  conv => lhs; lhs; rw [h]
  rw [n32_add]
theorem s_adv_tick {g : zG} (h : g 3 = n32 (s_nat g 3)) {s : Nat} (hs : s ≤ 20) (h1 : g 1 = n32 s) : s_adv g (s_tick g) 20 := by
  refine ⟨⟨s, hs, ?_⟩, fun j hj => s_tick_ne _ (by omega), fun j h1 h2 => s_tick_ne _ (by omega), fun j h1 => s_tick_ne _ (by omega), fun y hy => s_tick_ne _ (by omega)⟩
  unfold s_tick
  rw [gu_same, h1]
  conv => lhs; lhs; rw [h]
  rw [n32_add]
section ADV
variable {g : zG} {s : Nat}
theorem s_adv_come {h to : Nat} (hh : h < 32) (ht : to < 32) (h3 : g 3 = n32 (s_nat g 3)) : s_adv g (s_come g h to) 0 := by
  unfold s_come
  have e : s_come g h to 3 = g 3 := s_come_ne _ _ _ (by decide) (by omega) hh ht
  refine ⟨⟨0, Nat.le_refl _, by unfold s_come at e; rw [e]; exact h3⟩, fun j hj => ?_, fun j h1 h2 => ?_, fun j h1 => ?_, fun y hy => ?_⟩
  · exact s_come_ne _ _ _ (by omega) (by omega) hh ht
  · exact s_come_ne _ _ _ (by omega) (by omega) hh ht
  · exact s_come_ne _ _ _ (by omega) (by omega) hh ht
  · rw [gu_ne _ _ (by omega), gu_ne _ _ (by omega), gu_ne _ _ (by omega), gu_ne _ _ (by omega), gu_ne _ _ (by omega)]
theorem s_adv_ci {h to : Nat} (hh : h < 32) (ht : to < 32) (h3 : g 3 = n32 (s_nat g 3)) (hb : s_nat g 3 ≤ 2100000000) : s_adv g (s_ci g h to).2 2 := by
  have T := s_adv_takes h3
  have t3 := s_adv_3 T (by omega)
  have T2 := s_adv_takes t3.1
  have t4 := s_adv_3 T2 (by omega)
  unfold s_ci
  split
  · exact s_adv_w T (by omega)
  · split
    · split
      · exact s_adv_t T (by omega) T2
      · exact s_adv_t (d' := 0) (s_adv_t T (by omega) T2) (by omega) (s_adv_come hh ht t4.1)
    · exact s_adv_w T (by omega)
theorem s_adv_poll {h to : Nat} (hh : h < 32) (ht : to < 32) (h3 : g 3 = n32 (s_nat g 3)) (hb : s_nat g 3 ≤ 2100000000) (hs : s ≤ 20) (h1 : g 1 = n32 s) : s_adv g (s_poll g h to) 22 := by
  have G := s_adv_gu h3 (k := 18 + 7 * h + 4) (n32 to) (Or.inr (Or.inr ⟨h, 4, hh, by omega, by omega, rfl⟩))
  have g3 := s_adv_3 G (by omega)
  have C := s_adv_ci (h := h) (to := to) hh ht g3.1 (by omega)
  have c3 := s_adv_3 C (by omega)
  have D := s_adv_t G (by omega) C
  rw [s_poll_ci]
  split
  · exact s_adv_w D (by omega)
  · exact s_adv_t D (by omega) (s_adv_tick c3.1 hs (by rw [D.2.1 1 (by decide)]; exact h1))
theorem s_adv_polls {h nx gp : Nat} (hh : h < 32) (h3 : g 3 = n32 (s_nat g 3)) (hb : s_nat g 3 ≤ 2100000000) (hs : s ≤ 20) (h1 : g 1 = n32 s) : s_adv g (s_polls g h nx gp) 22 := by
  unfold s_polls
  split
  · split
    · exact s_adv_w (s_adv_r h3) (by omega)
    · exact s_adv_poll hh (s_to_lt _ _ _) h3 hb hs h1
  · exact s_adv_w (s_adv_r h3) (by omega)
theorem s_adv_tries (nx : Nat) (hs : s ≤ 20) : ∀ (k : Nat) (g : zG), g 3 = n32 (s_nat g 3) → s_nat g 3 + 21 * k ≤ 2100000000 → g 1 = n32 s → s_adv g (s_tries nx k g).2 (21 * k) := by
  intro k
  induction k with
  | zero => intro g h3 _ _; exact s_adv_r h3
  | succ k ih =>
    intro g h3 hb h1
    have T := s_adv_takes h3
    have t3 := s_adv_3 T (by omega)
    rw [s_tries]
    split
    · exact s_adv_w (s_adv_t (d' := 0) T (by omega) (s_adv_gu t3.1 _ (Or.inl rfl))) (by omega)
    · have K := s_adv_t T (by omega) (s_adv_tick t3.1 hs (by rw [T.2.1 1 (by decide)]; exact h1))
      have k3 := s_adv_3 K (by omega)
      exact s_adv_w (s_adv_t K (by omega) (ih _ k3.1 (by omega) (by rw [K.2.1 1 (by decide)]; exact h1))) (by omega)
theorem s_adv_ask (h : Nat) (hs : s ≤ 20) : ∀ (k : Nat) (g : zG) (to : Nat), g 3 = n32 (s_nat g 3) → s_nat g 3 + 21 * k ≤ 2100000000 → g 1 = n32 s → s_adv g (s_ask h k g to).1 (21 * k) := by
  intro k
  induction k with
  | zero => intro g to h3 _ _; exact s_adv_r h3
  | succ k ih =>
    intro g to h3 hb h1
    have T := s_adv_takes h3
    have t3 := s_adv_3 T (by omega)
    rw [s_ask]
    split
    · exact s_adv_w (s_adv_r h3) (by omega)
    · split
      · exact s_adv_w T (by omega)
      · have K := s_adv_t T (by omega) (s_adv_tick t3.1 hs (by rw [T.2.1 1 (by decide)]; exact h1))
        have k3 := s_adv_3 K (by omega)
        exact s_adv_w (s_adv_t K (by omega) (ih _ _ k3.1 (by omega) (by rw [K.2.1 1 (by decide)]; exact h1))) (by omega)
theorem s_ask_lt (h : Nat) (hh : h < 32) : ∀ (k : Nat) (g : zG) (to : Nat), to < 32 → (h + 32 - to) % 32 ≤ k → (s_ask h k g to).2 < 32 ∧ ((s_ask h k g to).2 = h ∨ s_ring (s_ask h k g to).1 (s_ask h k g to).2 = true) := by
  intro k
  induction k with
  | zero =>
    intro g to ht hd
    refine ⟨ht, Or.inl ?_⟩
    show to = h
    omega
  | succ k ih =>
    intro g to ht hd
    rw [s_ask]
    split
    · rename_i he; exact ⟨ht, Or.inl he⟩
    · split
      · rename_i hc; exact ⟨ht, Or.inr hc.2⟩
      · exact ih _ _ (Nat.mod_lt _ (by decide)) (by omega)
theorem s_adv_passes {h nx : Nat} (hh : h < 32) (hx : nx < 32) (h3 : g 3 = n32 (s_nat g 3)) (hb : s_nat g 3 ≤ 2000100000) (hs : s ≤ 20) (h1 : g 1 = n32 s) : s_adv g (s_passes g h nx) 735 := by
  have A := s_adv_tries nx hs 3 g h3 (by omega) h1
  have a3 := s_adv_3 A (by omega)
  unfold s_passes
  split
  · exact s_adv_w A (by omega)
  · have D : s_adv (s_tries nx 3 g).2 (s_drop (s_tries nx 3 g).2 h nx) 0 := by
      unfold s_drop
      split
      · have e := s_adv_gu a3.1 (k := 18 + 7 * nx + 2) (n32 0) (Or.inr (Or.inr ⟨nx, 2, hx, by omega, by omega, rfl⟩))
        have e3 := s_adv_3 e (by omega)
        exact s_adv_t (d' := 0) e (by omega) (s_adv_gu e3.1 _ (Or.inr (Or.inl (by omega))))
      · exact s_adv_r a3.1
    have AD := s_adv_t A (by omega) D
    have d3 := s_adv_3 AD (by omega)
    have E := s_adv_ask h hs 32 (s_drop (s_tries nx 3 g).2 h nx) ((nx + 1) % 32) d3.1 (by omega) (by rw [AD.2.1 1 (by decide)]; exact h1)
    have ADE := s_adv_t AD (by omega) E
    have e3 := s_adv_3 ADE (by omega)
    unfold s_end
    have F := s_adv_gu e3.1 (k := 18 + 7 * h + 3) (n32 (s_ask h 32 (s_drop (s_tries nx 3 g).2 h nx) ((nx + 1) % 32)).2) (Or.inr (Or.inr ⟨h, 3, hh, by omega, by omega, rfl⟩))
    have f3 := s_adv_3 F (by omega)
    exact s_adv_w (s_adv_t ADE (by omega) (s_adv_t (d' := 0) F (by omega) (s_adv_gu f3.1 _ (Or.inl rfl)))) (by omega)
/-- who has the token behind a visit -/
def s_hol (g : zG) : Prop := g 4 = nn ∨ ∃ x, x < 32 ∧ g 4 = n32 x ∧ g (18 + 7 * x + 0) = n32 1
theorem s_tries_hol {nx : Nat} (hx : nx < 32) : ∀ (k : Nat) (g : zG), (s_tries nx k g).1 = true → (s_tries nx k g).2 4 = n32 nx ∧ (s_tries nx k g).2 (18 + 7 * nx + 0) = n32 1 := by
  intro k
  induction k with
  | zero => intro g h; cases h
  | succ k ih =>
    intro g
    rw [s_tries]
    split
    · rename_i hc
      intro _
      refine ⟨gu_same (s_takes g (n32 1)) 4 (n32 nx), ?_⟩
      show gu (s_takes g (n32 1)) 4 (n32 nx) (18 + 7 * nx + 0) = _
      rw [gu_ne _ _ (by omega)]
      have := hc.2
      simp only [s_ring, Bool.and_eq_true, decide_eq_true_eq] at this
      exact this.1.1
    · exact ih _
theorem s_passes_hol {h nx : Nat} (hh : h < 32) (hx : nx < 32) (hz : g (18 + 7 * h + 0) = n32 1) (h3 : g 3 = n32 (s_nat g 3)) (hb : s_nat g 3 ≤ 2000100000) (hs : s ≤ 20) (h1 : g 1 = n32 s) : s_hol (s_passes g h nx) := by
  have AP := s_adv_passes hh hx h3 hb hs h1
  right
  unfold s_passes at AP ⊢
  split
  · rename_i ht
    exact ⟨nx, hx, s_tries_hol hx 3 g ht⟩
  · rename_i ht
    rw [if_neg ht] at AP
    have hm := Nat.mod_lt (nx + 1) (show 32 > 0 by decide)
    obtain ⟨l1, l2⟩ := s_ask_lt h hh 32 (s_drop (s_tries nx 3 g).2 h nx) ((nx + 1) % 32) hm (by omega)
    refine ⟨_, l1, by unfold s_end; rw [gu_same], ?_⟩
    rcases l2 with l2 | l2
    · rw [l2] at AP ⊢
      rw [AP.2.2.2.2 h hh]; exact hz
    · simp only [s_ring, Bool.and_eq_true, decide_eq_true_eq] at l2
      unfold s_end
      rw [gu_ne _ _ (by omega), gu_ne _ _ (by omega)]
      exact l2.1.1
theorem s_sta_tries (nx : Nat) : ∀ (k : Nat) (g : zG), s_sta g → s_sta (s_tries nx k g).2 := by
  intro k
  induction k with
  | zero => intro g h; exact h
  | succ k ih =>
    intro g h
    rw [s_tries]
    split
    · exact s_sta_gu4 (s_sta_takes _ h)
    · exact ih _ (s_sta_tick (s_sta_takes _ h))
theorem s_sta_ask (h : Nat) : ∀ (k : Nat) (g : zG) (to : Nat), s_sta g → s_sta (s_ask h k g to).1 := by
  intro k
  induction k with
  | zero => intro g to H; exact H
  | succ k ih =>
    intro g to H
    rw [s_ask]
    split
    · exact H
    · split
      · exact s_sta_takes _ H
      · exact ih _ _ (s_sta_tick (s_sta_takes _ H))
theorem s_sta_end {h to : Nat} (H : s_sta g) (ht : to < 32) : s_sta (s_end g h to) := by
  unfold s_end
  refine s_sta_gu4 ?_
  intro y hy h0
  rw [gu_ne _ _ (by omega)] at h0
  have := H y hy h0
  by_cases hyh : y = h
  · subst hyh
    simp (disch := omega) only [gu_ne, gu_same]
    exact ⟨this.1, this.2.1, this.2.2.1, ⟨to, ht, rfl⟩, this.2.2.2.2⟩
  · simp (disch := omega) only [gu_ne]
    exact this
theorem s_sta_passes {h nx : Nat} (H : s_sta g) (hh : h < 32) (hx : nx < 32) : s_sta (s_passes g h nx) := by
  unfold s_passes
  split
  · exact s_sta_tries _ _ _ H
  · have hm := Nat.mod_lt (nx + 1) (show 32 > 0 by decide)
    exact s_sta_end (s_sta_ask _ _ _ _ (s_sta_drop (s_sta_tries _ _ _ H) hx)) (s_ask_lt h hh 32 _ _ hm (by omega)).1
theorem s_sta_polls {h nx gp : Nat} (H : s_sta g) (hh : h < 32) (hz : g (18 + 7 * h + 0) = n32 1) : s_sta (s_polls g h nx gp) := by
  unfold s_polls
  split
  · split
    · exact H
    · exact s_sta_poll H hh (s_to_lt _ _ _) hz
  · exact H
end ADV
