/-! WHAT HOLDS OF A LINE, behind a visit -/
theorem k_acc_congr {g g' f f' : zG} {n lo e : Nat} (h : k_acc g g' n lo e) (hg : ∀ j, (j = 1 ∨ j = 3 ∨ j = 6 ∨ j = 10 ∨ j = 11 ∨ j = 15) → f j = g j ∧ f' j = g' j) : k_acc f f' n lo e := by
  obtain ⟨d, l, x, a1, a2, a3, a4, a5, a6, a7, a8, a9, a10⟩ := h
  refine ⟨d, l, x, a1, a2, a3, a4, ?_, ?_, ?_, fun h6 => ?_, ?_, ?_⟩
  · rw [(hg 10 (by omega)).1, (hg 10 (by omega)).2]; exact a5
  · rw [(hg 15 (by omega)).1, (hg 15 (by omega)).2]; exact a6
  · rw [(hg 3 (by omega)).1, (hg 3 (by omega)).2]; exact a7
  · rw [(hg 11 (by omega)).1, (hg 11 (by omega)).2]; exact a8 (by rw [← (hg 6 (by omega)).1]; exact h6)
  · rw [(hg 6 (by omega)).1, (hg 6 (by omega)).2]; exact a9
  · rw [(hg 1 (by omega)).1, (hg 1 (by omega)).2]; exact a10
theorem k_len_of {g : zG} (h : s_mo g) : k_len g := fun m hm => by
  obtain ⟨⟨l, _, h2, h3⟩, _⟩ := h.2 m hm
  exact ⟨l, h2, h3⟩
theorem s_logged_7 (g : zG) (h k : Nat) {lg : Nat} (hlg : lg ≤ 40) : s_logged g h k lg 7 = n32 (min (lg + 1) 40) := by
  unfold s_logged s_log
  by_cases hc : lg = 40
  · rw [if_pos hc]
    unfold s_put; rw [gu_same]; congr 1; omega
  · rw [if_neg hc]
    unfold s_put; rw [gu_same]; congr 1; omega
/-- the log behind the messages -/
theorem k_vis_log {g : zG} (hN : s_num g) (hl : k_l g) {h : Nat} (hh : h < 32) (hb : s_nat g 3 ≤ 1900000000) {d : Nat} (hd : d ≤ 100) (es : s_mid g h 101 10 - g 10 = n32 d) :
    (∀ i, i < min (s_nat g 7 + 1) 40 → s_logged g h 101 (s_nat g 7) (782 + 4 * i + 2) ≤ s_mid g h 101 8 ∧ s_logged g h 101 (s_nat g 7) (782 + 4 * i + 3) ≤ n32 100 ∧ ∃ t, t < s_nat g 3 + 1 ∧ s_logged g h 101 (s_nat g 7) (782 + 4 * i + 0) = n32 t) ∧ ∀ i, i + 1 < min (s_nat g 7 + 1) 40 → s_nat (s_logged g h 101 (s_nat g 7)) (782 + 4 * i + 0) < s_nat (s_logged g h 101 (s_nat g 7)) (782 + 4 * (i + 1) + 0) := by
  obtain ⟨h5, h52, ⟨z, hz6, h6⟩, _, hmo, _, _, mv, hmv, h9, h7⟩ := hN
  have n7 : s_nat g 7 = min mv 40 := s_nat_n32 h7 (by omega)
  have t3 : g 3 = n32 (s_nat g 3) := hmo.1
  have ob := s_ok_begin (show s_ok g from ⟨⟨z, hz6, h6⟩, ⟨_, h5, h52⟩⟩) h
  have b8 : s_begin g h 8 = if s_rot g h ≤ g 8 then g 8 else s_rot g h := by unfold s_begin; rw [gu_same]
  have m8 : s_mid g h 101 8 = if s_rot g h ≤ g 8 then g 8 else s_rot g h := by
    unfold s_mid
    rw [s_all_ne _ _ _ _ _ (by decide) (by decide) (by decide) (by decide) (by decide) ob, b8]
  have r8 : g 8 ≤ s_mid g h 101 8 ∧ s_rot g h ≤ s_mid g h 101 8 := by
    rw [m8]
    by_cases hc : s_rot g h ≤ g 8
    · rw [if_pos hc]; exact ⟨by rw [Int32.le_iff_toInt_le]; exact Int.le_refl _, hc⟩
    · rw [if_neg hc]
      rw [Int32.le_iff_toInt_le] at hc ⊢
      rw [Int32.le_iff_toInt_le]
      omega
  have elog : s_log (s_mid g h 101) (s_nat g 7) (n32 (s_nat g 3)) (n32 h) (s_rot g h) (n32 d) = s_logged g h 101 (s_nat g 7) := by
    unfold s_logged; rw [es, ← t3]
  have mg : ∀ j, 782 ≤ j → s_mid g h 101 j = g j := fun j hj => by
    unfold s_mid
    rw [s_all_ne _ _ _ _ _ (by omega) (by omega) (by omega) (by omega) (Or.inr (by omega)) ob, s_begin_ne _ _ (by omega) (by omega) (by omega) (by omega)]
  have LG := k_l_log (g := g) (g' := s_mid g h 101) (k := s_nat g 7) (by omega) rfl hl (T := s_nat g 3) (t0 := s_nat g 3) (Nat.le_refl _) (Nat.le_refl _) (by omega) mg r8.1 (a := n32 h) (r := s_rot g h) (q := n32 d) r8.2 (by rw [n32_le (by omega) (by omega)]; exact hd)
  rw [elog] at LG
  exact LG
set_option maxHeartbeats 8000000 in
theorem k_vis {g : zG} (hN : s_num g) (hds : s_ds g) {s : Nat} (hs : s ≤ 20) (h1 : g 1 = n32 s) (hv : k_v g) (hS : k_s g) (ht : k_t g) (hl : k_l g) (hn : k_n g) {h : Nat} (hh : h < 32) (hr : s_ring g h = true) (hb : s_nat g 3 ≤ 1900000000) (hm9 : s_nat g 9 < 1900000000) : k_K (s_vis g h 101) ∧ (∃ y, y < 32 ∧ s_vis g h 101 4 = n32 y) ∧ s_nat g 3 ≤ s_nat (s_vis g h 101) 3 := by
  have hN' := hN
  obtain ⟨h5, h52, ⟨z, hz6, h6⟩, ⟨gg, hg1, hg2, h2⟩, hmo, _, hst, mv, hmv, h9, h7⟩ := hN'
  have n9 : s_nat g 9 = mv := s_nat_n32 h9 (by omega)
  have n7 : s_nat g 7 = min mv 40 := s_nat_n32 h7 (by omega)
  have rr : g (18 + 7 * h + 0) = n32 1 := by
    simp only [s_ring, Bool.and_eq_true, decide_eq_true_eq] at hr; exact hr.1.1
  have ob := s_ok_begin (show s_ok g from ⟨⟨z, hz6, h6⟩, ⟨_, h5, h52⟩⟩) h
  have bn : ∀ {j : Nat}, j ≠ 8 → j ≠ 9 → j ≠ 18 + 7 * h + 5 → j ≠ 18 + 7 * h + 6 → s_begin g h j = g j := fun a b c d => s_begin_ne _ _ a b c d
  have mid : ∀ {j : Nat}, j ≠ 3 → j ≠ 11 → j ≠ 10 → j ≠ 15 → (j < 242 ∨ 742 ≤ j) → s_mid g h 101 j = s_begin g h j := fun a b c d e => s_all_ne _ _ _ _ _ a b c d e ob
  have lgd : ∀ {j : Nat}, j ≠ 7 → j < 782 → s_logged g h 101 (s_nat g 7) j = s_mid g h 101 j := fun a b => by unfold s_logged; exact s_log_ne _ _ _ _ _ _ a b
  have st := hst h hh rr
  obtain ⟨nx, hnx, e3⟩ := st.2.2.2.1
  obtain ⟨gp, hgp, e4⟩ := st.2.2.2.2
  -- messages
  have klb : k_len (s_begin g h) := fun m hm => by
    rw [s_begin_n5] at hm
    obtain ⟨l, a, b⟩ := k_len_of hmo m hm
    exact ⟨l, a, by rw [bn (by omega) (by omega) (by omega) (by omega)]; exact b⟩
  have A0 : k_acc (s_begin g h) (s_mid g h 101) 102 0 20 := k_acc_all (n32 h) (g 3) (g 0 - s_rot g h) 101 klb (by rw [s_begin_n5]; exact h5)
  have A1 : k_acc g (s_mid g h 101) 102 0 20 := k_acc_congr A0 (fun j hj => ⟨(bn (by omega) (by omega) (by omega) (by omega)).symm, rfl⟩)
  have A1' : k_acc g (s_logged g h 101 (s_nat g 7)) 102 0 20 := k_acc_congr A1 (fun j hj => ⟨rfl, lgd (by omega) (by omega)⟩)
  have l3 : s_logged g h 101 (s_nat g 7) (18 + 7 * h + 3) = n32 nx := by
    rw [lgd (by omega) (by omega), mid (by omega) (by omega) (by omega) (by omega) (Or.inl (by omega)), bn (by omega) (by omega) (by omega) (by omega)]; exact e3
  have l4 : s_logged g h 101 (s_nat g 7) (18 + 7 * h + 4) = n32 gp := by
    rw [lgd (by omega) (by omega), mid (by omega) (by omega) (by omega) (by omega) (Or.inl (by omega)), bn (by omega) (by omega) (by omega) (by omega)]; exact e4
  have rl : s_ring (s_logged g h 101 (s_nat g 7)) h = true := by
    rw [s_ring_3 (g := g) (by rw [lgd (by omega) (by omega), mid (by omega) (by omega) (by omega) (by omega) (Or.inl (by omega)), bn (by omega) (by omega) (by omega) (by omega)]) (by rw [lgd (by omega) (by omega), mid (by omega) (by omega) (by omega) (by omega) (Or.inl (by omega)), bn (by omega) (by omega) (by omega) (by omega)]) (by rw [lgd (by omega) (by omega), mid (by omega) (by omega) (by omega) (by omega) (Or.inl (by omega)), bn (by omega) (by omega) (by omega) (by omega)])]
    exact hr
  have vn : ∀ {j : Nat}, j ≠ 3 → j ≠ 11 → j ≠ 4 → j ≠ 13 → j ≠ 14 → (j < 18 ∨ 242 ≤ j) → s_vis g h 101 j = s_logged g h 101 (s_nat g 7) j := fun a b c d e f => s_vis_ne _ hh hnx hgp l3 a b c d e f
  have evis : s_vis g h 101 = s_ps (s_pl (s_logged g h 101 (s_nat g 7)) h) h := rfl
  obtain ⟨ny, hny, ly⟩ := s_polls_next (gp := gp) (s_logged g h 101 (s_nat g 7)) hh hnx l3
  have epl : s_polls (s_logged g h 101 (s_nat g 7)) h nx gp = s_pl (s_logged g h 101 (s_nat g 7)) h := by unfold s_pl; rw [s_nat_n32 l3 (by omega), s_nat_n32 l4 (by omega)]
  have A2 := k_acc_polls hh nx gp hs (k_acc_1 A1' h1)
  have rp := s_polls_ring (nx := nx) (gp := gp) (s_logged g h 101 (s_nat g 7)) (h := h) rl
  have p56 := fun (x w : Nat) (hw : w = 0 ∨ w = 5 ∨ w = 6) => s_polls_56 (s_logged g h 101 (s_nat g 7)) (h := h) (nx := nx) (gp := gp) (x := x) hw
  rw [epl] at A2 ly rp p56
  have A12 := k_acc_t A1' A2
  have eps : s_passes (s_pl (s_logged g h 101 (s_nat g 7)) h) h ny = s_ps (s_pl (s_logged g h 101 (s_nat g 7)) h) h := by unfold s_ps; rw [s_nat_n32 ly (by omega)]
  have A3 := k_acc_passes hh hny hs (k_acc_1 A12 h1)
  have rq := s_passes_rg hh hny rp
  have q56 := fun (x w : Nat) (hw : w = 0 ∨ w = 5 ∨ w = 6) => s_passes_56 (s_pl (s_logged g h 101 (s_nat g 7)) h) (h := h) (nx := ny) (x := x) hw
  rw [eps, ← evis] at A3 rq q56
  have A := k_acc_t A12 A3
  -- the stations
  have sta : ∀ x w, x < 32 → (w = 0 ∨ w = 5 ∨ w = 6) → s_vis g h 101 (18 + 7 * x + w) = s_begin g h (18 + 7 * x + w) := fun x w hx hw => by
    rw [q56 x w hw, p56 x w hw, lgd (by omega) (by omega), mid (by omega) (by omega) (by omega) (by omega) (Or.inl (by omega))]
  have v9 : s_vis g h 101 9 = n32 (mv + 1) := by
    rw [vn (by decide) (by decide) (by decide) (by decide) (by decide) (by decide), lgd (by decide) (by decide), mid (by decide) (by decide) (by decide) (by decide) (by decide)]
    unfold s_begin
    rw [gu_ne _ _ (by omega), gu_same, h9, n32_add]
  have nv9 : s_nat (s_vis g h 101) 9 = mv + 1 := s_nat_n32 v9 (by omega)
  -- counts
  have ds := s_ds_vis hN hh rr hb hds
  have v5 : s_nat (s_vis g h 101) 5 = s_nat g 5 := by unfold s_nat; rw [s_vis_5 hN hh rr]
  unfold s_ds at ds
  rw [v5] at ds
  have cle := s_cnt_le (s_done (s_vis g h 101)) (s_nat g 5)
  have n10 : s_nat (s_vis g h 101) 10 ≤ 100 := by rw [s_nat_n32 ds (by omega)]; omega
  have e10 : s_vis g h 101 10 = n32 (s_nat (s_vis g h 101) 10) := by rw [s_nat_n32 ds (by omega)]; exact ds
  obtain ⟨⟨w0, w1, w2, w3⟩, c1, c2, l0, b1, b2, b3⟩ := ht
  have nw : s_nat g 15 = w0 := s_nat_n32 w1 (by omega)
  have t3 : g 3 = n32 (s_nat g 3) := hmo.1
  obtain ⟨d, l, x, a1, a2, a3, a4, a5, a6, a7, a8, a9, a10⟩ := A
  have E10 : s_nat (s_vis g h 101) 10 = s_nat g 10 + d := s_nat_n32 (by rw [a5]; conv => lhs; lhs; rw [c2]
                                                                        rw [n32_add]) (by omega)
  have E15 : s_vis g h 101 15 = n32 (w0 + l) := by rw [a6, w1, n32_add]
  have N15 : s_nat (s_vis g h 101) 15 = w0 + l := s_nat_n32 E15 (by omega)
  have E3 : s_vis g h 101 3 = n32 (s_nat g 3 + (l + x)) := by
    rw [a7]; conv => lhs; lhs; rw [t3]
    rw [n32_add]
  have N3 : s_nat (s_vis g h 101) 3 = s_nat g 3 + (l + x) := s_nat_n32 E3 (by omega)
  have E12 : s_vis g h 101 12 = n32 l0 := by
    rw [vn (by decide) (by decide) (by decide) (by decide) (by decide) (by decide), lgd (by decide) (by decide), mid (by decide) (by decide) (by decide) (by decide) (by decide), bn (by decide) (by decide) (by omega) (by omega)]; exact b1
  refine ⟨?_, by obtain ⟨y, hy, e, _⟩ := rq; exact ⟨y, hy, e⟩, by rw [N3]; omega⟩
  refine ⟨fun y hy hz => ?_, Or.inr rq, ?_, ⟨⟨w0 + l, E15, by omega, by omega⟩, n10, e10, l0, E12, b2, ?_⟩, ?_, fun h0 => ?_⟩
  · have e0 := sta y 0 hy (Or.inl rfl)
    rw [e0, bn (by omega) (by omega) (by omega) (by omega)] at hz
    rw [sta y 5 hy (by omega), sta y 6 hy (by omega), nv9, N3]
    obtain ⟨v, v1, v2, v3⟩ := hv y hy hz
    by_cases hyh : y = h
    · subst hyh
      refine ⟨v + 1, by omega, ?_, Or.inr ⟨by omega, s_nat g 3, by omega, ?_⟩⟩
      · unfold s_begin
        rw [gu_ne _ _ (by omega), gu_ne _ _ (by omega), gu_same, v2, n32_add]
      · unfold s_begin
        rw [gu_ne _ _ (by omega), gu_ne _ _ (by omega), gu_ne _ _ (by omega), gu_same]; exact t3
    · rw [bn (by omega) (by omega) (by omega) (by omega), bn (by omega) (by omega) (by omega) (by omega)]
      refine ⟨v, by omega, v2, ?_⟩
      rcases v3 with v3 | ⟨v3, t, v4, v5⟩
      · exact Or.inl v3
      · exact Or.inr ⟨v3, t, by omega, v5⟩
  · show k_S _ 32 = _
    rw [nv9, k_S_congr (g := s_begin g h) 32 (fun y hy => ⟨sta y 0 hy (Or.inl rfl), sta y 5 hy (by omega)⟩)]
    obtain ⟨v, v1, v2, v3⟩ := hv h hh rr
    have ea : s_nat (s_begin g h) (18 + 7 * h + 5) = s_nat g (18 + 7 * h + 5) + 1 := by
      rw [s_nat_n32 v2 (by omega)]
      refine s_nat_n32 ?_ (by omega)
      unfold s_begin
      rw [gu_ne _ _ (by omega), gu_ne _ _ (by omega), gu_same, v2, n32_add]
    have up := (k_S_up (g := g) (g' := s_begin g h) rr (fun y => bn (by omega) (by omega) (by omega) (by omega)) (fun y hy => bn (by omega) (by omega) (by omega) (by omega)) ea 32).2 hh
    rw [up, show k_S g 32 = s_nat g 9 from hS, n9]
  · rw [N3, N15, nv9]
    rw [nw, n9] at b3
    omega
  · -- the log
    obtain ⟨d', l', x', q1, q2, q3, q4, q5, q6, q7, q8, q9, q10⟩ := A1
    have m10 : s_mid g h 101 10 = s_vis g h 101 10 := by rw [vn (by decide) (by decide) (by decide) (by decide) (by decide) (by decide), lgd (by decide) (by decide)]
    have M10 : s_nat g 10 + d' = s_nat (s_vis g h 101) 10 := by
      have : s_vis g h 101 10 = n32 (s_nat g 10 + d') := by
        rw [← m10, q5]; conv => lhs; lhs; rw [c2]
        rw [n32_add]
      exact (s_nat_n32 this (by omega)).symm
    have es : s_mid g h 101 10 - g 10 = n32 d' := by rw [q5, Int32.add_comm, Int32.add_sub_cancel]
    have LG := k_vis_log hN hl hh hb (d := d') (by omega) es
    have g7 := s_logged_7 g h 101 (lg := s_nat g 7) (by omega)
    have V7 : s_nat (s_vis g h 101) 7 = min (s_nat g 7 + 1) 40 := s_nat_n32 (by rw [vn (by decide) (by decide) (by decide) (by decide) (by decide) (by decide)]; exact g7) (by omega)
    have V8 : s_vis g h 101 8 = s_mid g h 101 8 := by rw [vn (by decide) (by decide) (by decide) (by decide) (by decide) (by decide), lgd (by decide) (by decide)]
    refine ⟨fun i hi => ?_, fun i hi => ?_⟩
    · rw [V7] at hi
      obtain ⟨y1, y2, t, y3, y4⟩ := LG.1 i hi
      rw [vn (j := 782 + 4 * i + 2) (by omega) (by omega) (by omega) (by omega) (by omega) (by omega), vn (j := 782 + 4 * i + 3) (by omega) (by omega) (by omega) (by omega) (by omega) (by omega), vn (j := 782 + 4 * i + 0) (by omega) (by omega) (by omega) (by omega) (by omega) (by omega), V8]
      exact ⟨y1, y2, t, by omega, y4⟩
    · rw [V7] at hi
      have := LG.2 i hi
      unfold s_nat at this ⊢
      rw [vn (by omega) (by omega) (by omega) (by omega) (by omega) (by omega), vn (by omega) (by omega) (by omega) (by omega) (by omega) (by omega)]
      exact this
  · rw [a9] at h0
    rw [a8 h0]; exact hn h0
/-- the token is made anew -/
theorem k_tok {g : zG} (hN : s_num g) {s : Nat} (hs : s ≤ 20) (h1 : g 1 = n32 s) (hK : k_K g) {x : Nat} (hx : x < 32) (hon : s_isOn g x = true) (hb : s_nat g 3 ≤ 1900000000) : k_v (s_tok g x) ∧ k_s (s_tok g x) ∧ (s_nat g 12 < 100000 → k_t (s_tok g x)) ∧ k_l (s_tok g x) ∧ k_n (s_tok g x) ∧ s_ring (s_tok g x) x = true ∧ s_tok g x 12 = g 12 + n32 1 ∧ s_nat g 3 ≤ s_nat (s_tok g x) 3 := by
  obtain ⟨kv, kh, ks, ⟨⟨w0, w1, w2, w3⟩, c1, c2, l0, b1, b2, b3⟩, kl, kn⟩ := hK
  have t3 : g 3 = n32 (s_nat g 3) := hN.2.2.2.2.1.1
  have tn : ∀ {j : Nat}, j ≠ 3 → j ≠ 4 → j ≠ 12 → j ≠ 18 + 7 * x + 2 → j ≠ 18 + 7 * x + 3 → s_tok g x j = g j := fun a b c d e => s_tok_ne g a b c d e
  have hm : s * (6 + 2 * x) ≤ 1360 := by
    have := Nat.mul_le_mul hs (show 6 + 2 * x ≤ 68 by omega)
    omega
  have T3 : s_tok g x 3 = n32 (s_nat g 3 + s * (6 + 2 * x)) := by
    rw [s_tok_3 g hx, h1, n32_mul]; conv => lhs; lhs; rw [t3]
    rw [n32_add]
  have N3 : s_nat (s_tok g x) 3 = s_nat g 3 + s * (6 + 2 * x) := s_nat_n32 T3 (by omega)
  have E9 : s_nat (s_tok g x) 9 = s_nat g 9 := by unfold s_nat; rw [tn (by omega) (by omega) (by omega) (by omega) (by omega)]
  have E10 : s_tok g x 10 = g 10 := tn (by omega) (by omega) (by omega) (by omega) (by omega)
  have E15 : s_tok g x 15 = g 15 := tn (by omega) (by omega) (by omega) (by omega) (by omega)
  have N10 : s_nat (s_tok g x) 10 = s_nat g 10 := by unfold s_nat; rw [E10]
  have N15 : s_nat (s_tok g x) 15 = s_nat g 15 := by unfold s_nat; rw [E15]
  have E12 : s_tok g x 12 = g 12 + n32 1 := by unfold s_tok; exact gu_same _ _ _
  simp only [s_isOn, Bool.and_eq_true, decide_eq_true_eq] at hon
  refine ⟨fun y hy hz => ?_, ?_, fun hl => ⟨⟨w0, by rw [E15]; exact w1, by omega, by omega⟩, by omega, by rw [E10, N10]; exact c2, l0 + 1, by rw [E12, b1, n32_add], ?_, ?_⟩, ?_, fun h0 => ?_, ?_, E12, by rw [N3]; omega⟩
  · rw [tn (by omega) (by omega) (by omega) (by omega) (by omega)] at hz
    obtain ⟨v, v1, v2, v3⟩ := kv y hy hz
    rw [tn (by omega) (by omega) (by omega) (by omega) (by omega), tn (by omega) (by omega) (by omega) (by omega) (by omega), E9, N3]
    refine ⟨v, v1, v2, ?_⟩
    rcases v3 with v3 | ⟨v3, t, v4, v5⟩
    · exact Or.inl v3
    · exact Or.inr ⟨v3, t, by omega, v5⟩
  · show k_S _ 32 = _
    rw [E9, k_S_congr (g := g) 32 (fun y hy => ⟨tn (by omega) (by omega) (by omega) (by omega) (by omega), tn (by omega) (by omega) (by omega) (by omega) (by omega)⟩)]
    exact ks
  · have : s_nat g 12 = l0 := s_nat_n32 b1 (by omega)
    omega
  · rw [N3, N15, E9]; omega
  · exact k_l_congr (tn (by omega) (by omega) (by omega) (by omega) (by omega)) (tn (by omega) (by omega) (by omega) (by omega) (by omega)) (by omega) (fun j hj => tn (by omega) (by omega) (by omega) (by omega) (by omega)) kl
  · rw [tn (by omega) (by omega) (by omega) (by omega) (by omega)] at h0 ⊢
    exact kn h0
  · have q : ∀ j, j ≠ 4 → j ≠ 12 → s_tok g x j = (if s_ring g x = true then gu g 3 (g 3 + g 1 * n32 (6 + 2 * x)) else gu (gu (gu g 3 (g 3 + g 1 * n32 (6 + 2 * x))) (18 + 7 * x + 2) (n32 1)) (18 + 7 * x + 3) (n32 x)) j := fun j a b => by
      unfold s_tok
      show gu (gu _ 4 _) 12 _ j = _
      rw [gu_ne _ _ b, gu_ne _ _ a]
    by_cases hc : s_ring g x = true
    · rw [s_ring_3 (g := g) (by rw [q _ (by omega) (by omega), if_pos hc, gu_ne _ _ (by omega)]) (by rw [q _ (by omega) (by omega), if_pos hc, gu_ne _ _ (by omega)]) (by rw [q _ (by omega) (by omega), if_pos hc, gu_ne _ _ (by omega)])]
      exact hc
    · simp only [s_ring, Bool.and_eq_true, decide_eq_true_eq]
      refine ⟨⟨?_, ?_⟩, ?_⟩
      · rw [tn (by omega) (by omega) (by omega) (by omega) (by omega)]; exact hon.1
      · rw [tn (by omega) (by omega) (by omega) (by omega) (by omega)]; exact hon.2
      · rw [q _ (by omega) (by omega), if_neg hc, gu_ne _ _ (by omega), gu_same]
/-- how many tokens have been made, or will be at once -/
def k_P (g : zG) : Nat := s_nat g 12 + (if g 4 = nn then 1 else 0)
theorem k_visits {g : zG} {B V : Nat} (hI : s_I g B V) (hB : B ≤ 1800000000) (hV : V < 1800000000) (hK : k_K g) (hP : k_P g ≤ 100000) : k_K (s_visits g) ∧ k_P (s_visits g) ≤ k_P g ∧ s_nat g 3 ≤ s_nat (s_visits g) 3 := by
  have hN := s_I_num hI
  have hds : s_ds g := hI.2.2.1
  obtain ⟨s, hs, h1⟩ := s_I_1 hI
  have b3 := hI.1.2.2.2.1
  have b9 := hI.1.2.2.2.2
  have e12 : ∀ (f : zG) (h : Nat), s_num f → h < 32 → f (18 + 7 * h + 0) = n32 1 → s_vis f h 101 12 = f 12 := by
    intro f h hN hh hz
    obtain ⟨h5, h52, ⟨z, hz6, h6⟩, _, _, _, hst, _⟩ := hN
    have ob := s_ok_begin (show s_ok f from ⟨⟨z, hz6, h6⟩, ⟨_, h5, h52⟩⟩) h
    have st := hst h hh hz
    obtain ⟨nx, hnx, e3⟩ := st.2.2.2.1
    obtain ⟨gp, hgp, e4⟩ := st.2.2.2.2
    have l3 : s_logged f h 101 (s_nat f 7) (18 + 7 * h + 3) = n32 nx := by
      unfold s_logged
      rw [s_log_ne _ _ _ _ _ _ (by omega) (by omega)]
      unfold s_mid
      rw [s_all_ne _ _ _ _ _ (by omega) (by omega) (by omega) (by omega) (Or.inl (by omega)) ob, s_begin_ne _ _ (by omega) (by omega) (by omega) (by omega)]
      exact e3
    rw [s_vis_ne _ hh hnx hgp l3 (by omega) (by omega) (by omega) (by omega) (by omega) (by omega)]
    unfold s_logged
    rw [s_log_ne _ _ _ _ _ _ (by omega) (by omega)]
    unfold s_mid
    rw [s_all_ne _ _ _ _ _ (by omega) (by omega) (by omega) (by omega) (Or.inl (by omega)) ob, s_begin_ne _ _ (by omega) (by omega) (by omega) (by omega)]
  have hol4 : ∀ f : zG, k_K f → (∃ x, x < 32 ∧ f 4 = n32 x) → k_P f = s_nat f 12 := by
    intro f _ hx
    obtain ⟨x, hx, e⟩ := hx
    unfold k_P
    rw [if_neg (by rw [e, n32_ne (by omega)]; exact not_false), Nat.add_zero]
  unfold s_visits
  by_cases h4 : g 4 = nn
  · rw [if_pos h4]
    rcases s_h2_on g with e | ⟨x, hx, e, hon⟩
    · rw [if_pos e]; exact ⟨hK, Nat.le_refl _, Nat.le_refl _⟩
    · have nh : ¬ s_h2 g = nn := by rw [e, n32_ne (by omega)]; exact not_false
      rw [if_neg nh, e, n32_toNat (by omega)]
      have on2 := hon
      simp only [s_isOn, Bool.and_eq_true, decide_eq_true_eq] at on2
      have T := s_tok_inv hN hs h1 hx on2.2 (by omega)
      have tn : ∀ {j : Nat}, j ≠ 3 → j ≠ 4 → j ≠ 12 → j ≠ 18 + 7 * x + 2 → j ≠ 18 + 7 * x + 3 → s_tok g x j = g j := fun a b c d e => s_tok_ne g a b c d e
      have tz : s_tok g x (18 + 7 * x + 0) = n32 1 := by rw [tn (by omega) (by omega) (by omega) (by omega) (by omega)]; exact on2.1
      have pg : k_P g = s_nat g 12 + 1 := by unfold k_P; rw [if_pos h4]
      obtain ⟨k1, k2, k3, k4, k5, k6, k7, k8⟩ := k_tok hN hs h1 hK hx hon (by omega)
      have ds' : s_ds (s_tok g x) := s_ds_congr (tn (by omega) (by omega) (by omega) (by omega) (by omega)) (tn (by omega) (by omega) (by omega) (by omega) (by omega)) (fun m hm => tn (by omega) (by omega) (by omega) (by omega) (by omega)) hds
      have n9 : s_nat (s_tok g x) 9 = s_nat g 9 := by unfold s_nat; rw [tn (by omega) (by omega) (by omega) (by omega) (by omega)]
      have K := k_vis T.1 ds' hs (by rw [tn (by omega) (by omega) (by omega) (by omega) (by omega)]; exact h1) k1 k2 (k3 (by omega)) k4 k5 hx k6 (by have := T.2; omega) (by omega)
      refine ⟨K.1, ?_, Nat.le_trans k8 K.2.2⟩
      rw [hol4 _ K.1 K.2.1, pg]
      have e := e12 _ x T.1 hx tz
      obtain ⟨_, _, _, l0, b1, b2, _⟩ := hK.2.2.2.1
      have n12 : s_nat g 12 = l0 := s_nat_n32 b1 (by omega)
      have : s_nat (s_vis (s_tok g x) x 101) 12 = l0 + 1 := s_nat_n32 (by rw [e, k7, b1, n32_add]) (by omega)
      omega
  · rw [if_neg h4]
    rcases hK.2.1 with e | ⟨x, hx, e, hr⟩
    · exact absurd e h4
    · have rr : g (18 + 7 * x + 0) = n32 1 := by
        simp only [s_ring, Bool.and_eq_true, decide_eq_true_eq] at hr; exact hr.1.1
      rw [s_nat_n32 e (by omega)]
      have K := k_vis hN hds hs h1 hK.1 hK.2.2.1 hK.2.2.2.1 hK.2.2.2.2.1 hK.2.2.2.2.2 hx hr (by omega) (by omega)
      refine ⟨K.1, ?_, K.2.2⟩
      rw [hol4 _ hK ⟨x, hx, e⟩, hol4 _ K.1 K.2.1]
      unfold s_nat
      rw [e12 _ x hN hx rr]
      exact Nat.le_refl _
