theorem s_sta_gap {g : zG} {h to : Nat} (H : s_sta g) (ht : to < 32) : s_sta (gu g (18 + 7 * h + 4) (n32 to)) := by
  intro y hy h0
  rw [gu_ne _ _ (by omega)] at h0
  have := H y hy h0
  by_cases hyh : y = h
  · subst hyh
    simp (disch := omega) only [gu_ne, gu_same]
    exact ⟨this.1, this.2.1, this.2.2.1, this.2.2.2.1, to, ht, rfl⟩
  · simp (disch := omega) only [gu_ne]
    exact this
theorem s_sta_come {g : zG} {h to nx : Nat} (H : s_sta g) (hh : h < 32) (ht : to < 32) (hx : nx < 32) (h3 : g (18 + 7 * h + 3) = n32 nx) (hf : s_free g to = true) : s_sta (s_come g h to) := by
  simp only [s_free, Bool.and_eq_true, decide_eq_true_eq] at hf
  intro y hy h0
  unfold s_come at h0 ⊢
  have e0 : g (18 + 7 * y + 0) = n32 1 := by
    rw [gu_ne _ _ (by omega), gu_ne _ _ (by omega), gu_ne _ _ (by omega), gu_ne _ _ (by omega), gu_ne _ _ (by omega)] at h0; exact h0
  have := H y hy e0
  by_cases hyt : y = to
  · subst hyt
    by_cases hyh : y = h
    · subst hyh
      simp (disch := omega) only [gu_ne, gu_same]
      exact ⟨this.1, Or.inr trivial, fun _ => hf.1.2, ⟨y, hy, rfl⟩, y, hy, rfl⟩
    · simp (disch := omega) only [gu_ne, gu_same, h3]
      exact ⟨this.1, Or.inr trivial, fun _ => hf.1.2, ⟨nx, hx, rfl⟩, y, hy, rfl⟩
  · by_cases hyh : y = h
    · subst hyh
      simp (disch := omega) only [gu_ne, gu_same]
      exact ⟨this.1, this.2.1, this.2.2.1, ⟨to, ht, rfl⟩, this.2.2.2.2⟩
    · simp (disch := omega) only [gu_ne]
      exact this
theorem s_sta_ci {g : zG} {h to : Nat} (H : s_sta g) (hh : h < 32) (ht : to < 32) (hz : g (18 + 7 * h + 0) = n32 1) : s_sta (s_ci g h to).2 := by
  obtain ⟨nx, hx, h3⟩ := (H h hh hz).2.2.2.1
  unfold s_ci
  split
  · exact s_sta_takes _ H
  · split
    · split
      · exact s_sta_takes _ (s_sta_takes _ H)
      · rename_i hf hl
        refine s_sta_come (s_sta_takes _ (s_sta_takes _ H)) hh ht hx (by rw [s_takes_ne _ _ (by omega) (by omega), s_takes_ne _ _ (by omega) (by omega)]; exact h3) ?_
        unfold s_free at hf ⊢
        simp (disch := omega) only [s_takes_ne] at hf ⊢
        exact hf
    · exact s_sta_takes _ H
theorem s_sta_poll {g : zG} {h to : Nat} (H : s_sta g) (hh : h < 32) (ht : to < 32) (hz : g (18 + 7 * h + 0) = n32 1) : s_sta (s_poll g h to) := by
  have A := s_sta_ci (h := h) (to := to) (s_sta_gap (h := h) H ht) hh ht (by rw [gu_ne _ _ (by omega)]; exact hz)
  rw [s_poll_ci]
  split
  · exact A
  · exact s_sta_tick A
section CLASS
variable {σ : zSt} {a n : Nat} {pl ad : Nat → Nat} {qu : Nat → Nat → Nat} {g : zG}
theorem c_poll97 (h : zCs σ a pl ad qu n g) {i to : Nat} (hi : i < n) (ht : to < 32) :
    ∃ σ', f_X8_pollGap_97 σ a (pl i) (n32 to) (some (pl i)) = some σ' ∧ zAn σ σ' a pl ad qu n (s_poll g (ad i) to) := by
  have h0 := zC0_of h
  have hai := c_ad h0 hi
  have A1 := c_sta h0 hi (f := 4) (w := 4) (by unfold s_fw; omega) (n32 to)
  generalize hσ1 : z_pI σ (pl i) 4 (n32 to) = σ1 at A1
  have h1 := zCs_step h A1 (gu_ne _ _ (by omega)) (s_sta_gap h.2.2.2.2 ht)
  obtain ⟨σ2, e2, A2⟩ := c_comes h1 hi ht (gu_same _ _ _)
  have h2 := zC0_step (zC0_of h1) A2
  rw [s_poll_ci]
  generalize hci : s_ci (gu g (18 + 7 * ad i + 4) (n32 to)) (ad i) to = r at *
  obtain ⟨b, g2⟩ := r
  have e9 := (c_L h2).2.2.2.2.1
  have e7 := (c_L h2).2.2.1
  cases b with
  | true =>
    refine ⟨σ2, ?_, zAn_t A1 A2⟩
    simp only [f_X8_pollGap_97, f_X8_pollGap_121, ↓zl_eq, ↓zb_eq, ↓zb2_eq, ↓zc_some, ↓zc_none, ↓zb_pre, ↓zb2_pre, ↓zc_pre, ↓zex_eq, ↓reduceIte, Option.isSome_some, Option.isSome_none, Option.getD_some, n32_lit, c_ob h0 hi, hσ1, e2, bi_0n, Bool.true_eq_false]
  | false =>
    refine ⟨z_pI σ2 a 9 (g2 3 + g2 1), ?_, zAn_t A1 (zAn_t A2 (c_tickp h2))⟩
    simp only [f_X8_pollGap_97, f_X8_pollGap_121, ↓zl_eq, ↓zb_eq, ↓zb2_eq, ↓zc_some, ↓zc_none, ↓zb_pre, ↓zb2_pre, ↓zc_pre, ↓zex_eq, ↓reduceIte, Option.isSome_some, Option.isSome_none, Option.getD_some, n32_lit, c_ob h0 hi, hσ1, e2, bi_0n, h2.1.1, e9, e7]
theorem c_poll (h : zCs σ a pl ad qu n g) {i nx gp gg : Nat} (hi : i < n) (hx : nx < 32) (hp : gp < 32) (hg1 : 1 ≤ gg) (hg2 : gg ≤ 20) (h3 : g (18 + 7 * ad i + 3) = n32 nx) (h4 : g (18 + 7 * ad i + 4) = n32 gp) (h2 : g 2 = n32 gg) :
    ∃ σ', f_X8_pollGap σ a (pl i) = some σ' ∧ zAn σ σ' a pl ad qu n (s_polls g (ad i) nx gp) ∧ s_sta (s_polls g (ad i) nx gp) := by
  have h0 := zC0_of h
  have hai := c_ad h0 hi
  have S := c_S h0 hi
  have e8 : z_I σ a 8 = n32 gg := (c_L h0).2.2.2.1.trans h2
  have e3 : z_I σ (pl i) 3 = n32 nx := S.2.2.2.1.trans h3
  have e4 : z_I σ (pl i) 4 = n32 gp := S.2.2.2.2.1.trans h4
  have e7 := S.2.2.2.2.2.1
  have An0 : zAn σ σ a pl ad qu n g := ⟨zFr_r a σ, rfl, h.2.2.1⟩
  have hm1 := Nat.mod_lt (gp + 1) (show 32 > 0 by decide)
  have hm2 := Nat.mod_lt (ad i + 1) (show 32 > 0 by decide)
  have bw := n32_bw (ad i) hai.1 nx hx
  have ds := n32_ds (ad i) hai.1 ((gp + 1) % 32) hm1
  have hb1 := s_bhd_le (ad i) nx
  have hb2 := s_bhd_le (ad i) ((gp + 1) % 32)
  unfold s_polls
  rw [h2]
  by_cases hv : g (18 + 7 * ad i + 5) - g (18 + 7 * ad i + 5) / n32 gg * n32 gg = n32 0
  · rw [if_pos hv]
    by_cases hz : s_bhd (ad i) nx - 1 = 0
    · rw [if_pos hz]
      refine ⟨σ, ?_, An0, h.2.2.2.2⟩
      simp (disch := omega) only [f_X8_pollGap, ↓zl_eq, ↓zb_eq, ↓zb2_eq, ↓zc_some, ↓zc_none, ↓zb_pre, ↓zb2_pre, ↓zc_pre, ↓zex_eq, ↓reduceIte, Option.isSome_some, Option.isSome_none, Option.getD_some, n32_lit, h.1.1, e8, n32_lt, n32_eq, c_ob h0 hi, e7, hv, e3, S.1, bw, hz]
      rw [if_neg (by omega), if_pos (by omega)]
    · rw [if_neg hz]
      have P1 := c_poll97 h hi (s_to_lt (ad i) nx gp)
      have hst := s_sta_poll (h := ad i) (to := s_to (ad i) nx gp) h.2.2.2.2 hai.1 (s_to_lt _ _ _) hai.2
      obtain ⟨σ', E, A⟩ := P1
      refine ⟨σ', ?_, A, hst⟩
      rw [← E]
      simp (disch := omega) only [f_X8_pollGap, f_X8_pollGap_71, f_X8_pollGap_72, ↓zl_eq, ↓zb_eq, ↓zb2_eq, ↓zc_some, ↓zc_none, ↓zb_pre, ↓zb2_pre, ↓zc_pre, ↓zex_eq, ↓reduceIte, Option.isSome_some, Option.isSome_none, Option.getD_some, n32_lit, h.1.1, e8, n32_lt, n32_eq, c_ob h0 hi, e7, hv, e3, S.1, bw, hz, e4, c_addr _ hp, ds, c_addr _ hai.1]
      rw [if_neg (by omega), if_pos (by omega)]
      unfold s_to
      by_cases h32 : s_bhd (ad i) ((gp + 1) % 32) = 32
      · rw [if_pos h32, if_pos (by decide), if_neg (by omega)]
      · rw [if_neg h32, if_neg (by rw [n32_lt (by omega) (by omega)]; omega)]
        by_cases hq : s_bhd (ad i) nx - 1 < s_bhd (ad i) ((gp + 1) % 32)
        · rw [if_pos (by rw [n32_lt (by omega) (by omega)]; exact hq), if_neg (by omega)]
        · rw [if_neg (by rw [n32_lt (by omega) (by omega)]; exact hq), if_neg (by omega), if_pos (by omega)]
  · rw [if_neg hv]
    refine ⟨σ, ?_, An0, h.2.2.2.2⟩
    simp (disch := omega) only [f_X8_pollGap, f_X8_pollGap_20, ↓zl_eq, ↓zb_eq, ↓zb2_eq, ↓zc_some, ↓zc_none, ↓zb_pre, ↓zb2_pre, ↓zc_pre, ↓zex_eq, ↓reduceIte, Option.isSome_some, Option.isSome_none, Option.getD_some, n32_lit, h.1.1, e8, n32_lt, n32_eq, c_ob h0 hi, e7, hv]
    rw [if_neg (by omega), if_pos (by omega)]
end CLASS
