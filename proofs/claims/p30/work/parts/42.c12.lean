theorem s_ask_ne (h : Nat) : ∀ (k : Nat) (g : zG) (to : Nat) {j : Nat}, j ≠ 3 → j ≠ 11 → (s_ask h k g to).1 j = g j := by
  intro k
  induction k with
  | zero => intro g to j _ _; rfl
  | succ k ih =>
    intro g to j h3 h11
    rw [s_ask]
    split
    · rfl
    · split
      · exact s_takes_ne _ _ h3 h11
      · rw [ih _ _ h3 h11, s_tick_ne _ h3, s_takes_ne _ _ h3 h11]
theorem s_drop_ne (g : zG) {h nx j : Nat} (hx : nx < 32) (h14 : j ≠ 14) (hj : j < 18 ∨ 242 ≤ j) : s_drop g h nx j = g j := by
  unfold s_drop
  split
  · rw [gu_ne _ _ h14, gu_ne _ _ (by omega)]
  · rfl
theorem s_passes_ne (g : zG) {h nx j : Nat} (hh : h < 32) (hx : nx < 32) (h3 : j ≠ 3) (h11 : j ≠ 11) (h4 : j ≠ 4) (h14 : j ≠ 14) (hj : j < 18 ∨ 242 ≤ j) : s_passes g h nx j = g j := by
  unfold s_passes
  split
  · exact s_tries_ne _ _ _ h3 h11 h4
  · unfold s_end
    rw [gu_ne _ _ h4, gu_ne _ _ (by omega), s_ask_ne _ _ _ _ h3 h11, s_drop_ne _ hx h14 hj, s_tries_ne _ _ _ h3 h11 h4]
theorem s_vis_ne (g : zG) {h nx gp k : Nat} (hh : h < 32) (hx : nx < 32) (hp : gp < 32) (h3 : s_logged g h k (s_nat g 7) (18 + 7 * h + 3) = n32 nx) {j : Nat} (j3 : j ≠ 3) (j11 : j ≠ 11) (j4 : j ≠ 4) (j13 : j ≠ 13) (j14 : j ≠ 14) (hj : j < 18 ∨ 242 ≤ j) : s_vis g h k j = s_logged g h k (s_nat g 7) j := by
  unfold s_vis s_ps
  obtain ⟨ny, hny, e⟩ := s_polls_next (gp := s_nat (s_logged g h k (s_nat g 7)) (18 + 7 * h + 4)) (s_logged g h k (s_nat g 7)) hh hx h3
  have e2 : s_nat (s_logged g h k (s_nat g 7)) (18 + 7 * h + 3) = nx := s_nat_n32 h3 (by omega)
  have ey : s_nat (s_pl (s_logged g h k (s_nat g 7)) h) (18 + 7 * h + 3) = ny := s_nat_n32 (by unfold s_pl; rw [e2]; exact e) (by omega)
  rw [ey, s_passes_ne _ hh hny j3 j11 j4 j14 hj]
  unfold s_pl
  exact s_polls_ne _ j13 hj j3 j11 hh
section CLASS
variable {σ : zSt} {a n : Nat} {pl ad : Nat → Nat} {qu : Nat → Nat → Nat} {g : zG}
theorem s_len_le (g : zG) (x : Nat) : s_len g x ≤ s_nat g 5 := s_cnt_le _ _
theorem c_urgent (h : zC0 σ a pl ad qu n g) (h5 : s_nat g 5 ≤ 100) (h52 : g 5 = n32 (s_nat g 5)) {i : Nat} (hi : i < n) : f_X3_isUrgent σ (a + 2) (z_I σ (pl i) 5) = some (bi (s_urg g (n32 (ad i)))) := by
  have hQ := h.2.2.2.2.2.2.2.2.2 i hi
  have hnx := s_next0 hQ.2.2.2 h5
  have hL := h.1
  have hRM := h.2.2.2.2.1
  have hRW := h.2.2.2.1
  rw [hQ.2.1]
  by_cases hl : 0 < s_len g (ad i)
  · rw [if_pos hl] at hnx ⊢
    have hm := (hQ.2.2.2.1 0 hl).1
    have v1 := hRM.2 (qu (ad i) 0) 1 hm (by decide)
    have hat := c_at hL hRW.1 (m := qu (ad i) 0) (w := 1) (by omega) (by decide)
    rw [v1] at hat
    have hnum : z_I σ (a + 2) 1 = n32 (s_nat g 5) := by rw [hRM.1]; exact h52
    have hn : (n32 (qu (ad i) 0) = nn) = False := propext (n32_ne (by omega))
    have hf1 : (s_nat g 5 ≤ qu (ad i) 0) = False := eq_false (by omega)
    have hf2 : (qu (ad i) 0 < 0) = False := eq_false (by omega)
    have z_bl1 : z_bl (n32 1) = true := rfl
    unfold s_urg
    rw [hnx, n32_toNat (by omega)]
    simp (disch := omega) only [f_X3_isUrgent, f_X3_isUrgent_25, f_X3_isUrgent_26, f_X3_has, f_X3_has_16, f_X3_has_17, ↓zl_eq, ↓zb_eq, ↓zb2_eq, ↓zc_some, ↓zc_none, ↓zb_pre, ↓zb2_pre, ↓zc_pre, ↓zex_eq, ↓reduceIte, Option.isSome_some, Option.isSome_none, Option.getD_some, n32_lit, hL.1, hL.2.1, hL.2.2.1, hL.2.2.2.1, hL.2.2.2.2.1, hL.2.2.2.2.2.1, hL.2.2.2.2.2.2.1, hL.2.2.2.2.2.2.2.1, hL.2.2.2.2.2.2.2.2.1, hL.2.2.2.2.2.2.2.2.2.1, hL.2.2.2.2.2.2.2.2.2.2.1, hL.2.2.2.2.2.2.2.2.2.2.2.1, hL.2.2.2.2.2.2.2.2.2.2.2.2.1, hL.2.2.2.2.2.2.2.2.2.2.2.2.2.1, hL.2.2.2.2.2.2.2.2.2.2.2.2.2.2.1, hL.2.2.2.2.2.2.2.2.2.2.2.2.2.2.2.1, hL.2.2.2.2.2.2.2.2.2.2.2.2.2.2.2.2.1, hL.2.2.2.2.2.2.2.2.2.2.2.2.2.2.2.2.2.1, hL.2.2.2.2.2.2.2.2.2.2.2.2.2.2.2.2.2.2.1, hL.2.2.2.2.2.2.2.2.2.2.2.2.2.2.2.2.2.2.2.1, hL.2.2.2.2.2.2.2.2.2.2.2.2.2.2.2.2.2.2.2.2.1, hL.2.2.2.2.2.2.2.2.2.2.2.2.2.2.2.2.2.2.2.2.2.1, hL.2.2.2.2.2.2.2.2.2.2.2.2.2.2.2.2.2.2.2.2.2.2.1, hL.2.2.2.2.2.2.2.2.2.2.2.2.2.2.2.2.2.2.2.2.2.2.2.1, hL.2.2.2.2.2.2.2.2.2.2.2.2.2.2.2.2.2.2.2.2.2.2.2.2.1, hL.2.2.2.2.2.2.2.2.2.2.2.2.2.2.2.2.2.2.2.2.2.2.2.2.2, n32_lt, n32_le, hnum, hat, hn, hf1, hf2, n10, decide_false, Bool.not_false, Bool.true_and, z_bl1]
    by_cases hu : g (242 + 5 * qu (ad i) 0 + 1) < n32 5
    · simp only [hu, decide_true, Bool.not_true, if_true]; rfl
    · simp only [hu, decide_false, Bool.not_false, if_false]; rfl
  · rw [if_neg hl] at hnx ⊢
    unfold s_urg
    rw [hnx]
    have e0 : nn < n32 0 := by decide
    simp only [f_X3_isUrgent, f_X3_isUrgent_25, f_X3_isUrgent_26, f_X3_has, f_X3_has_16, f_X3_has_17, ↓zl_eq, ↓zb_eq, ↓zb2_eq, ↓zc_some, ↓zc_none, ↓zb_pre, ↓zb2_pre, ↓zc_pre, ↓zex_eq, ↓reduceIte, Option.isSome_some, Option.isSome_none, Option.getD_some, n32_lit, hL.2.2.2.2.2.2.2.2.1, e0, decide_true, Bool.not_true, Bool.false_and]
    rfl
theorem c_sendMsgs (h : zCs σ a pl ad qu n g) (h5 : s_nat g 5 ≤ 100) (h52 : g 5 = n32 (s_nat g 5)) (hmo : s_mo g) (hb : s_nat g 3 ≤ 2000000000) {i : Nat} (hi : i < n) (al : Int32) :
    ∃ σ' c' qu', f_X8_sendMessages σ a (pl i) al = some (n32 c', σ') ∧ zAn σ σ' a pl ad qu' n (s_all (n32 (ad i)) (g 3) al 101 g) ∧ s_allfin (n32 (ad i)) (g 3) al 101 g ∧ s_all (n32 (ad i)) (g 3) al 101 g 10 = g 10 + n32 c' ∧ s_nat (s_all (n32 (ad i)) (g 3) al 101 g) 3 ≤ s_nat g 3 + 2040 ∧ s_mo (s_all (n32 (ad i)) (g 3) al 101 g) := by
  have h0 := zC0_of h
  have hQ := h.2.2.1.2.2.2.2.2.2.2 i hi
  have hnx := s_next0 hQ.2.2.2 h5
  have hU := c_urgent h0 h5 h52 hi
  have hL := h.1
  have e9 := (c_L h0).2.2.2.2.1
  have hle := s_len_le g (ad i)
  have start : f_X8_sendMessages σ a (pl i) al = f_X8_sendMessages_21 a (pl i) al (g 3) σ (n32 0) (bi (s_urg g (n32 (ad i)))) := by
    simp only [f_X8_sendMessages, ↓zl_eq, ↓zb_eq, ↓zb2_eq, ↓zc_some, ↓zc_none, ↓zb_pre, ↓zb2_pre, ↓zc_pre, ↓zex_eq, ↓reduceIte, Option.isSome_some, Option.isSome_none, Option.getD_some, n32_lit, hL.1, hL.2.1, hL.2.2.1, hL.2.2.2.1, hL.2.2.2.2.1, hL.2.2.2.2.2.1, hL.2.2.2.2.2.2.1, hL.2.2.2.2.2.2.2.1, hL.2.2.2.2.2.2.2.2.1, hL.2.2.2.2.2.2.2.2.2.1, hL.2.2.2.2.2.2.2.2.2.2.1, hL.2.2.2.2.2.2.2.2.2.2.2.1, hL.2.2.2.2.2.2.2.2.2.2.2.2.1, hL.2.2.2.2.2.2.2.2.2.2.2.2.2.1, hL.2.2.2.2.2.2.2.2.2.2.2.2.2.2.1, hL.2.2.2.2.2.2.2.2.2.2.2.2.2.2.2.1, hL.2.2.2.2.2.2.2.2.2.2.2.2.2.2.2.2.1, hL.2.2.2.2.2.2.2.2.2.2.2.2.2.2.2.2.2.1, hL.2.2.2.2.2.2.2.2.2.2.2.2.2.2.2.2.2.2.1, hL.2.2.2.2.2.2.2.2.2.2.2.2.2.2.2.2.2.2.2.1, hL.2.2.2.2.2.2.2.2.2.2.2.2.2.2.2.2.2.2.2.2.1, hL.2.2.2.2.2.2.2.2.2.2.2.2.2.2.2.2.2.2.2.2.2.1, hL.2.2.2.2.2.2.2.2.2.2.2.2.2.2.2.2.2.2.2.2.2.2.1, hL.2.2.2.2.2.2.2.2.2.2.2.2.2.2.2.2.2.2.2.2.2.2.2.1, hL.2.2.2.2.2.2.2.2.2.2.2.2.2.2.2.2.2.2.2.2.2.2.2.2.1, hL.2.2.2.2.2.2.2.2.2.2.2.2.2.2.2.2.2.2.2.2.2.2.2.2.2, e9, c_ob h0 hi, hU]
  rw [start]
  unfold s_all s_allfin
  cases hu : s_urg g (n32 (ad i)) with
  | false =>
    simp only [if_false, Bool.false_eq_true]
    obtain ⟨σ', c', qu', E, A, F, C, D, T, M⟩ := c_sendLoop (a := a) hi (g 3) al (B := 2100000000) (by omega) 101 σ qu g 0 h h5 hmo (by omega) (by omega) (by omega) zN (by decide)
    exact ⟨σ', c', qu', E, A, F, D, by omega, M⟩
  | true =>
    simp only [if_true]
    have hl : 0 < s_len g (ad i) := by
      rcases Nat.eq_zero_or_pos (s_len g (ad i)) with hz | hz
      · rw [if_neg (by omega)] at hnx
        unfold s_urg at hu; rw [hnx] at hu; simp at hu
      · exact hz
    rw [if_pos hl] at hnx
    have hm := (hQ.2.2.2.1 0 hl).1
    have hv := c_wait hmo hm (by omega)
    obtain ⟨σ1, E, A⟩ := c_sendFirst h h5 hi hl hv
    have hjn : (s_next g (n32 (ad i)) nn).toNatClampNeg = qu (ad i) 0 := by rw [hnx, n32_toNat (by omega)]
    rw [hjn]
    obtain ⟨mo1, mo2, mo3⟩ := s_mo_sends hmo hm (B := 2100000000) (by omega) (by omega)
    have hlen := s_sends_len hQ.2.2.2 hl hv
    have hbody : b_X8_sendMessages_21 a (pl i) al (g 3) σ (n32 0) (bi true) = (if s_spoilt g (qu (ad i) 0) = true then some (.inr (n32 0, σ1)) else some (.inl (σ1, n32 1, n32 0))) := by
      simp (disch := omega) only [b_X8_sendMessages_21, f_X8_sendMessages_53, f_X8_sendMessages_73, ↓zl_eq, ↓zb_eq, ↓zb2_eq, ↓zc_some, ↓zc_none, ↓zb_pre, ↓zb2_pre, ↓zc_pre, ↓zex_eq, ↓reduceIte, Option.isSome_some, Option.isSome_none, Option.getD_some, n32_lit, n32_le, c_ob h0 hi, hQ.1, h0.1.1, e9, E, bi_0n, n32_add, Bool.true_eq_false]
      rw [if_neg (by omega), if_neg (by omega)]
      cases s_spoilt g (qu (ad i) 0) <;> rfl
    cases hs : s_spoilt g (qu (ad i) 0) with
    | true =>
      rw [hs] at hbody A
      simp only [if_true] at A hbody
      have hst2 : s_stop (n32 (ad i)) (g 3) al (s_sends g (qu (ad i) 0)) true = true := by simp [s_stop]
      have es2 : s_sl (n32 (ad i)) (g 3) al 101 (s_sends g (qu (ad i) 0)) true = s_sends g (qu (ad i) 0) := by
        rw [s_sl]; rw [if_pos hst2]
      rw [es2]
      refine ⟨σ1, 0, qu, zloop_r (N := 4999) hbody, A, Or.inl hst2, ?_, by omega, mo1⟩
      rw [s_sends_10, if_pos hs]
      exact (Int32.add_zero _).symm
    | false =>
      rw [hs] at hbody A
      simp only [if_false, Bool.false_eq_true] at A hbody
      have h1 : zCs σ1 a pl ad (s_tl qu (ad i)) n (s_sends g (qu (ad i) 0)) := by
        refine ⟨zLs_fr A.1 h.1, zPl_fr A.1 h.2.1, A.2.2, ?_, s_sta_congr (fun j _ _ => s_sends_ne _ _ (by omega) (by omega) (by omega) (by omega) (by omega)) h.2.2.2.2⟩
        rw [s_sends_ne _ _ (by decide) (by decide) (by decide) (by decide) (by omega)]
        exact h.2.2.2.1
      have hl2 := hlen.2 hs
      obtain ⟨σ', c', qu', E2, A2, F, C, D, T, M⟩ := c_sendLoop (a := a) hi (g 3) al (B := 2100000000) (by omega) 101 σ1 (s_tl qu (ad i)) (s_sends g (qu (ad i) 0)) 1 h1 (by rw [mo3]; exact h5) mo1 (by omega) (by omega) (by omega) 4999 (by decide)
      refine ⟨σ', c', qu', (zloop_l (N := 4999) hbody).trans E2, ⟨zFr_t A.1 A2.1, A2.2.1.trans A.2.1, A2.2.2⟩, F, ?_, by omega, M⟩
      rw [D, s_sends_10, if_neg (by rw [hs]; decide), Int32.add_assoc, n32_add]
      congr 2; omega
theorem zRep_great (hP : zPl σ a pl) (h : zRep σ a pl ad qu n g) (v : Int32) : zRep (z_sA σ (a + 8) (gu (z_I σ (a + 8)) 7 v)) a pl ad qu n (gu g 8 v) := by
  obtain ⟨hRL, hRW, hRM, hRN, hRC, hRA, hRS, hRQ⟩ := h
  have hm : sMs g (gu g 8 v) := ⟨gu_ne _ _ (by omega), fun m w _ _ => gu_ne _ _ (by omega)⟩
  have hp : ∀ i, i < n → pl i ≠ a + 8 := fun i hi => by have := (hP.1 i (by have := hRA.1; omega)).2.2; omega
  refine ⟨?_, ?_, qM_congr (by simp (disch := omega) only [z_I_sA, z_I_sAn, z_J_sA]) (by simp (disch := omega) only [z_I_sA, z_I_sAn, z_J_sA]) hm hRM, qN_congr (by simp (disch := omega) only [z_I_sA, z_I_sAn, z_J_sA]) (by simp (disch := omega) only [z_I_sA, z_I_sAn, z_J_sA]) (by simp (disch := omega) only [z_I_sA, z_I_sAn, z_J_sA]) (gu_ne _ _ (by omega)) (fun k _ => gu_ne _ _ (by omega)) hRN, ?_, qA_congr (fun x _ => gu_ne _ _ (by omega)) hRA, ?_, qQ_congr (by simp (disch := omega) only [z_I_sA, z_I_sAn, z_J_sA]) (fun i hi => by rw [z_I_sAn _ _ _ (hp i hi)]; exact ⟨rfl, rfl⟩) hm hRQ⟩
  · unfold qL
    simp (disch := omega) only [z_I_sAn, gu_ne]
    exact hRL
  · unfold qW
    simp (disch := omega) only [z_I_sAn]
    exact hRW
  · obtain ⟨h1, h2, h3, h4⟩ := hRC
    have e5 : s_nat (gu g 8 v) 5 = s_nat g 5 := by unfold s_nat; rw [gu_ne _ _ (by omega)]
    refine ⟨fun k hk => ?_, ?_, ?_, ?_⟩
    · rw [z_I_sA, gu_ne _ _ (by omega), gu_ne _ _ (by omega)]; exact h1 k hk
    · rw [z_I_sA, gu_same, gu_same]
    · rw [z_I_sA, gu_ne _ _ (by omega), e5, s_most_congr _ (fun m hm => gu_ne _ _ (by omega))]; exact h3
    · rw [z_J_sA, e5, s_sumw_congr _ (fun m hm => gu_ne _ _ (by omega))]; exact h4
  · intro k hk
    have h32 := (hRA.2.1 k hk).1
    rw [z_I_sAn _ _ _ (hp k hk)]
    simp (disch := omega) only [gu_ne]
    exact hRS k hk
theorem c_great (h : zC0 σ a pl ad qu n g) (v : Int32) : zAn σ (z_pI σ (a + 8) 7 v) a pl ad qu n (gu g 8 v) := by
  rw [z_pI_eq]
  exact ⟨zFr_sA _ (by omega) (by omega) _, (by simp (disch := omega) only [z_I_sA, z_I_sAn, z_J_sA]), zRep_great h.2.1 h.2.2 v⟩
theorem c_begin (h : zCs σ a pl ad qu n g) {i : Nat} (hi : i < n) : ∃ σ', f_X8_beginVisit σ a (pl i) = some (s_rot g (ad i), σ') ∧ zAn σ σ' a pl ad qu n (s_begin g (ad i)) := by
  have h0 := zC0_of h
  have hai := c_ad h0 hi
  have S := c_S h0 hi
  have e9 := (c_L h0).2.2.2.2.1
  have A1 := c_sta h0 hi (f := 8) (w := 6) (by unfold s_fw; omega) (g 3)
  generalize hσ1 : z_pI σ (pl i) 8 (g 3) = σ1 at A1
  have h1 := zC0_step h0 A1
  have r7 : z_I σ1 (pl i) 7 = g (18 + 7 * ad i + 5) := by rw [(c_S h1 hi).2.2.2.2.2.1, gu_ne _ _ (by omega)]
  have A2 := c_sta h1 hi (f := 7) (w := 5) (by unfold s_fw; omega) (g (18 + 7 * ad i + 5) + n32 1)
  generalize hσ2 : z_pI σ1 (pl i) 7 (g (18 + 7 * ad i + 5) + n32 1) = σ2 at A2
  have h2 := zC0_step h1 A2
  have r0 : z_I σ2 (a + 8) 0 = g 9 := by rw [c_C h2 (by decide), gu_ne _ _ (by omega), gu_ne _ _ (by omega)]
  have A3 := c_cnt h2 (i := 0) (by decide) (g 9 + n32 1)
  generalize hσ3 : z_pI σ2 (a + 8) 0 (g 9 + n32 1) = σ3 at A3
  have h3 := zC0_step h2 A3
  have r8 : z_I σ3 (a + 8) 7 = g 8 := by rw [h3.2.2.2.2.2.2.1.2.1, gu_ne _ _ (by omega), gu_ne _ _ (by omega), gu_ne _ _ (by omega)]
  have eb : (if g 8 < s_rot g (ad i) then s_rot g (ad i) else g 8) = (if s_rot g (ad i) ≤ g 8 then g 8 else s_rot g (ad i)) := by
    by_cases hc : s_rot g (ad i) ≤ g 8
    · rw [if_pos hc, if_neg (by rw [Int32.not_lt]; exact hc)]
    · rw [if_neg hc, if_pos (by rw [Int32.not_le] at hc; exact hc)]
  have A4 := c_great h3 (if s_rot g (ad i) ≤ g 8 then g 8 else s_rot g (ad i))
  have hL1 := h1.1
  have hL2 := h2.1
  have hL3 := h3.1
  have key : f_X8_beginVisit_21 σ a (pl i) (s_rot g (ad i)) = some (s_rot g (ad i), z_pI σ3 (a + 8) 7 (if s_rot g (ad i) ≤ g 8 then g 8 else s_rot g (ad i))) := by
    simp only [f_X8_beginVisit_21, ↓zl_eq, ↓zb_eq, ↓zb2_eq, ↓zc_some, ↓zc_none, ↓zb_pre, ↓zb2_pre, ↓zc_pre, ↓zex_eq, ↓reduceIte, Option.isSome_some, Option.isSome_none, Option.getD_some, n32_lit, c_ob h0 hi, h0.1.1, e9, hσ1, c_ob h1 hi, r7, hσ2, hL2.1, hL2.2.2.2.2.1, hL2.2.2.2.2.2.2.2.2.2.2.2.2.2.2.2.2.2.2.2.2.2.1, r0, hσ3, hL3.1, hL3.2.2.2.2.1, hL3.2.2.2.2.2.2.2.2.2.2.2.2.2.2.2.2.2.2.2.2.2.1, r8, eb]
  refine ⟨_, ?_, zAn_t A1 (zAn_t A2 (zAn_t A3 A4))⟩
  by_cases hl : g (18 + 7 * ad i + 6) = nn
  · have er : s_rot g (ad i) = n32 0 := by unfold s_rot; rw [if_pos hl]
    rw [← key]
    simp only [f_X8_beginVisit, ↓zl_eq, ↓zb_eq, ↓zb2_eq, ↓zc_some, ↓zc_none, ↓zb_pre, ↓zb2_pre, ↓zc_pre, ↓zex_eq, ↓reduceIte, Option.isSome_some, Option.isSome_none, Option.getD_some, n32_lit, n32_nn, n32_nn2, n32_add, n32_mul, n32_toNat, n32_ix, c_ob h0 hi, S.2.2.2.2.2.2, if_pos hl, er]
  · have er : s_rot g (ad i) = g 3 - g (18 + 7 * ad i + 6) := by unfold s_rot; rw [if_neg hl]
    rw [← key]
    simp only [f_X8_beginVisit, ↓zl_eq, ↓zb_eq, ↓zb2_eq, ↓zc_some, ↓zc_none, ↓zb_pre, ↓zb2_pre, ↓zc_pre, ↓zex_eq, ↓reduceIte, Option.isSome_some, Option.isSome_none, Option.getD_some, n32_lit, n32_nn, n32_nn2, n32_add, n32_mul, n32_toNat, n32_ix, c_ob h0 hi, h0.1.1, e9, S.2.2.2.2.2.2, if_neg hl, er]
end CLASS
