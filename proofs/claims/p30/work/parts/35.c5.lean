section CLASS
variable {σ : zSt} {a n : Nat} {pl ad : Nat → Nat} {qu : Nat → Nat → Nat} {g : zG}
theorem zRep_holder (hP : zPl σ a pl) (h : zRep σ a pl ad qu n g) (v : Int32) : zRep (z_sA σ a (gu (z_I σ a) 10 v)) a pl ad qu n (gu g 4 v) := by
  obtain ⟨hRL, hRW, hRM, hRN, hRC, hRA, hRS, hRQ⟩ := h
  have hm : sMs g (gu g 4 v) := ⟨gu_ne _ _ (by decide), fun m w _ _ => gu_ne _ _ (by omega)⟩
  have hp : ∀ i, i < n → pl i ≠ a := fun i hi => by have := (hP.1 i (by have := hRA.1; omega)).2.2; omega
  refine ⟨?_, ?_, qM_congr (by simp (disch := omega) only [z_I_sA, z_I_sAn, z_J_sA]) (by simp (disch := omega) only [z_I_sA, z_I_sAn, z_J_sA]) hm hRM, qN_congr (by simp (disch := omega) only [z_I_sA, z_I_sAn, z_J_sA]) (by simp (disch := omega) only [z_I_sA, z_I_sAn, z_J_sA]) (by simp (disch := omega) only [z_I_sA, z_I_sAn, z_J_sA]) (gu_ne _ _ (by decide)) (fun k _ => gu_ne _ _ (by omega)) hRN, qC_congr (σ := σ) (by simp (disch := omega) only [z_I_sA, z_I_sAn, z_J_sA]) rfl (fun j h1 h2 => gu_ne _ _ (by omega)) hm hRC, qA_congr (fun x _ => gu_ne _ _ (by omega)) hRA, ?_, qQ_congr (by simp (disch := omega) only [z_I_sA, z_I_sAn, z_J_sA]) (fun i hi => by rw [z_I_sAn _ _ _ (hp i hi)]; exact ⟨rfl, rfl⟩) hm hRQ⟩
  · obtain ⟨h1, h2, h3, h4, h5, h6⟩ := hRL
    unfold qL
    simp (disch := omega) only [z_I_sA, gu_ne, gu_same]
    exact ⟨h1, h2, h3, h4, h5, trivial⟩
  · unfold qW
    simp (disch := omega) only [z_I_sAn]
    exact hRW
  · intro i hi
    have h32 := (hRA.2.1 i hi).1
    rw [z_I_sAn _ _ _ (hp i hi)]
    simp (disch := omega) only [gu_ne]
    exact hRS i hi
theorem s_sta_gu4 {v : Int32} (H : s_sta g) : s_sta (gu g 4 v) := s_sta_congr (fun j _ _ => gu_ne _ _ (by omega)) H
theorem c_pass (h : zCs σ a pl ad qu n g) {i nx : Nat} (hi : i < n) (hx : nx < 32) (h3 : g (18 + 7 * ad i + 3) = n32 nx) :
    ∃ σ', f_X8_passToNext σ a (pl i) = some (bi (s_tries nx 3 g).1, σ') ∧ zAn σ σ' a pl ad qu n (s_tries nx 3 g).2 ∧ s_sta (s_tries nx 3 g).2 := by
  have key : ∀ (k : Nat) (σ : zSt) (g : zG), k ≤ 3 → zCs σ a pl ad qu n g → g (18 + 7 * ad i + 3) = n32 nx → ∀ N, k < N →
      ∃ σ', zloop (fun (t : zSt × Int32) => b_X8_passToNext_2 a (pl i) t.1 t.2) N (σ, n32 (3 - k)) = some (bi (s_tries nx k g).1, σ') ∧ zAn σ σ' a pl ad qu n (s_tries nx k g).2 ∧ s_sta (s_tries nx k g).2 := by
    intro k
    induction k with
    | zero =>
      intro σ g _ h _ N hN
      obtain ⟨N, rfl⟩ : ∃ N', N = N' + 1 := ⟨N - 1, by omega⟩
      refine ⟨σ, zloop_r ?_, ⟨zFr_r a σ, rfl, h.2.2.1⟩, h.2.2.2.2⟩
      rfl
    | succ k ih =>
      intro σ g hk h h3 N hN
      obtain ⟨N, rfl⟩ : ∃ N', N = N' + 1 := ⟨N - 1, by omega⟩
      have hob := (h.2.1.1 i (by have := h.2.2.1.2.2.2.2.2.1.1; omega)).2.1
      have RSi := h.2.2.1.2.2.2.2.2.2.1 i hi
      have hai := (h.2.2.1.2.2.2.2.2.1.2.1 i hi).1
      have e3 : z_I σ (pl i) 3 = n32 nx := RSi.2.2.2.1.trans h3
      obtain ⟨σ1, E, A⟩ := c_reaches h hx
      have e4 : n32 (3 - (k + 1)) + n32 1 = n32 (3 - k) := by rw [n32_add]; congr 1; omega
      by_cases hc : s_l1 g = false ∧ s_ring (s_takes g (n32 1)) nx = true
      · rw [if_pos hc] at A
        rw [hc.1, hc.2] at E
        have h1 := zCs_step h A (s_takes_ne _ _ (by decide) (by decide)) (s_sta_takes _ h.2.2.2.2)
        have hob1 := (h1.2.1.1 i (by have := h.2.2.1.2.2.2.2.2.1.1; omega)).2.1
        have e31 : z_I σ1 (pl i) 3 = n32 nx := by
          rw [(h1.2.2.1.2.2.2.2.2.2.1 i hi).2.2.2.1, s_takes_ne _ _ (by omega) (by omega)]; exact h3
        have et : s_tries nx (k + 1) g = (true, gu (s_takes g (n32 1)) 4 (n32 nx)) := by rw [s_tries]; rw [if_pos hc]
        rw [et]
        refine ⟨z_sA σ1 a (gu (z_I σ1 a) 10 (n32 nx)), zloop_r ?_, zAn_t A ⟨zFr_sA _ (Nat.le_refl _) (by omega) _, (by simp (disch := omega) only [z_I_sA, z_I_sAn, z_J_sA]), zRep_holder h1.2.1 h1.2.2.1 _⟩, s_sta_gu4 h1.2.2.2.2⟩
        show b_X8_passToNext_2 a (pl i) σ (n32 (3 - (k + 1))) = _
        simp (disch := omega) only [b_X8_passToNext_2, ↓zl_eq, ↓zb_eq, ↓zb2_eq, ↓zc_some, ↓zc_none, ↓zb_pre, ↓zb2_pre, ↓zc_pre, ↓zex_eq, ↓reduceIte, Option.isSome_some, Option.isSome_none, Option.getD_some, n32_lit, n32_le, hob, e3, E, bi_0n, hob1, e31, h1.1.1, z_pI_eq, Bool.not_false, Bool.and_self, Bool.true_eq_false]
        rw [if_neg (by omega)]
        rfl
      · rw [if_neg hc] at A
        have hcf : (!s_l1 g && s_ring (s_takes g (n32 1)) nx) = false := by
          cases hl : s_l1 g <;> cases hr : s_ring (s_takes g (n32 1)) nx <;> simp [hl, hr] at hc ⊢
        rw [hcf] at E
        have h1 := zCs_step h A (by rw [s_tick_ne _ (by decide), s_takes_ne _ _ (by decide) (by decide)]) (s_sta_tick (s_sta_takes _ h.2.2.2.2))
        obtain ⟨σ2, E2, A2, S2⟩ := ih σ1 _ (by omega) h1 (by rw [s_tick_ne _ (by omega), s_takes_ne _ _ (by omega) (by omega)]; exact h3) N (by omega)
        have et : s_tries nx (k + 1) g = s_tries nx k (s_tick (s_takes g (n32 1))) := by rw [s_tries]; rw [if_neg hc]
        rw [et]
        refine ⟨σ2, (zloop_l (t := (σ1, n32 (3 - k))) ?_).trans E2, zAn_t A A2, S2⟩
        show b_X8_passToNext_2 a (pl i) σ (n32 (3 - (k + 1))) = _
        simp (disch := omega) only [b_X8_passToNext_2, ↓zl_eq, ↓zb_eq, ↓zb2_eq, ↓zc_some, ↓zc_none, ↓zb_pre, ↓zb2_pre, ↓zc_pre, ↓zex_eq, ↓reduceIte, Option.isSome_some, Option.isSome_none, Option.getD_some, n32_lit, n32_le, hob, e3, E, bi_0n, e4]
        rw [if_neg (by omega)]
  exact key 3 σ g (Nat.le_refl _) h h3 zN (by decide)
theorem s_sta_drop {h nx : Nat} (H : s_sta g) (hx : nx < 32) : s_sta (s_drop g h nx) := by
  unfold s_drop
  split
  · rename_i hc
    intro y hy h0
    rw [gu_ne _ _ (by omega), gu_ne _ _ (by omega)] at h0
    have := H y hy h0
    by_cases hyx : y = nx
    · subst hyx
      simp (disch := omega) only [gu_ne, gu_same]
      exact ⟨this.1, Or.inl trivial, fun hz => absurd hz (by decide), this.2.2.2⟩
    · simp (disch := omega) only [gu_ne]
      exact this
  · exact H
theorem c_drop (h : zCs σ a pl ad qu n g) {i nx : Nat} (hi : i < n) (hx : nx < 32) (h3 : g (18 + 7 * ad i + 3) = n32 nx) :
    ∃ σ', f_X8_dropSilent σ a (pl i) = some σ' ∧ zAn σ σ' a pl ad qu n (s_drop g (ad i) nx) ∧ s_sta (s_drop g (ad i) nx) := by
  have hS := s_sta_drop (h := ad i) h.2.2.2.2 hx
  have hL := h.1
  have hRA := h.2.2.1.2.2.2.2.2.1
  have hn8 := hRA.1
  have hob := (h.2.1.1 i (by omega)).2.1
  have RSi := h.2.2.1.2.2.2.2.2.2.1 i hi
  have hai := (hRA.2.1 i hi).1
  have e3 : z_I σ (pl i) 3 = n32 nx := RSi.2.2.2.1.trans h3
  have An0 : zAn σ σ a pl ad qu n g := ⟨zFr_r a σ, rfl, h.2.2.1⟩
  have D0 : ¬ (¬ nx = ad i ∧ s_ring g nx = true) → s_drop g (ad i) nx = g := fun hc => by unfold s_drop; rw [if_neg hc]
  rcases c_is h hx with h0 | ⟨h0, k, hk, rfl⟩
  · have F := c_find0 h hx (by rw [h0]; decide)
    have hc : ¬ (¬ nx = ad i ∧ s_ring g nx = true) := by
      intro hc; simp only [s_ring, h0, Bool.and_eq_true, decide_eq_true_eq] at hc; exact absurd hc.2.1.1 (by decide)
    refine ⟨σ, ?_, by rw [D0 hc]; exact An0, hS⟩
    simp only [f_X8_dropSilent, f_X8_dropSilent_43, ↓zl_eq, ↓zb_eq, ↓zb2_eq, ↓zc_some, ↓zc_none, ↓zb_pre, ↓zb2_pre, ↓zc_pre, ↓zex_eq, ↓reduceIte, Option.isSome_some, Option.isSome_none, Option.getD_some, hob, hL.1, e3, F]
    rfl
  · have F := c_find1 h hk
    have hobk := (h.2.1.1 k (by omega)).2.1
    have hplk := (h.2.1.1 k (by omega)).2.2
    have RSk := h.2.2.1.2.2.2.2.2.2.1 k hk
    have hst := h.2.2.2.2 (ad k) hx h0
    by_cases hki : k = i
    · subst hki
      have hc : ¬ (¬ ad k = ad k ∧ s_ring g (ad k) = true) := by simp
      refine ⟨σ, ?_, by rw [D0 hc]; exact An0, hS⟩
      simp only [f_X8_dropSilent, f_X8_dropSilent_43, ↓zl_eq, ↓zb_eq, ↓zb2_eq, ↓zc_some, ↓zc_none, ↓zb_pre, ↓zb2_pre, ↓zc_pre, ↓zex_eq, ↓reduceIte, Option.isSome_some, Option.isSome_none, Option.getD_some, hob, hL.1, e3, F]
    · have hne : ¬ pl k = pl i := fun he => hki (h.2.1.2 k i (by omega) (by omega) he)
      have hadn : ad k ≠ ad i := by
        rcases Nat.lt_or_ge k i with hlt | hge
        · have := hRA.2.2.1 k i hlt hi; omega
        · have := hRA.2.2.1 i k (by omega) hk; omega
      rcases hst.2.1 with hr | hr
      · have hc : ¬ (¬ ad k = ad i ∧ s_ring g (ad k) = true) := by
          intro hc; simp only [s_ring, hr, Bool.and_eq_true, decide_eq_true_eq] at hc; exact absurd hc.2.2 (by decide)
        refine ⟨σ, ?_, by rw [D0 hc]; exact An0, hS⟩
        have e2 : z_I σ (pl k) 2 = n32 0 := RSk.2.2.1.trans hr
        simp only [f_X8_dropSilent, f_X8_dropSilent_43, ↓zl_eq, ↓zb_eq, ↓zb2_eq, ↓zc_some, ↓zc_none, ↓zb_pre, ↓zb2_pre, ↓zc_pre, ↓zex_eq, ↓reduceIte, Option.isSome_some, Option.isSome_none, Option.getD_some, n32_lit, hob, hL.1, e3, F, hobk, e2, Option.some.injEq, hne]
      · have hc : (¬ ad k = ad i ∧ s_ring g (ad k) = true) := ⟨hadn, by simp only [s_ring, h0, hr, hst.2.2.1 hr, decide_true, Bool.and_self]⟩
        have e2 : z_I σ (pl k) 2 = n32 1 := RSk.2.2.1.trans hr
        have A1 : zAn σ (z_sA σ (pl k) (gu (z_I σ (pl k)) 2 (n32 0))) a pl ad qu n (gu g (18 + 7 * ad k + 2) (n32 0)) := ⟨zFr_sA _ (by omega) (by omega) _, (by simp (disch := omega) only [z_I_sA, z_I_sAn, z_J_sA]), zRep_sta h.2.1 h.2.2.1 hk (Or.inr (Or.inl ⟨rfl, rfl⟩)) _⟩
        have h1 := zPl_fr A1.1 h.2.1
        have c5 : z_I σ (a + 8) 5 = g 14 := h.2.2.1.2.2.2.2.1.1 5 (by decide)
        have e8 : z_I (z_sA σ (pl k) (gu (z_I σ (pl k)) 2 (n32 0))) (a + 8) = z_I σ (a + 8) := z_I_sAn _ _ _ (by omega)
        have K2 := zRep_count (i := 5) h1 A1.2.2 (by decide) (g 14 + n32 1)
        rw [e8] at K2
        have ed : s_drop g (ad i) (ad k) = gu (gu g (18 + 7 * ad k + 2) (n32 0)) 14 (g 14 + n32 1) := by unfold s_drop; rw [if_pos hc]
        refine ⟨_, ?_, zAn_t A1 (σ'' := z_sA (z_sA σ (pl k) (gu (z_I σ (pl k)) 2 (n32 0))) (a + 8) (gu (z_I σ (a + 8)) 5 (g 14 + n32 1))) ⟨zFr_sA _ (by omega) (by omega) _, (by simp (disch := omega) only [z_I_sA, z_I_sAn, z_J_sA]), by rw [ed]; exact K2⟩, hS⟩
        simp only [f_X8_dropSilent, f_X8_dropSilent_43, ↓zl_eq, ↓zb_eq, ↓zb2_eq, ↓zc_some, ↓zc_none, ↓zb_pre, ↓zb2_pre, ↓zc_pre, ↓zex_eq, ↓reduceIte, Option.isSome_some, Option.isSome_none, Option.getD_some, n32_lit, hob, hL.1, e3, F, hobk, e2, Option.some.injEq, hne, n32_eq, z_pI_eq, z_ob_sA, z_R_sA, hL.1, hL.2.1, hL.2.2.1, hL.2.2.2.1, hL.2.2.2.2.1, hL.2.2.2.2.2.1, hL.2.2.2.2.2.2.1, hL.2.2.2.2.2.2.2.1, hL.2.2.2.2.2.2.2.2.1, hL.2.2.2.2.2.2.2.2.2.1, hL.2.2.2.2.2.2.2.2.2.2.1, hL.2.2.2.2.2.2.2.2.2.2.2.1, hL.2.2.2.2.2.2.2.2.2.2.2.2.1, hL.2.2.2.2.2.2.2.2.2.2.2.2.2.1, hL.2.2.2.2.2.2.2.2.2.2.2.2.2.2.1, hL.2.2.2.2.2.2.2.2.2.2.2.2.2.2.2.1, hL.2.2.2.2.2.2.2.2.2.2.2.2.2.2.2.2.1, hL.2.2.2.2.2.2.2.2.2.2.2.2.2.2.2.2.2.1, hL.2.2.2.2.2.2.2.2.2.2.2.2.2.2.2.2.2.2.1, hL.2.2.2.2.2.2.2.2.2.2.2.2.2.2.2.2.2.2.2.1, hL.2.2.2.2.2.2.2.2.2.2.2.2.2.2.2.2.2.2.2.2.1, hL.2.2.2.2.2.2.2.2.2.2.2.2.2.2.2.2.2.2.2.2.2.1, hL.2.2.2.2.2.2.2.2.2.2.2.2.2.2.2.2.2.2.2.2.2.2.1, hL.2.2.2.2.2.2.2.2.2.2.2.2.2.2.2.2.2.2.2.2.2.2.2.1, hL.2.2.2.2.2.2.2.2.2.2.2.2.2.2.2.2.2.2.2.2.2.2.2.2.1, hL.2.2.2.2.2.2.2.2.2.2.2.2.2.2.2.2.2.2.2.2.2.2.2.2.2, e8, c5]
        rw [if_neg (by decide)]
end CLASS
