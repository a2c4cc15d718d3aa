section CLASS
variable {σ : zSt} {a : Nat}
/-- a line's time and another of its numbers -/
theorem zRep_time {pl ad : Nat → Nat} {qu : Nat → Nat → Nat} {n : Nat} {g : zG} (hP : zPl σ a pl) (h : zRep σ a pl ad qu n g) (v : Int32) : zRep (z_sA σ a (gu (z_I σ a) 9 v)) a pl ad qu n (gu g 3 v) := by
  obtain ⟨hRL, hRW, hRM, hRN, hRC, hRA, hRS, hRQ⟩ := h
  have hm : sMs g (gu g 3 v) := ⟨gu_ne _ _ (by decide), fun m w _ _ => gu_ne _ _ (by omega)⟩
  have hp : ∀ i, i < n → pl i ≠ a := fun i hi => by have := (hP.1 i (by have := hRA.1; omega)).2.2; omega
  refine ⟨?_, ?_, qM_congr (by simp (disch := omega) only [z_I_sA, z_I_sAn, z_J_sA]) (by simp (disch := omega) only [z_I_sA, z_I_sAn, z_J_sA]) hm hRM, qN_congr (by simp (disch := omega) only [z_I_sA, z_I_sAn, z_J_sA]) (by simp (disch := omega) only [z_I_sA, z_I_sAn, z_J_sA]) (by simp (disch := omega) only [z_I_sA, z_I_sAn, z_J_sA]) (gu_ne _ _ (by decide)) (fun k _ => gu_ne _ _ (by omega)) hRN, qC_congr (σ := σ) (by simp (disch := omega) only [z_I_sA, z_I_sAn, z_J_sA]) rfl (fun j h1 h2 => gu_ne _ _ (by omega)) hm hRC, qA_congr (fun x _ => gu_ne _ _ (by omega)) hRA, ?_, qQ_congr (by simp (disch := omega) only [z_I_sA, z_I_sAn, z_J_sA]) (fun i hi => by rw [z_I_sAn _ _ _ (hp i hi)]; exact ⟨rfl, rfl⟩) hm hRQ⟩
  · obtain ⟨h1, h2, h3, h4, h5, h6⟩ := hRL
    unfold qL
    simp (disch := omega) only [z_I_sA, gu_ne, gu_same]
    exact ⟨h1, h2, h3, h4, trivial, h6⟩
  · unfold qW
    simp (disch := omega) only [z_I_sAn]
    exact hRW
  · intro i hi
    have h32 := (hRA.2.1 i hi).1
    rw [z_I_sAn _ _ _ (hp i hi)]
    simp (disch := omega) only [gu_ne]
    exact hRS i hi
/-- a count -/
theorem zRep_count {pl ad : Nat → Nat} {qu : Nat → Nat → Nat} {n : Nat} {g : zG} (hP : zPl σ a pl) (h : zRep σ a pl ad qu n g) {i : Nat} (hi : i < 7) (v : Int32) : zRep (z_sA σ (a + 8) (gu (z_I σ (a + 8)) i v)) a pl ad qu n (gu g (9 + i) v) := by
  obtain ⟨hRL, hRW, hRM, hRN, hRC, hRA, hRS, hRQ⟩ := h
  have hm : sMs g (gu g (9 + i) v) := ⟨gu_ne _ _ (by omega), fun m w _ _ => gu_ne _ _ (by omega)⟩
  have hp : ∀ i, i < n → pl i ≠ a + 8 := fun i hi => by have := (hP.1 i (by have := hRA.1; omega)).2.2; omega
  refine ⟨?_, ?_, qM_congr (by simp (disch := omega) only [z_I_sA, z_I_sAn, z_J_sA]) (by simp (disch := omega) only [z_I_sA, z_I_sAn, z_J_sA]) hm hRM, qN_congr (by simp (disch := omega) only [z_I_sA, z_I_sAn, z_J_sA]) (by simp (disch := omega) only [z_I_sA, z_I_sAn, z_J_sA]) (by simp (disch := omega) only [z_I_sA, z_I_sAn, z_J_sA]) (gu_ne _ _ (by omega)) (fun k _ => gu_ne _ _ (by omega)) hRN, ?_, qA_congr (fun x _ => gu_ne _ _ (by omega)) hRA, ?_, qQ_congr (by simp (disch := omega) only [z_I_sA, z_I_sAn, z_J_sA]) (fun i hi => by rw [z_I_sAn _ _ _ (hp i hi)]; exact ⟨rfl, rfl⟩) hm hRQ⟩
  · unfold qL
    simp (disch := omega) only [z_I_sAn, gu_ne]
    exact hRL
  · unfold qW
    simp (disch := omega) only [z_I_sAn]
    exact hRW
  · obtain ⟨h1, h2, h3, h4⟩ := hRC
    have e5 : s_nat (gu g (9 + i) v) 5 = s_nat g 5 := by unfold s_nat; rw [gu_ne _ _ (by omega)]
    refine ⟨fun k hk => ?_, ?_, ?_, ?_⟩
    · rw [z_I_sA]
      by_cases hki : k = i
      · subst hki; rw [gu_same, gu_same]
      · rw [gu_ne _ _ hki, gu_ne _ _ (by omega)]; exact h1 k hk
    · rw [z_I_sA, gu_ne _ _ (by omega), gu_ne _ _ (by omega)]; exact h2
    · rw [z_I_sA, gu_ne _ _ (by omega), e5, s_most_congr _ (fun m hm => gu_ne _ _ (by omega))]; exact h3
    · rw [z_J_sA, e5, s_sumw_congr _ (fun m hm => gu_ne _ _ (by omega))]; exact h4
  · intro k hk
    have h32 := (hRA.2.1 k hk).1
    rw [z_I_sAn _ _ _ (hp k hk)]
    simp (disch := omega) only [gu_ne]
    exact hRS k hk
theorem gu_id (g : zG) (k : Nat) : gu g k (g k) = g := by
  funext j; unfold gu; split
  · rename_i h; rw [h]
  · rfl
/-- a station's number that is none of its queue -/
theorem zRep_sta {pl ad : Nat → Nat} {qu : Nat → Nat → Nat} {n : Nat} {g : zG} (hP : zPl σ a pl) (h : zRep σ a pl ad qu n g) {i : Nat} (hi : i < n) {f w : Nat} (hfw : (f = 1 ∧ w = 1) ∨ (f = 2 ∧ w = 2) ∨ (f = 3 ∧ w = 3) ∨ (f = 4 ∧ w = 4) ∨ (f = 7 ∧ w = 5) ∨ (f = 8 ∧ w = 6)) (v : Int32) : zRep (z_sA σ (pl i) (gu (z_I σ (pl i)) f v)) a pl ad qu n (gu g (18 + 7 * ad i + w) v) := by
  obtain ⟨hRL, hRW, hRM, hRN, hRC, hRA, hRS, hRQ⟩ := h
  have h32 := (hRA.2.1 i hi).1
  have hn8 := hRA.1
  have hpi := (hP.1 i (by omega)).2.2
  have hm : sMs g (gu g (18 + 7 * ad i + w) v) := ⟨gu_ne _ _ (by omega), fun m w _ _ => gu_ne _ _ (by omega)⟩
  refine ⟨?_, ?_, qM_congr (by simp (disch := omega) only [z_I_sA, z_I_sAn, z_J_sA]) (by simp (disch := omega) only [z_I_sA, z_I_sAn, z_J_sA]) hm hRM, qN_congr (by simp (disch := omega) only [z_I_sA, z_I_sAn, z_J_sA]) (by simp (disch := omega) only [z_I_sA, z_I_sAn, z_J_sA]) (by simp (disch := omega) only [z_I_sA, z_I_sAn, z_J_sA]) (gu_ne _ _ (by omega)) (fun k _ => gu_ne _ _ (by omega)) hRN, qC_congr (σ := σ) (by simp (disch := omega) only [z_I_sA, z_I_sAn, z_J_sA]) rfl (fun j h1 h2 => gu_ne _ _ (by omega)) hm hRC, qA_congr (fun x _ => gu_ne _ _ (by omega)) hRA, ?_, qQ_congr (by simp (disch := omega) only [z_I_sA, z_I_sAn, z_J_sA]) (fun k hk => ?_) hm hRQ⟩
  · unfold qL
    simp (disch := omega) only [z_I_sAn, gu_ne]
    exact hRL
  · unfold qW
    simp (disch := omega) only [z_I_sAn]
    exact hRW
  · intro k hk
    have hk32 := (hRA.2.1 k hk).1
    by_cases hki : k = i
    · subst hki
      rw [z_I_sA]
      obtain ⟨s0, s1, s2, s3, s4, s7, s8⟩ := hRS k hk
      rcases hfw with ⟨rfl, rfl⟩ | ⟨rfl, rfl⟩ | ⟨rfl, rfl⟩ | ⟨rfl, rfl⟩ | ⟨rfl, rfl⟩ | ⟨rfl, rfl⟩ <;> simp (disch := omega) only [gu_ne, gu_same] <;> simp only [s0, s1, s2, s3, s4, s7, s8, and_self]
    · have hne : pl k ≠ pl i := fun he => hki (hP.2 k i (by omega) (by omega) he)
      have hadn : ad k ≠ ad i := by
        rcases Nat.lt_or_ge k i with hlt | hge
        · have := hRA.2.2.1 k i hlt hi; omega
        · have := hRA.2.2.1 i k (by omega) hk; omega
      rw [z_I_sAn _ _ _ hne]
      simp (disch := omega) only [gu_ne]
      exact hRS k hk
  · by_cases hki : k = i
    · subst hki
      rw [z_I_sA]
      rw [gu_ne _ _ (by omega), gu_ne _ _ (by omega)]
      exact ⟨rfl, rfl⟩
    · have hne : pl k ≠ pl i := fun he => hki (hP.2 k i (by omega) (by omega) he)
      rw [z_I_sAn _ _ _ hne]
      exact ⟨rfl, rfl⟩
theorem c_transmit (hL : zLs σ a) {pl ad : Nat → Nat} {qu : Nat → Nat → Nat} {n : Nat} {g : zG} (hP : zPl σ a pl) (h : zRep σ a pl ad qu n g) (h6 : ∃ z, z ≤ 20 ∧ g 6 = n32 z) (t : Int32) :
    ∃ σ', f_X2_transmit σ a t = some (bi (!s_loud g (g 3) (g 3 + t - n32 1)), σ') ∧ zFr a σ σ' ∧ z_I σ' (a + 10) = z_I σ (a + 10) ∧ zRep σ' a pl ad qu n (s_takes g t) := by
  obtain ⟨z, hz, h6⟩ := h6
  have h' := h
  obtain ⟨hRL, hRW, hRM, hRN, hRC, hRA, hRS, hRQ⟩ := h'
  have e6 : s_nat g 6 = z := by unfold s_nat; rw [h6, n32_toNat (by omega)]
  have T := c_touch (g := g) hL hz h6 (by rw [← h6]; exact hRN.1) (by rw [← e6]; exact hRN.2) (g 3) (g 3 + t - n32 1)
  have e9 : z_I σ a 9 = g 3 := hRL.2.2.2.2.1
  have K := zRep_time hP h (g 3 + t)
  have F1 : zFr a σ (z_sA σ a (gu (z_I σ a) 9 (g 3 + t))) := zFr_sA σ (Nat.le_refl _) (by omega) _
  have c2 : z_I σ (a + 8) 2 = g 11 := hRC.1 2 (by decide)
  unfold s_takes
  cases hl : s_loud g (g 3) (g 3 + t - n32 1) with
  | false =>
    refine ⟨z_sA σ a (gu (z_I σ a) 9 (g 3 + t)), ?_, F1, (by simp (disch := omega) only [z_I_sA, z_I_sAn, z_J_sA]), ?_⟩
    · rw [hl] at T
      simp (disch := omega) only [f_X2_transmit, f_X2_transmit_47, f_X2_transmit_56, ↓zl_eq, ↓zb_eq, ↓zb2_eq, ↓zc_some, ↓zc_none, ↓zb_pre, ↓zb2_pre, ↓zc_pre, ↓zex_eq, ↓reduceIte, Option.isSome_some, Option.isSome_none, Option.getD_some, n32_lit, z_pI_eq, hL.1, hL.2.1, hL.2.2.1, hL.2.2.2.1, hL.2.2.2.2.1, hL.2.2.2.2.2.1, hL.2.2.2.2.2.2.1, hL.2.2.2.2.2.2.2.1, hL.2.2.2.2.2.2.2.2.1, hL.2.2.2.2.2.2.2.2.2.1, hL.2.2.2.2.2.2.2.2.2.2.1, hL.2.2.2.2.2.2.2.2.2.2.2.1, hL.2.2.2.2.2.2.2.2.2.2.2.2.1, hL.2.2.2.2.2.2.2.2.2.2.2.2.2.1, hL.2.2.2.2.2.2.2.2.2.2.2.2.2.2.1, hL.2.2.2.2.2.2.2.2.2.2.2.2.2.2.2.1, hL.2.2.2.2.2.2.2.2.2.2.2.2.2.2.2.2.1, hL.2.2.2.2.2.2.2.2.2.2.2.2.2.2.2.2.2.1, hL.2.2.2.2.2.2.2.2.2.2.2.2.2.2.2.2.2.2.1, hL.2.2.2.2.2.2.2.2.2.2.2.2.2.2.2.2.2.2.2.1, hL.2.2.2.2.2.2.2.2.2.2.2.2.2.2.2.2.2.2.2.2.1, hL.2.2.2.2.2.2.2.2.2.2.2.2.2.2.2.2.2.2.2.2.2.1, hL.2.2.2.2.2.2.2.2.2.2.2.2.2.2.2.2.2.2.2.2.2.2.1, hL.2.2.2.2.2.2.2.2.2.2.2.2.2.2.2.2.2.2.2.2.2.2.2.1, hL.2.2.2.2.2.2.2.2.2.2.2.2.2.2.2.2.2.2.2.2.2.2.2.2.1, hL.2.2.2.2.2.2.2.2.2.2.2.2.2.2.2.2.2.2.2.2.2.2.2.2.2, e9, T, bi_0n, bi_bl]
      rfl
    · have : g 11 + bi false = gu g 3 (g 3 + t) 11 := by
        rw [gu_ne _ _ (by decide)]
        exact Int32.add_zero _
      rw [this, gu_id]
      exact K
  | true =>
    refine ⟨z_sA (z_sA σ a (gu (z_I σ a) 9 (g 3 + t))) (a + 8) (gu (z_I σ (a + 8)) 2 (g 11 + n32 1)), ?_, zFr_t F1 (zFr_sA _ (by omega) (by omega) _), (by simp (disch := omega) only [z_I_sA, z_I_sAn, z_J_sA]), ?_⟩
    · rw [hl] at T
      simp (disch := omega) only [f_X2_transmit, f_X2_transmit_47, f_X2_transmit_56, ↓zl_eq, ↓zb_eq, ↓zb2_eq, ↓zc_some, ↓zc_none, ↓zb_pre, ↓zb2_pre, ↓zc_pre, ↓zex_eq, ↓reduceIte, Option.isSome_some, Option.isSome_none, Option.getD_some, n32_lit, z_pI_eq, hL.1, hL.2.1, hL.2.2.1, hL.2.2.2.1, hL.2.2.2.2.1, hL.2.2.2.2.2.1, hL.2.2.2.2.2.2.1, hL.2.2.2.2.2.2.2.1, hL.2.2.2.2.2.2.2.2.1, hL.2.2.2.2.2.2.2.2.2.1, hL.2.2.2.2.2.2.2.2.2.2.1, hL.2.2.2.2.2.2.2.2.2.2.2.1, hL.2.2.2.2.2.2.2.2.2.2.2.2.1, hL.2.2.2.2.2.2.2.2.2.2.2.2.2.1, hL.2.2.2.2.2.2.2.2.2.2.2.2.2.2.1, hL.2.2.2.2.2.2.2.2.2.2.2.2.2.2.2.1, hL.2.2.2.2.2.2.2.2.2.2.2.2.2.2.2.2.1, hL.2.2.2.2.2.2.2.2.2.2.2.2.2.2.2.2.2.1, hL.2.2.2.2.2.2.2.2.2.2.2.2.2.2.2.2.2.2.1, hL.2.2.2.2.2.2.2.2.2.2.2.2.2.2.2.2.2.2.2.1, hL.2.2.2.2.2.2.2.2.2.2.2.2.2.2.2.2.2.2.2.2.1, hL.2.2.2.2.2.2.2.2.2.2.2.2.2.2.2.2.2.2.2.2.2.1, hL.2.2.2.2.2.2.2.2.2.2.2.2.2.2.2.2.2.2.2.2.2.2.1, hL.2.2.2.2.2.2.2.2.2.2.2.2.2.2.2.2.2.2.2.2.2.2.2.1, hL.2.2.2.2.2.2.2.2.2.2.2.2.2.2.2.2.2.2.2.2.2.2.2.2.1, hL.2.2.2.2.2.2.2.2.2.2.2.2.2.2.2.2.2.2.2.2.2.2.2.2.2, e9, T, bi_0n, bi_bl, z_ob_sA, z_R_sA, z_I_sAn, c2, Bool.true_eq_false]
      rfl
    · have K2 := zRep_count (i := 2) (zPl_fr F1 hP) K (by decide) (g 11 + n32 1)
      rw [z_I_sAn _ _ _ (show a + 8 ≠ a by omega)] at K2
      exact K2
end CLASS
