section CLASS
variable {σ : zSt} {a n : Nat} {pl ad : Nat → Nat} {qu : Nat → Nat → Nat} {g : zG}
/-- A STATION IS PLACED: the line is the array with the station -/
theorem c_place (h : zC0 σ a pl ad qu n g) (hG : qG σ a g) (hn : n < 8) (hw : s_own g) (h6' : s_nat g 6 ≤ 20) (h5' : s_nat g 5 ≤ 100) {x : Nat} (hx : x < 32) (hz : ¬ g (18 + 7 * x + 0) = n32 1) :
    ∃ σ' pl' ad' p, f_X2_placeStation σ a (n32 x) = some (some p, σ') ∧ zFw a σ σ' ∧ zC0 σ' a pl' ad' qu (n + 1) (s_adds g x) ∧ qG σ' a (s_adds g x) ∧ ∃ i, i < n + 1 ∧ pl' i = p ∧ ad' i = x := by
  obtain ⟨hL, hP, hRL, hRW, hRM, hRN, hRC, hRA, hRS, hRQ⟩ := h
  have hob := (hP.1 n hn).2.1
  have hpn := (hP.1 n hn).2.2
  have hR := c_reset (σ := σ) (p := pl n) (x := x) hob
  generalize hF : gu (gu (gu (gu (gu (gu (gu (gu (gu (z_I σ (pl n)) 0 (n32 x)) 1 (n32 1)) 2 (n32 0)) 3 (n32 x)) 4 (n32 x)) 5 nn) 6 (n32 0)) 7 (n32 0)) 8 nn = F at hR
  generalize hσ1 : z_sA σ (pl n) F = σ1 at hR
  have F1 : zFr a σ σ1 := by rw [← hσ1]; exact zFr_sA _ (by omega) (by omega) _
  have i1 : ∀ q, q ≠ pl n → z_I σ1 q = z_I σ q := fun q hq => by rw [← hσ1]; exact z_I_sAn _ _ _ hq
  have ne : ∀ i, i < n → pl i ≠ pl n := fun i hi he => by have := hP.2 i n (by omega) hn he; omega
  have hA1 : ∀ i, i < n → ad i < 32 ∧ z_I σ1 (pl i) 0 = n32 (ad i) := fun i hi => ⟨(hRA.2.1 i hi).1, by rw [i1 _ (ne i hi)]; exact (hRS i hi).1⟩
  obtain ⟨l, σ2, E, hl, hge, hlt, n1, n2, n3, n4, n5, n6⟩ := c_placeLoop (zLs_fr F1 hL) (zPl_fr F1 hP) hn hA1 hx (by rw [i1 _ (by omega)]; exact hRL.1)
  have adn : ∀ i, i < n → ad i ≠ x := fun i hi he => by
    have := (hRA.2.1 i hi).2
    rw [he] at this
    exact hz this
  have hlt2 : ∀ i, i < l → ad i < x := fun i hi => by
    rcases hlt with h0 | h0
    · omega
    · rcases Nat.lt_or_ge i (l - 1) with h1 | h1
      · have := hRA.2.2.1 i (l - 1) h1 (by omega); omega
      · have : i = l - 1 := by omega
        subst this; exact h0
  have hge2 : ∀ i, l ≤ i → i < n → x < ad i := fun i h1 h2 => by
    have a1 := hge i h1 h2
    have a2 := adn i h2
    omega
  generalize hσ3 : z_pI σ2 a 5 (n32 (n + 1)) = σ3 at E
  have j3 : ∀ q, q ≠ a → z_I σ3 q = z_I σ1 q := fun q hq => by rw [← hσ3, z_pI_eq, z_I_sAn _ _ _ hq, n3]
  have ja : z_I σ3 a = gu (z_I σ a) 5 (n32 (n + 1)) := by rw [← hσ3, z_pI_eq, z_I_sA, n3, i1 _ (by omega)]
  have jp : z_I σ3 (pl n) = F := by rw [j3 _ (by omega), ← hσ1, z_I_sA]
  have jq : ∀ q, q ≠ a → q ≠ pl n → z_I σ3 q = z_I σ q := fun q h1 h2 => by rw [j3 q h1, i1 q h2]
  have jJ : z_J σ3 = z_J σ := by rw [← hσ3]; show z_J σ2 = _; rw [n4, ← hσ1]; rfl
  have jR : ∀ q, q ≠ a + 1 → z_R σ3 q = z_R σ q := fun q hq => by rw [← hσ3]; show z_R σ2 q = _; rw [n5 q hq, ← hσ1]; rfl
  have jR1 : ∀ i, i < 8 → z_R σ3 (a + 1) i = some (s_ins pl l n (pl n) i) := fun i hi => by rw [← hσ3]; show z_R σ2 (a + 1) i = _; exact n6 i hi
  have jsh : z_sh σ3 = z_sh σ := by rw [← hσ3]; show z_sh σ2 = _; rw [n2, ← hσ1]; rfl
  have eob := z_ob_eq jsh
  have ear := z_ar_eq jsh
  have eln := z_ln_eq jsh
  have sn : ∀ {j : Nat}, (j < 18 + 7 * x ∨ 18 + 7 * x + 7 ≤ j) → s_adds g x j = g j := fun h => s_adds_ne g x h
  have hm : sMs g (s_adds g x) := ⟨sn (by omega), fun m w hm hw => sn (by omega)⟩
  have ad32 : ∀ i, i < n → ad i < 32 := fun i hi => (hRA.2.1 i hi).1
  have snA : ∀ i w, i < n → w < 7 → s_adds g x (18 + 7 * ad i + w) = g (18 + 7 * ad i + w) := fun i w hi hw => sn (by have := adn i hi; omega)
  -- the places and addresses of the new row
  have P1 : ∀ i, i < n + 1 → (i = l ∧ s_ins pl l n (pl n) i = pl n ∧ s_ins ad l n x i = x) ∨ ∃ k, k < n ∧ s_ins pl l n (pl n) i = pl k ∧ s_ins ad l n x i = ad k := by
    intro i hi
    rcases Nat.lt_trichotomy i l with c | c | c
    · exact Or.inr ⟨i, by omega, s_ins_lt _ _ c, s_ins_lt _ _ c⟩
    · subst c; exact Or.inl ⟨rfl, s_ins_eq _ _, s_ins_eq _ _⟩
    · exact Or.inr ⟨i - 1, by omega, s_ins_gt _ _ c (by omega), s_ins_gt _ _ c (by omega)⟩
  refine ⟨σ3, s_ins pl l n (pl n), s_ins ad l n x, pl n, ?_, ⟨?_, jsh, fun q hq => ⟨jq q (by omega) (by omega), by rw [jJ], jR q (by omega)⟩⟩, ⟨?_, ⟨fun i hi => ?_, fun i j hi hj he => ?_⟩, ?_, ?_, ?_, ?_, ?_, ?_, ?_, ?_⟩, ?_, l, by omega, s_ins_eq _ _, s_ins_eq _ _⟩
  · have o1 := hL.1
    have r0 := hL.2.1
    have a1 := hL.2.2.2.2.2.2.1
    have l8 := hL.2.2.2.2.2.2.2.1
    have r1 := (hP.1 n hn).1
    simp (disch := omega) only [f_X2_placeStation, ↓zl_eq, ↓zb_eq, ↓zb2_eq, ↓zc_some, ↓zc_none, ↓zb_pre, ↓zb2_pre, ↓zc_pre, ↓zex_eq, ↓reduceIte, Option.isSome_some, Option.isSome_none, Option.getD_some, n32_lit, n32_lt, o1, hRL.1, r0, a1, l8, ofN_n32, n32_ix, n32_toNat, r1, hob, hR, E, Nat.not_lt_zero, if_pos hn]
  · rw [← hσ3]; show z_nx σ2 = _; rw [n1, ← hσ1]; rfl
  · unfold zLs
    rw [eob, ear, eln, jR a (by omega), jR (a + 2) (by omega), jR (a + 3) (by omega), jR (a + 5) (by omega), jR (a + 9) (by omega)]
    exact hL
  · rw [jR1 i hi, s_ins_pi, eob]
    have := hP.1 (s_pi l n i) (s_pi_lt hn hi)
    exact ⟨rfl, this.2.1, this.2.2⟩
  · rw [s_ins_pi, s_ins_pi] at he
    exact s_pi_inj hl (hP.2 _ _ (s_pi_lt hn hi) (s_pi_lt hn hj) he)
  · unfold qL
    rw [ja]
    simp (disch := omega) only [gu_ne, gu_same, sn]
    exact ⟨trivial, hRL.2⟩
  · unfold qW
    rw [jq _ (by omega) (by omega), jq _ (by omega) (by omega)]
    exact hRW
  · exact qM_congr (jq _ (by omega) (by omega)) (jq _ (by omega) (by omega)) hm hRM
  · exact qN_congr (jq _ (by omega) (by omega)) (jq _ (by omega) (by omega)) (jq _ (by omega) (by omega)) (sn (by omega)) (fun k hk => sn (by omega)) hRN
  · exact qC_congr (jq _ (by omega) (by omega)) (by rw [jJ]) (fun j h1 h2 => sn (by omega)) hm hRC
  · refine ⟨by omega, fun i hi => ?_, fun i j hij hj => ?_, fun y hy => ?_⟩
    · rcases P1 i hi with ⟨_, _, e⟩ | ⟨k, hk, _, e⟩
      · rw [e]
        refine ⟨hx, ?_⟩
        unfold s_adds
        simp (disch := omega) only [gu_ne, gu_same]
      · rw [e, snA k 0 hk (by omega)]; exact hRA.2.1 k hk
    · rcases Nat.lt_trichotomy i l with c | c | c
      · rw [s_ins_lt _ _ c]
        rcases Nat.lt_trichotomy j l with d | d | d
        · rw [s_ins_lt _ _ d]; exact hRA.2.2.1 i j hij (by omega)
        · subst d; rw [s_ins_eq]; exact hlt2 i c
        · rw [s_ins_gt _ _ d (by omega)]
          have := hlt2 i c
          have := hge2 (j - 1) (by omega) (by omega)
          omega
      · subst c
        rw [s_ins_eq, s_ins_gt _ _ hij (by omega)]
        exact hge2 (j - 1) (by omega) (by omega)
      · rw [s_ins_gt _ _ c (by omega), s_ins_gt _ _ (by omega) (by omega)]
        exact hRA.2.2.1 (i - 1) (j - 1) (by omega) (by omega)
    · by_cases hyx : y = x
      · subst hyx
        right
        refine ⟨?_, l, by omega, s_ins_eq _ _⟩
        unfold s_adds
        simp (disch := omega) only [gu_ne, gu_same]
      · rw [sn (by omega)]
        rcases hRA.2.2.2 y hy with h0 | ⟨h0, i, hi, hiy⟩
        · exact Or.inl h0
        · right
          refine ⟨h0, ?_⟩
          rcases Nat.lt_or_ge i l with c | c
          · exact ⟨i, by omega, by rw [s_ins_lt _ _ c]; exact hiy⟩
          · exact ⟨i + 1, by omega, by rw [s_ins_gt _ _ (by omega) (by omega)]; exact hiy⟩
  · intro i hi
    rcases P1 i hi with ⟨_, e1, e⟩ | ⟨k, hk, e1, e⟩
    · rw [e, e1, jp, ← hF]
      unfold s_adds
      simp (disch := omega) only [gu_ne, gu_same, and_self]
    · rw [e, e1, jq _ (by have := (hP.1 k (by omega)).2.2; omega) (ne k hk)]
      rw [snA k 1 hk (by omega), snA k 2 hk (by omega), snA k 3 hk (by omega), snA k 4 hk (by omega), snA k 5 hk (by omega), snA k 6 hk (by omega)]
      exact hRS k hk
  · intro i hi
    have c4 : z_I σ3 (a + 4) = z_I σ (a + 4) := jq _ (by omega) (by omega)
    rcases P1 i hi with ⟨_, e1, e⟩ | ⟨k, hk, e1, e⟩
    · obtain ⟨s0, s1⟩ := s_len_none hw hx hz
      rw [e, e1, jp, ← hF, s_len_congr hm, s0]
      refine ⟨?_, ?_, fun j hj => by omega, s_qok_congr hm ⟨fun j hj => by omega, fun i j _ hj => by omega, fun m hm hwm => ?_⟩⟩
      · simp (disch := omega) only [gu_ne, gu_same]
      · simp (disch := omega) only [gu_ne, gu_same, Nat.lt_irrefl, if_false]
      · rw [s1 m hm] at hwm; cases hwm
    · have hp := (hP.1 k (by omega)).2.2
      obtain ⟨h1, h2, h3, h4⟩ := hRQ k hk
      rw [e, e1, jq _ (by omega) (ne k hk), c4, s_len_congr hm]
      exact ⟨h1, h2, h3, s_qok_congr hm h4⟩
  · exact qG_congr (jq _ (by omega) (by omega)) (sn (by omega)) (sn (by omega)) (fun j hj => sn (by omega)) hG
end CLASS
