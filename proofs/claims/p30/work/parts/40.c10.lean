/-- the queues behind a sending -/
def s_tl (qu : Nat → Nat → Nat) (x : Nat) : Nat → Nat → Nat := fun y => if y = x then fun j => qu x (j + 1) else qu y
section CLASS
variable {σ σ' : zSt} {a n : Nat} {pl ad : Nat → Nat} {qu : Nat → Nat → Nat} {g : zG}
theorem zRep_sent (h : zC0 σ a pl ad qu n g) (h5 : s_nat g 5 ≤ 100) {i : Nat} (hi : i < n) (hl : 0 < s_len g (ad i)) {v : Int32} (hv : v ≠ nn) (L : Int32) {fo : Int32}
    (hfo : fo = z_I σ (a + 4) (6 * qu (ad i) 0 + 5))
    (h4 : z_I σ' (a + 4) = gu (z_I σ (a + 4)) (6 * qu (ad i) 0 + 4) v)
    (hp : z_I σ' (pl i) = gu (gu (z_I σ (pl i)) 5 fo) 6 (z_I σ (pl i) 6 - n32 1))
    (h8 : z_I σ' (a + 8) = gu (gu (gu (z_I σ (a + 8)) 1 (g 10 + n32 1)) 6 (g 15 + L)) 8 (if z_I σ (a + 8) 8 < v then v else z_I σ (a + 8) 8))
    (hJ : z_J σ' (a + 8) 9 = z_J σ (a + 8) 9 + v.toInt64)
    (ho : ∀ q, q ≠ a + 4 → q ≠ pl i → q ≠ a + 8 → z_I σ' q = z_I σ q) :
    zRep σ' a pl ad (s_tl qu (ad i)) n (gu (gu (s_wset g (qu (ad i) 0) v) 10 (g 10 + n32 1)) 15 (g 15 + L)) := by
  have hn := c_n8 h
  have hpi := (h.2.1.1 i (by omega)).2.2
  have hai := c_ad h hi
  obtain ⟨hRL, hRW, hRM, hRN, hRC, hRA, hRS, hRQ⟩ := h.2.2
  obtain ⟨Q1, Q2, Q3, Q4⟩ := hRQ i hi
  have hm := (Q4.1 0 hl).1
  have hw0 := (Q4.1 0 hl).2
  have hwait : g (242 + 5 * qu (ad i) 0 + 4) = nn := by
    simp only [s_wt, Bool.and_eq_true, decide_eq_true_eq] at hw0; exact hw0.2
  have hwho : g (242 + 5 * qu (ad i) 0 + 2) = n32 (ad i) := by
    simp only [s_wt, Bool.and_eq_true, decide_eq_true_eq] at hw0; exact hw0.1
  generalize hmm : qu (ad i) 0 = m at *
  have G : ∀ j, j ≠ 15 → j ≠ 10 → j ≠ 242 + 5 * m + 4 → gu (gu (s_wset g m v) 10 (g 10 + n32 1)) 15 (g 15 + L) j = g j := fun j a b c => by
    rw [gu_ne _ _ a, gu_ne _ _ b]; unfold s_wset; rw [gu_ne _ _ c]
  have MS : sMs (s_wset g m v) (gu (gu (s_wset g m v) 10 (g 10 + n32 1)) 15 (g 15 + L)) := ⟨by rw [gu_ne _ _ (by decide), gu_ne _ _ (by decide)], fun k w _ _ => by rw [gu_ne _ _ (by omega), gu_ne _ _ (by omega)]⟩
  have e5 : s_nat (gu (gu (s_wset g m v) 10 (g 10 + n32 1)) 15 (g 15 + L)) 5 = s_nat g 5 := by unfold s_nat; rw [G _ (by omega) (by omega) (by omega)]
  refine ⟨?_, ?_, ?_, ?_, ?_, ?_, ?_, ?_⟩
  · unfold qL
    rw [ho a (by omega) (by omega) (by omega), G _ (by omega) (by omega) (by omega), G _ (by omega) (by omega) (by omega), G _ (by omega) (by omega) (by omega), G _ (by omega) (by omega) (by omega), G _ (by omega) (by omega) (by omega)]
    exact hRL
  · unfold qW
    rw [ho _ (by omega) (by omega) (by omega), ho _ (by omega) (by omega) (by omega)]
    exact hRW
  · refine ⟨by rw [ho _ (by omega) (by omega) (by omega), G _ (by omega) (by omega) (by omega)]; exact hRM.1, fun k w hk hw => ?_⟩
    rw [e5] at hk
    rw [h4, gu_ne _ _ (show 242 + 5 * k + w ≠ 15 by omega), gu_ne _ _ (show 242 + 5 * k + w ≠ 10 by omega)]
    unfold s_wset
    by_cases hkm : 6 * k + w = 6 * m + 4
    · have : k = m ∧ w = 4 := by omega
      obtain ⟨rfl, rfl⟩ := this
      rw [gu_same, gu_same]
    · rw [gu_ne _ _ hkm, gu_ne _ _ (by omega)]
      exact hRM.2 k w hk hw
  · exact qN_congr (ho _ (by omega) (by omega) (by omega)) (ho _ (by omega) (by omega) (by omega)) (ho _ (by omega) (by omega) (by omega)) (G _ (by omega) (by omega) (by omega)) (fun k _ => G _ (by omega) (by omega) (by omega)) hRN
  · refine ⟨fun k hk => ?_, ?_, ?_, ?_⟩
    · rw [h8, gu_ne _ _ (show k ≠ 8 by omega)]
      by_cases k1 : k = 6
      · subst k1; rw [gu_same]; rw [show 9 + 6 = 15 from rfl, gu_same]
      · rw [gu_ne _ _ k1]
        by_cases k2 : k = 1
        · subst k2; rw [gu_same]; rw [show 9 + 1 = 10 from rfl, gu_ne _ _ (by decide), gu_same]
        · rw [gu_ne _ _ k2, G _ (by omega) (by omega) (by omega)]; exact hRC.1 k hk
    · rw [h8, gu_ne _ _ (by decide), gu_ne _ _ (by decide), gu_ne _ _ (by decide), G _ (by omega) (by omega) (by omega)]; exact hRC.2.1
    · rw [h8, gu_same, e5, s_most_congr _ (fun k hk => MS.2 k 4 (by rw [s_wset_5]; exact hk) (by decide)), (s_most_upd hwait v (s_nat g 5)).2 hm, hRC.2.2.1]
    · rw [hJ, e5, s_sumw_congr _ (fun k hk => MS.2 k 4 (by rw [s_wset_5]; exact hk) (by decide)), (s_sumw_upd hwait hv (s_nat g 5)).2 hm, hRC.2.2.2]
  · exact qA_congr (fun x hx => G _ (by omega) (by omega) (by omega)) hRA
  · intro k hk
    have hk32 := (hRA.2.1 k hk).1
    have hpk := (h.2.1.1 k (by omega)).2.2
    have key := hRS k hk
    rw [G _ (by omega) (by omega) (by omega), G _ (by omega) (by omega) (by omega), G _ (by omega) (by omega) (by omega), G _ (by omega) (by omega) (by omega), G _ (by omega) (by omega) (by omega), G _ (by omega) (by omega) (by omega)]
    by_cases hki : k = i
    · subst hki
      rw [hp]
      simp (disch := omega) only [gu_ne]
      exact key
    · have hne : pl k ≠ pl i := fun he => hki (h.2.1.2 k i (by omega) (by omega) he)
      rw [ho _ (by omega) hne (by omega)]
      exact key
  · intro k hk
    have hk32 := (hRA.2.1 k hk).1
    have hpk := (h.2.1.1 k (by omega)).2.2
    obtain ⟨P1, P2, P3, P4⟩ := hRQ k hk
    rw [s_len_congr MS]
    by_cases hki : k = i
    · subst hki
      have hq := s_qok_sent Q4 hl (v := v) hv
      rw [hmm] at hq
      obtain ⟨el, eq⟩ := hq
      have et : s_tl qu (ad k) (ad k) = fun j => qu (ad k) (j + 1) := by unfold s_tl; rw [if_pos rfl]
      rw [et, hp]
      refine ⟨?_, ?_, ?_, s_qok_congr MS eq⟩
      · rw [gu_same, Q1, n32_sub (by omega)]
        congr 1; omega
      · rw [gu_ne _ _ (by decide), gu_same, hfo]
        have := Q3 0 hl
        rw [hmm] at this
        rw [this]
        by_cases c1 : 0 + 1 < s_len g (ad k)
        · rw [if_pos c1, if_pos (by omega)]
        · rw [if_neg c1, if_neg (by omega)]
      · intro j hj
        rw [h4, gu_ne _ _ (by omega), Q3 (j + 1) (by omega)]
        by_cases c1 : j + 1 + 1 < s_len g (ad k)
        · rw [if_pos c1, if_pos (by omega)]
        · rw [if_neg c1, if_neg (by omega)]
    · have hne : pl k ≠ pl i := fun he => hki (h.2.1.2 k i (by omega) (by omega) he)
      have hadn : ad k ≠ ad i := by
        rcases Nat.lt_or_ge k i with hlt | hge
        · have := hRA.2.2.1 k i hlt hi; omega
        · have := hRA.2.2.1 i k (by omega) hk; omega
      have hx : s_wt g (n32 (ad k)) m = false := by
        unfold s_wt
        rw [hwho]
        have : (n32 (ad i) = n32 (ad k)) = False := by rw [n32_eq (by omega) (by omega)]; exact eq_false (by omega)
        simp only [this, decide_false, Bool.false_and]
      obtain ⟨el, eq⟩ := s_qok_other P4 hv hx
      have et : s_tl qu (ad i) (ad k) = qu (ad k) := by unfold s_tl; rw [if_neg hadn]
      rw [et, el, ho _ (by omega) hne (by omega)]
      refine ⟨P1, P2, ?_, s_qok_congr MS eq⟩
      intro j hj
      rw [h4, gu_ne _ _ (by omega)]
      exact P3 j hj
/-- one sending -/
theorem c_sendFirst (h : zCs σ a pl ad qu n g) (h5 : s_nat g 5 ≤ 100) {i : Nat} (hi : i < n) (hl : 0 < s_len g (ad i)) (hv : g 3 - g (242 + 5 * qu (ad i) 0 + 3) ≠ nn) :
    ∃ σ', f_X8_sendFirst σ a (pl i) = some (bi (!s_spoilt g (qu (ad i) 0)), σ') ∧ zAn σ σ' a pl ad (if s_spoilt g (qu (ad i) 0) = true then qu else s_tl qu (ad i)) n (s_sends g (qu (ad i) 0)) := by
  have h0 := zC0_of h
  have hn := c_n8 h0
  have hL := h.1
  obtain ⟨hRL, hRW, hRM, hRN, hRC, hRA, hRS, hRQ⟩ := h.2.2.1
  obtain ⟨Q1, Q2, Q3, Q4⟩ := hRQ i hi
  have hm := (Q4.1 0 hl).1
  rw [if_pos hl] at Q2
  have hai := c_ad h0 hi
  have hpi := (h.2.1.1 i (by omega)).2.2
  have e9 := hRL.2.2.2.2.1
  have vL := hRM.2 (qu (ad i) 0) 0 hm (by decide)
  obtain ⟨σ1, E1, A1⟩ := c_trans h (g (242 + 5 * qu (ad i) 0 + 0))
  have hsp : s_loud g (g 3) (g 3 + g (242 + 5 * qu (ad i) 0 + 0) - n32 1) = s_spoilt g (qu (ad i) 0) := rfl
  rw [hsp] at E1
  have hval := c_value hL hRW.1 (m := qu (ad i) 0) (w := 0) (by omega) (by decide)
  rw [vL] at hval
  unfold s_sends
  cases hs : s_spoilt g (qu (ad i) 0) with
  | true =>
    rw [hs] at E1
    refine ⟨σ1, ?_, A1⟩
    simp only [f_X8_sendFirst, ↓zl_eq, ↓zb_eq, ↓zb2_eq, ↓zc_some, ↓zc_none, ↓zb_pre, ↓zb2_pre, ↓zc_pre, ↓zex_eq, ↓reduceIte, Option.isSome_some, Option.isSome_none, Option.getD_some, n32_lit, hL.1, hL.2.1, hL.2.2.1, hL.2.2.2.1, hL.2.2.2.2.1, hL.2.2.2.2.2.1, hL.2.2.2.2.2.2.1, hL.2.2.2.2.2.2.2.1, hL.2.2.2.2.2.2.2.2.1, hL.2.2.2.2.2.2.2.2.2.1, hL.2.2.2.2.2.2.2.2.2.2.1, hL.2.2.2.2.2.2.2.2.2.2.2.1, hL.2.2.2.2.2.2.2.2.2.2.2.2.1, hL.2.2.2.2.2.2.2.2.2.2.2.2.2.1, hL.2.2.2.2.2.2.2.2.2.2.2.2.2.2.1, hL.2.2.2.2.2.2.2.2.2.2.2.2.2.2.2.1, hL.2.2.2.2.2.2.2.2.2.2.2.2.2.2.2.2.1, hL.2.2.2.2.2.2.2.2.2.2.2.2.2.2.2.2.2.1, hL.2.2.2.2.2.2.2.2.2.2.2.2.2.2.2.2.2.2.1, hL.2.2.2.2.2.2.2.2.2.2.2.2.2.2.2.2.2.2.2.1, hL.2.2.2.2.2.2.2.2.2.2.2.2.2.2.2.2.2.2.2.2.1, hL.2.2.2.2.2.2.2.2.2.2.2.2.2.2.2.2.2.2.2.2.2.1, hL.2.2.2.2.2.2.2.2.2.2.2.2.2.2.2.2.2.2.2.2.2.2.1, hL.2.2.2.2.2.2.2.2.2.2.2.2.2.2.2.2.2.2.2.2.2.2.2.1, hL.2.2.2.2.2.2.2.2.2.2.2.2.2.2.2.2.2.2.2.2.2.2.2.2.1, hL.2.2.2.2.2.2.2.2.2.2.2.2.2.2.2.2.2.2.2.2.2.2.2.2.2, c_ob h0 hi, Q2, hval, e9, E1, bi_0n, Bool.not_true]
    rfl
  | false =>
    rw [hs] at E1
    have h1 := zC0_step h0 A1
    generalize hg1 : s_takes g (g (242 + 5 * qu (ad i) 0 + 0)) = g1 at *
    have tk : ∀ j, j ≠ 3 → j ≠ 11 → g1 j = g j := fun j a b => by rw [← hg1]; exact s_takes_ne _ _ a b
    have hms : sMs g g1 := ⟨tk _ (by decide) (by decide), fun m w _ _ => tk _ (by omega) (by omega)⟩
    have hl1 : s_len g1 (ad i) = s_len g (ad i) := s_len_congr hms _
    have h51 : s_nat g1 5 = s_nat g 5 := by unfold s_nat; rw [hms.1]
    have hRQ1 := h1.2.2.2.2.2.2.2.2.2 i hi
    rw [hl1, if_pos hl] at hRQ1
    have hRM1 := h1.2.2.2.2.1
    have w3 := hRM1.2 (qu (ad i) 0) 3 (by omega) (by decide)
    rw [tk _ (by omega) (by omega)] at w3
    have hL1 := h1.1
    have hRW1 := h1.2.2.2.1
    have hat := c_at hL1 hRW1.1 (m := qu (ad i) 0) (w := 3) (by omega) (by decide)
    rw [w3] at hat
    have hput := c_put hL1 hRW1.1 (m := qu (ad i) 0) (w := 4) (by omega) (by decide) (g 3 - g (242 + 5 * qu (ad i) 0 + 3))
    generalize hvv : g 3 - g (242 + 5 * qu (ad i) 0 + 3) = v at *
    have c1 : z_I σ1 (a + 8) 1 = g 10 := by rw [c_C h1 (by decide)]; exact tk _ (by decide) (by decide)
    have c6 : z_I σ1 (a + 8) 6 = g 15 := by rw [c_C h1 (by decide)]; exact tk _ (by decide) (by decide)
    have hfol := c_at (σ := z_sA σ1 (a + 4) (gu (z_I σ1 (a + 4)) (6 * qu (ad i) 0 + 4) v)) (a := a) hL1 (by rw [z_I_sAn _ _ _ (by omega)]; exact hRW1.1) (m := qu (ad i) 0) (w := 5) (by omega) (by decide)
    rw [z_I_sA, gu_ne _ _ (by omega)] at hfol
    have hob1 := c_ob h1 hi
    let fin : zSt := z_pI (z_pJ (z_pI (z_pI (z_pI (z_pI (z_sA σ1 (a + 4) (gu (z_I σ1 (a + 4)) (6 * qu (ad i) 0 + 4) v)) (pl i) 5 (z_I σ1 (a + 4) (6 * qu (ad i) 0 + 5))) (pl i) 6 (z_I σ1 (pl i) 6 - n32 1)) (a + 8) 1 (g 10 + n32 1)) (a + 8) 6 (g 15 + g (242 + 5 * qu (ad i) 0 + 0))) (a + 8) 9 (z_J σ1 (a + 8) 9 + v.toInt64)) (a + 8) 8 (if z_I σ1 (a + 8) 8 < v then v else z_I σ1 (a + 8) 8)
    have hfin : fin = z_pI (z_pJ (z_pI (z_pI (z_pI (z_pI (z_sA σ1 (a + 4) (gu (z_I σ1 (a + 4)) (6 * qu (ad i) 0 + 4) v)) (pl i) 5 (z_I σ1 (a + 4) (6 * qu (ad i) 0 + 5))) (pl i) 6 (z_I σ1 (pl i) 6 - n32 1)) (a + 8) 1 (g 10 + n32 1)) (a + 8) 6 (g 15 + g (242 + 5 * qu (ad i) 0 + 0))) (a + 8) 9 (z_J σ1 (a + 8) 9 + v.toInt64)) (a + 8) 8 (if z_I σ1 (a + 8) 8 < v then v else z_I σ1 (a + 8) 8) := rfl
    refine ⟨fin, ?_, zFr_t A1.1 ?_, Eq.trans ?_ A1.2.1, ?_⟩
    · rw [hfin]
      have d1 : z_I (z_sA σ1 (a + 4) (gu (z_I σ1 (a + 4)) (6 * qu (ad i) 0 + 4) v)) (pl i) = z_I σ1 (pl i) := z_I_sAn _ _ _ (by omega)
      have d2 : z_I (z_sA σ1 (a + 4) (gu (z_I σ1 (a + 4)) (6 * qu (ad i) 0 + 4) v)) (a + 8) = z_I σ1 (a + 8) := z_I_sAn _ _ _ (by omega)
      have p1 : (pl i = a + 8) = False := eq_false (by omega)
      have p2 : (a + 8 = pl i) = False := eq_false (by omega)
      simp only [f_X8_sendFirst, f_X3_takeFirst, f_X0_addSent, ↓zl_eq, ↓zb_eq, ↓zb2_eq, ↓zc_some, ↓zc_none, ↓zb_pre, ↓zb2_pre, ↓zc_pre, ↓zex_eq, ↓reduceIte, Option.isSome_some, Option.isSome_none, Option.getD_some, n32_lit, hL.1, hL.2.1, hL.2.2.1, hL.2.2.2.1, hL.2.2.2.2.1, hL.2.2.2.2.2.1, hL.2.2.2.2.2.2.1, hL.2.2.2.2.2.2.2.1, hL.2.2.2.2.2.2.2.2.1, hL.2.2.2.2.2.2.2.2.2.1, hL.2.2.2.2.2.2.2.2.2.2.1, hL.2.2.2.2.2.2.2.2.2.2.2.1, hL.2.2.2.2.2.2.2.2.2.2.2.2.1, hL.2.2.2.2.2.2.2.2.2.2.2.2.2.1, hL.2.2.2.2.2.2.2.2.2.2.2.2.2.2.1, hL.2.2.2.2.2.2.2.2.2.2.2.2.2.2.2.1, hL.2.2.2.2.2.2.2.2.2.2.2.2.2.2.2.2.1, hL.2.2.2.2.2.2.2.2.2.2.2.2.2.2.2.2.2.1, hL.2.2.2.2.2.2.2.2.2.2.2.2.2.2.2.2.2.2.1, hL.2.2.2.2.2.2.2.2.2.2.2.2.2.2.2.2.2.2.2.1, hL.2.2.2.2.2.2.2.2.2.2.2.2.2.2.2.2.2.2.2.2.1, hL.2.2.2.2.2.2.2.2.2.2.2.2.2.2.2.2.2.2.2.2.2.1, hL.2.2.2.2.2.2.2.2.2.2.2.2.2.2.2.2.2.2.2.2.2.2.1, hL.2.2.2.2.2.2.2.2.2.2.2.2.2.2.2.2.2.2.2.2.2.2.2.1, hL.2.2.2.2.2.2.2.2.2.2.2.2.2.2.2.2.2.2.2.2.2.2.2.2.1, hL.2.2.2.2.2.2.2.2.2.2.2.2.2.2.2.2.2.2.2.2.2.2.2.2.2, c_ob h0 hi, Q2, hval, e9, E1, bi_0n, Bool.not_false, Bool.true_eq_false, hL1.1, hL1.2.1, hL1.2.2.1, hL1.2.2.2.2.1, hL1.2.2.2.2.2.2.2.2.1, hL1.2.2.2.2.2.2.2.2.2.1, hL1.2.2.2.2.2.2.2.2.2.2.1, hL1.2.2.2.2.2.2.2.2.2.2.2.2.2.2.2.2.2.2.2.2.2.1, hob1, hRQ1.2.1, hat, hvv, hput, z_ob_sA, z_R_sA, z_ob_pI, z_R_pI, hfol, z_I_pI, d1, d2, p1, p2, false_and, and_self, true_and, z_J_pI, z_I_pJ, z_ob_pJ, c1, c6, z_J_sA, Nat.reduceEqDiff, and_false]
      rfl
    · rw [hfin]
      simp only [z_pI_eq]
      exact zFr_t (zFr_t (zFr_t (zFr_t (zFr_t (zFr_t (zFr_sA _ (by omega) (by omega) _) (zFr_sA _ (by omega) (by omega) _)) (zFr_sA _ (by omega) (by omega) _)) (zFr_sA _ (by omega) (by omega) _)) (zFr_sA _ (by omega) (by omega) _)) (zFr_pJ _ (by omega) (by omega) _ _)) (zFr_sA _ (by omega) (by omega) _)
    · rw [hfin]
      simp (disch := omega) only [z_pI_eq, z_I_sAn, z_I_pJ]
    · have R := zRep_sent (σ' := fin) h1 (by rw [h51]; exact h5) hi (by rw [hl1]; exact hl) hv (g (242 + 5 * qu (ad i) 0 + 0)) rfl (by rw [hfin]; simp (disch := omega) only [z_pI_eq, z_I_sA, z_I_sAn, z_I_pJ]) (by rw [hfin]; simp (disch := omega) only [z_pI_eq, z_I_sA, z_I_sAn, z_I_pJ]) (by rw [hfin, tk 10 (by decide) (by decide), tk 15 (by decide) (by decide)]; simp (disch := omega) only [z_pI_eq, z_I_sA, z_I_sAn, z_I_pJ]) (by rw [hfin]; simp only [z_J_pI, z_J_pJ, and_self, if_true]) (fun q q1 q2 q3 => by rw [hfin]; simp (disch := omega) only [z_pI_eq, z_I_sAn, z_I_pJ])
      rw [tk 10 (by decide) (by decide), tk 15 (by decide) (by decide)] at R
      have es : s_sent g g1 (qu (ad i) 0) = gu (gu (s_wset g1 (qu (ad i) 0) v) 10 (g 10 + n32 1)) 15 (g 15 + g (242 + 5 * qu (ad i) 0 + 0)) := by
        unfold s_sent s_wset; rw [hvv]
      simp only [Bool.false_eq_true, if_false]
      rw [es]
      exact R
end CLASS
