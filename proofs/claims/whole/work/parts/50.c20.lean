section CLASS
variable {σ : zSt} {a c n : Nat} {pa pc ad : Nat → Nat} {qu : Nat → Nat → Nat} {g : zG}
/-- a whole line is copied -/
theorem c_copy (hL : zLs σ a) (hP : zPl σ a pa) (hW : qW σ a) (hL2 : zLs σ c) (hP2 : zPl σ c pc) (hd : a + 19 ≤ c ∨ c + 19 ≤ a) (hR : zRep σ c pc ad qu n g) (hG : qG σ c g) (hN : s_num g) :
    ∃ σ', f_X2_copyFrom σ a c = some σ' ∧ zFr a σ σ' ∧ zRep σ' a pa ad qu n g ∧ qG σ' a g := by
  obtain ⟨h5, h52, ⟨z, hz, h6⟩, hgg, hmo, hb, hst, mv, hmv, h9, h7⟩ := hN
  obtain ⟨rL, rW, rM, rN, rC, rA, rS, rQ⟩ := hR
  have n6 : s_nat g 6 = z := s_nat_n32 h6 (by omega)
  have n7 : s_nat g 7 = min mv 40 := s_nat_n32 h7 (by omega)
  have hn8 := rA.1
  generalize hF1 : gu (gu (gu (gu (gu (z_I σ a) 6 (g 0)) 7 (g 1)) 8 (g 2)) 9 (g 3)) 10 (g 4) = F1
  generalize hσ1 : z_sA σ a F1 = σ1
  have F01 : zFr a σ σ1 := by rw [← hσ1]; exact zFr_sA _ (by omega) (by omega) _
  have q1 : ∀ q, q ≠ a → z_I σ1 q = z_I σ q := fun q hq => by rw [← hσ1]; exact z_I_sAn _ _ _ hq
  generalize hσ2 : z_sA σ1 (a + 2) (gu (z_I σ (a + 2)) 1 (g 5)) = σ2
  have F02 : zFr a σ σ2 := by rw [← hσ2]; exact zFr_t F01 (zFr_sA _ (by omega) (by omega) _)
  have q2 : ∀ q, q ≠ a → q ≠ a + 2 → z_I σ2 q = z_I σ q := fun q hq hq2 => by rw [← hσ2, z_I_sAn _ _ _ hq2]; exact q1 q hq
  have T2 := c_cpM (zLs_fr F02 hL) (zLs_eq F02.2.1 F02.2.2.1 hL2) hd (by rw [q2 _ (by omega) (by omega)]; exact hW.1) h5
  rw [q2 _ (by omega) (by omega), q2 _ (by omega) (by omega)] at T2
  generalize hσ3 : z_sA σ2 (a + 4) (va_cpy (z_I σ (c + 4)) (z_I σ (a + 4)) 0 0 (6 * s_nat g 5)) = σ3 at T2
  have F03 : zFr a σ σ3 := by rw [← hσ3]; exact zFr_t F02 (zFr_sA _ (by omega) (by omega) _)
  have q3 : ∀ q, q ≠ a → q ≠ a + 2 → q ≠ a + 4 → z_I σ3 q = z_I σ q := fun q hq hq2 hq3 => by rw [← hσ3, z_I_sAn _ _ _ hq3]; exact q2 q hq hq2
  obtain ⟨σ4, E4, F4, Q4, J4, N4, N4'⟩ := c_cpN (zLs_fr F03 hL) (zLs_eq F03.2.1 F03.2.2.1 hL2) hd hz (by rw [q3 _ (by omega) (by omega) (by omega), rN.1]; exact h6)
  have F04 := zFr_t F03 F4
  obtain ⟨σ5, E5, F5, Q5, C5, J5⟩ := c_cp0 (zLs_fr F04 hL) (zLs_eq F04.2.1 F04.2.2.1 hL2) hd
  have F05 := zFr_t F04 F5
  have hc5 : ∀ q, q ≠ a → q ≠ a + 2 → q ≠ a + 4 → q ≠ a + 5 → q ≠ a + 6 → q ≠ a + 7 → q ≠ a + 8 → z_I σ5 q = z_I σ q := fun q x0 x2 x4 x5 x6 x7 x8 => by rw [(Q5 q x8).1, Q4 q x5 x6 x7]; exact q3 q x0 x2 x4
  have T5 := c_cpG (q := min mv 40) (zLs_fr F05 hL) (zLs_eq F05.2.1 F05.2.2.1 hL2) hd (by rw [hc5 _ (by omega) (by omega) (by omega) (by omega) (by omega) (by omega) (by omega)]; exact hW.2) (by omega)
  rw [hc5 _ (by omega) (by omega) (by omega) (by omega) (by omega) (by omega) (by omega), hc5 _ (by omega) (by omega) (by omega) (by omega) (by omega) (by omega) (by omega)] at T5
  generalize hσ6 : z_sA σ5 (a + 10) (va_cpy (z_I σ (c + 10)) (z_I σ (a + 10)) 0 0 (4 * min mv 40)) = σ6 at T5
  have F06 : zFr a σ σ6 := by rw [← hσ6]; exact zFr_t F05 (zFr_sA _ (by omega) (by omega) _)
  have hc6 : ∀ q, q ≠ a + 10 → z_I σ6 q = z_I σ5 q := fun q h => by rw [← hσ6]; exact z_I_sAn _ _ _ h
  have pcr : ∀ i, i < n → c + 11 ≤ pc i ∧ pc i < c + 19 := fun i hi => (hP2.1 i (by omega)).2.2
  have par : ∀ i, i < n → a + 11 ≤ pa i ∧ pa i < a + 19 := fun i hi => (hP.1 i (by omega)).2.2
  have epc : ∀ i, i < n → z_I σ6 (pc i) = z_I σ (pc i) := fun i hi => (F06.2.2.2 _ (by have := pcr i hi; omega)).1
  have bl : ∀ v : Int32, (v = n32 0 ∨ v = n32 1) → z_bl v = true := by
    intro v hv; rcases hv with rfl | rfl <;> rfl
  obtain ⟨σ7, E7, F7, J7, A7, Q7, S7⟩ := c_cpS (zLs_fr F06 hL) (zLs_eq F06.2.1 F06.2.2.1 hL2) hd (zPl_fr F06 hP) (zPl_eq F06.2.1 F06.2.2.1 hP2) hn8 (by rw [(F06.2.2.2 c (by omega)).1]; exact rL.1) (fun i hi => by
    have st := hst (ad i) (rA.2.1 i hi).1 (rA.2.1 i hi).2
    rw [epc i hi, (rS i hi).2.1, (rS i hi).2.2.1]
    exact ⟨bl _ st.1, bl _ st.2.1⟩)
  have F07 := zFr_t F06 F7
  -- what the cells hold in the end
  have ha : z_I σ6 a = F1 := by
    rw [hc6 _ (by omega), (Q5 _ (by omega)).1, Q4 _ (by omega) (by omega) (by omega), ← hσ3, z_I_sAn _ _ _ (by omega), ← hσ2, z_I_sAn _ _ _ (by omega), ← hσ1, z_I_sA]
  have h2 : z_I σ7 (a + 2) = gu (z_I σ (a + 2)) 1 (g 5) := by
    rw [Q7 _ (by omega) (by omega), hc6 _ (by omega), (Q5 _ (by omega)).1, Q4 _ (by omega) (by omega) (by omega), ← hσ3, z_I_sAn _ _ _ (by omega), ← hσ2, z_I_sA]
  have h4 : z_I σ7 (a + 4) = va_cpy (z_I σ (c + 4)) (z_I σ (a + 4)) 0 0 (6 * s_nat g 5) := by
    rw [Q7 _ (by omega) (by omega), hc6 _ (by omega), (Q5 _ (by omega)).1, Q4 _ (by omega) (by omega) (by omega), ← hσ3, z_I_sA]
  have hq : ∀ q, q < a + 11 → q ≠ a → q ≠ a + 2 → q ≠ a + 4 → q ≠ a + 8 → q ≠ a + 10 → z_I σ7 q = z_I σ4 q := fun q x x0 x2 x4 x8 x10 => by rw [Q7 q x0 (Or.inl x), hc6 _ x10, (Q5 _ x8).1]
  have h8 : z_I σ7 (a + 8) = z_I σ5 (a + 8) := by rw [Q7 _ (by omega) (by omega), hc6 _ (by omega)]
  have h10 : z_I σ7 (a + 10) = va_cpy (z_I σ (c + 10)) (z_I σ (a + 10)) 0 0 (4 * min mv 40) := by rw [Q7 _ (by omega) (by omega), ← hσ6, z_I_sA]
  have c8 : z_I σ4 (c + 8) = z_I σ (c + 8) := (F04.2.2.2 _ (by omega)).1
  have cJ8 : z_J σ4 (c + 8) = z_J σ (c + 8) := (F04.2.2.2 _ (by omega)).2
  have c6 : z_I σ3 (c + 6) = z_I σ (c + 6) := (F03.2.2.2 _ (by omega)).1
  have c7 : z_I σ3 (c + 7) = z_I σ (c + 7) := (F03.2.2.2 _ (by omega)).1
  refine ⟨σ7, ?_, F07, ⟨?_, ?_, ?_, ?_, ?_, rA, ?_, ?_⟩, ?_⟩
  · have L2 := hL2
    have L4c := zLs_eq F05.2.1 F05.2.2.1 hL2
    have ll : f_X2_logLength σ5 c = some (n32 (min mv 40)) := by
      have e0 : z_I σ5 (c + 8) 0 = n32 mv := by rw [(Q5 _ (by omega)).1, c8, rC.1 0 (by decide)]; exact h9
      simp only [f_X2_logLength, ↓zl_eq, ↓zb_eq, ↓zb2_eq, ↓zc_some, ↓zc_none, ↓zb_pre, ↓zb2_pre, ↓zc_pre, ↓zex_eq, ↓reduceIte, Option.isSome_some, Option.isSome_none, Option.getD_some, n32_lit, L4c.1, L4c.2.2.2.2.1, L4c.2.2.2.2.2.2.2.2.2.2.2.2.2.2.2.2.2.2.2.2.2.1, e0]
      congr 1
      by_cases h : 40 < mv
      · rw [if_pos (by rw [n32_lt (by omega) (by omega)]; exact h)]; congr 1; omega
      · rw [if_neg (by rw [n32_lt (by omega) (by omega)]; exact h)]; congr 1; omega
    have eo : ∀ s, zFr a σ s → z_ob s = z_ob σ ∧ z_R s = z_R σ := fun s F => ⟨z_ob_eq F.2.1, F.2.2.1⟩
    have o1 := eo _ F01
    have o2 := eo _ F02
    have o3 := eo _ F03
    have o4 := eo _ F04
    have o5 := eo _ F05
    have o6 := eo _ F06
    have cm : z_I σ1 (c + 2) 1 = n32 (s_nat g 5) := by rw [(F01.2.2.2 _ (by omega)).1, rM.1]; exact h52
    have cm2 : z_I σ2 (c + 2) 1 = n32 (s_nat g 5) := by rw [(F02.2.2.2 _ (by omega)).1, rM.1]; exact h52
    have st1 : f_X3_copyFrom σ1 (a + 2) (c + 2) = some σ3 := by
      have e2 : z_pI σ1 (a + 2) 1 (n32 (s_nat g 5)) = σ2 := by
        rw [z_pI_eq, q1 _ (by omega), ← h52]; exact hσ2
      simp only [f_X3_copyFrom, ↓zl_eq, ↓zb_eq, ↓zb2_eq, ↓zc_some, ↓zc_none, ↓zb_pre, ↓zb2_pre, ↓zc_pre, ↓zex_eq, ↓reduceIte, Option.isSome_some, Option.isSome_none, Option.getD_some, o1.1, o1.2, hL.2.2.2.2.2.2.2.2.1, L2.2.2.2.2.2.2.2.2.1, cm, e2, o2.1, o2.2, hL.2.2.2.2.2.2.2.2.2.1, L2.2.2.2.2.2.2.2.2.2.1, hL.2.2.2.2.2.2.2.2.2.2.1, cm2, T2]
    have st0 : z_pI (z_pI (z_pI (z_pI (z_pI σ a 6 (g 0)) a 7 (g 1)) a 8 (g 2)) a 9 (g 3)) a 10 (g 4) = σ1 := by
      simp only [z_pI_eq, z_sA_sA, z_I_sA]
      rw [← hσ1, ← hF1]
    have rc : ∀ s, z_I (z_sA σ a s) c = z_I σ c := fun s => z_I_sAn _ _ _ (by omega)
    have tt : f_X2_takeTimes σ a c = some (z_pI (z_pI (z_pI σ a 6 (g 0)) a 7 (g 1)) a 8 (g 2)) := by
      simp only [f_X2_takeTimes, ↓zl_eq, ↓zb_eq, ↓zb2_eq, ↓zc_some, ↓zc_none, ↓zb_pre, ↓zb2_pre, ↓zc_pre, ↓zex_eq, ↓reduceIte, Option.isSome_some, Option.isSome_none, Option.getD_some, z_ob_pI, hL.1, L2.1, rL.2.1, z_pI_eq, z_sA_sA, z_I_sA, rc, rL.2.2.1, rL.2.2.2.1, z_ob_sA]
    have k9 : z_I (z_pI (z_pI (z_pI σ a 6 (g 0)) a 7 (g 1)) a 8 (g 2)) c 9 = g 3 := by
      simp only [z_pI_eq, z_sA_sA, rc]; exact rL.2.2.2.2.1
    have k10 : z_I (z_pI (z_pI (z_pI (z_pI σ a 6 (g 0)) a 7 (g 1)) a 8 (g 2)) a 9 (g 3)) c 10 = g 4 := by
      simp only [z_pI_eq, z_sA_sA, rc]; exact rL.2.2.2.2.2
    simp only [f_X2_copyFrom, ↓zl_eq, ↓zb_eq, ↓zb2_eq, ↓zc_some, ↓zc_none, ↓zb_pre, ↓zb2_pre, ↓zc_pre, ↓zex_eq, ↓reduceIte, Option.isSome_some, Option.isSome_none, Option.getD_some, hL.1, L2.1, tt, z_ob_pI, k9, k10, st0, o1.1, o1.2, hL.2.2.1, L2.2.2.1, hL.2.2.2.2.2.2.2.2.1, st1, o3.1, o3.2, hL.2.2.2.1, L2.2.2.2.1, hL.2.2.2.2.2.2.2.2.2.2.2.2.2.2.1, E4, o4.1, o4.2, hL.2.2.2.2.1, L2.2.2.2.2.1, hL.2.2.2.2.2.2.2.2.2.2.2.2.2.2.2.2.2.2.2.2.2.1, E5, o5.1, o5.2, hL.2.2.2.2.2.1, L2.2.2.2.2.2.1, ll, hL.2.2.2.2.2.2.2.2.2.2.2.2.2.2.2.2.2.2.2.2.2.2.1, T5, o6.1, E7]
  · unfold qL
    rw [A7, ha, ← hF1]
    simp (disch := omega) only [gu_ne, gu_same, and_self]
  · exact ⟨by rw [hq _ (by omega) (by omega) (by omega) (by omega) (by omega) (by omega), Q4 _ (by omega) (by omega) (by omega), q3 _ (by omega) (by omega) (by omega)]; exact hW.1, by rw [hq _ (by omega) (by omega) (by omega) (by omega) (by omega) (by omega), Q4 _ (by omega) (by omega) (by omega), q3 _ (by omega) (by omega) (by omega)]; exact hW.2⟩
  · refine ⟨by rw [h2, gu_same], fun m w hm hw => ?_⟩
    rw [h4, va_cpy0, if_pos (by omega)]
    exact rM.2 m w hm hw
  · refine ⟨by rw [hq _ (by omega) (by omega) (by omega) (by omega) (by omega) (by omega), N4]; exact h6.symm, fun k hk => ?_⟩
    rw [n6] at hk
    rw [hq _ (by omega) (by omega) (by omega) (by omega) (by omega) (by omega), hq _ (by omega) (by omega) (by omega) (by omega) (by omega) (by omega), (N4' k hk).1, (N4' k hk).2, c6, c7]
    exact rN.2 k (by rw [n6]; exact hk)
  · refine ⟨fun k hk => ?_, ?_, ?_, ?_⟩
    · rw [h8, C5 k (by omega), c8]; exact rC.1 k hk
    · rw [h8, C5 7 (by omega), c8]; exact rC.2.1
    · rw [h8, C5 8 (by omega), c8]; exact rC.2.2.1
    · rw [J7, ← hσ6, z_J_sA, J5, cJ8]; exact rC.2.2.2
  · intro i hi
    have s7 := S7 i hi
    rw [epc i hi] at s7
    rw [s7 0 (by omega), s7 1 (by omega), s7 2 (by omega), s7 3 (by omega), s7 4 (by omega), s7 7 (by omega), s7 8 (by omega)]
    exact rS i hi
  · intro i hi
    have s7 := S7 i hi
    rw [epc i hi] at s7
    obtain ⟨P1, P2, P3, P4⟩ := rQ i hi
    rw [s7 6 (by omega), s7 5 (by omega)]
    refine ⟨P1, P2, fun j hj => ?_, P4⟩
    have := (P4.1 j hj).1
    rw [h4, va_cpy0, if_pos (by omega)]
    exact P3 j hj
  · intro i w hi hw
    have n9 := s_nat_n32 h9 (by omega)
    have old := hG i w hi hw
    rw [n7] at hi
    rw [n7, n9] at old ⊢
    rw [h10, va_cpy0]
    by_cases hlt : mv ≤ 40
    · have : (mv - min mv 40 + i) % 40 = i := by
        have : mv - min mv 40 = 0 := by omega
        rw [this, Nat.zero_add]; exact Nat.mod_eq_of_lt (by omega)
      rw [this] at old ⊢
      rw [if_pos (by omega)]
      exact old
    · have hl2 := Nat.mod_lt (mv - min mv 40 + i) (show 40 > 0 by decide)
      rw [if_pos (by omega)]
      exact old
end CLASS
