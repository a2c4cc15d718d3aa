section CLASS
variable {σ : zSt} {b r tl n : Nat} {tb : Nat → Nat} {F g : zG} {p : Nat} {lt : Option Nat} {B V : Nat}
/-- AN ITEM: as the function says -/
theorem c_item (h : zRc σ b r tl tb g p lt) (hI : s_I g B V) (h5 : 5 * s_nat g 5 ≤ p) (hp : p ≤ tl) :
    (∀ e, s_item tb tl g p lt = .inl e → ∃ F', f_X5_readItem σ r = some (n32 0, z_sA σ r F') ∧ F' 5 = n32 e) ∧
    (∀ g' p' lt', s_item tb tl g p lt = .inr (g', p', lt') → ∃ σ', f_X5_readItem σ r = some (n32 1, σ') ∧ zFp b r σ σ' ∧ zRc σ' b r tl tb g' p' lt' ∧ p < p' ∧ p' ≤ tl ∧ s_I g' B V ∧ 5 * s_nat g' 5 ≤ p') := by
  obtain ⟨hb, e1, e3, pl, ad, qu, n, h0, hG, hT⟩ := h
  have o := hb.1
  have r2 := hb.2.2.1
  have hr := hb.2.2.2.2.2.2.1
  have h120 := hb.2.2.2.2.2.2.2.1
  have hbt := hb.2.2.2.2.2.2.2.2
  have ot := h0.1.1
  have en := s_cnt_n (c_qA h0)
  have full := c_isFull h0
  have idσ : z_sA σ r (z_I σ r) = σ := z_sA_id σ r
  have S := c_sign hb e1 e3 (show p < 1000 by omega)
  rw [idσ] at S
  have n115 : (nn = n32 115) = False := eq_false (by decide)
  have n109 : (nn = n32 109) = False := eq_false (by decide)
  have fa : f_X5_readItem_64 σ r = some (n32 0, z_sA σ r (gu (z_I σ r) 5 (n32 p))) := by
    simp only [f_X5_readItem_64, f_X5_failsAt, ↓zl_eq, ↓zb_eq, ↓zb2_eq, ↓zc_some, ↓zc_none, ↓zb_pre, ↓zb2_pre, ↓zc_pre, ↓zex_eq, ↓reduceIte, Option.isSome_some, Option.isSome_none, Option.getD_some, n32_lit, o, e3, z_pI_eq, bl0]
  generalize hF1 : gu (z_I σ r) 3 (n32 (p + 1)) = F1
  have f11 : F1 1 = n32 tl := by rw [← hF1, gu_ne _ _ (by omega)]; exact e1
  have f13 : F1 3 = n32 (p + 1) := by rw [← hF1, gu_same]
  have hq100 := (s_I_5 hI).1
  unfold s_item
  by_cases hs : s_byte tb tl p 115 = true
  · obtain ⟨hp1, hc⟩ := s_byte_lt hs
    rw [if_pos hp1, hc] at S
    by_cases hn : n < 8
    · rw [if_pos ⟨hs, by omega⟩]
      rw [decide_eq_true hn] at full
      obtain ⟨A1, A2⟩ := c_readStation hb h0 hG hI f11 f13 (show p + 1 < 800 by omega) hn
      have RI : ∀ ρ, f_X5_readStation (z_sA σ r F1) r = some ρ → z_bl ρ.1 = true → f_X5_readItem σ r = some ρ := fun ρ hρ hbl => by
        simp only [f_X5_readItem, ↓zl_eq, ↓zb_eq, ↓zb2_eq, ↓zc_some, ↓zc_none, ↓zb_pre, ↓zb2_pre, ↓zc_pre, ↓zex_eq, ↓reduceIte, Option.isSome_some, Option.isSome_none, Option.getD_some, n32_lit, o, S, r2, ot, full, bf0', Bool.not_true, e3, n32_add, z_pI_eq, hF1, z_ob_sA, hρ, hbl]
      cases hx : s_num2 tb tl (p + 1) with
      | mk v q =>
        cases v with
        | none =>
          refine ⟨fun e he => ?_, fun g' p' lt' he => by simp at he⟩
          obtain ⟨F', E, hF⟩ := A1 q hx
          simp only [Sum.inl.injEq] at he
          exact ⟨F', RI _ E rfl, by rw [hF, he]⟩
        | some x =>
          obtain ⟨B1, B2⟩ := A2 x q hx
          obtain ⟨l1, l2, l3, l4⟩ := s_num2_lt hx
          by_cases hc1 : 32 ≤ x ∨ s_is g x = true
          · simp only [if_pos hc1]
            refine ⟨fun e he => ?_, fun g' p' lt' he => by simp at he⟩
            obtain ⟨F', E, hF⟩ := B1 hc1
            simp only [Sum.inl.injEq] at he
            exact ⟨F', RI _ E rfl, by rw [hF, he]⟩
          · simp only [if_neg hc1]
            obtain ⟨C1, C2⟩ := B2 hc1
            cases hb2 : s_byte tb tl q 59 with
            | false =>
              refine ⟨fun e he => ?_, fun g' p' lt' he => by simp at he⟩
              obtain ⟨F', E, hF⟩ := C1 hb2
              simp only [Bool.false_eq_true, if_false, Sum.inl.injEq] at he
              exact ⟨F', RI _ E rfl, by rw [hF, he]⟩
            | true =>
              have hq := s_byte_lt hb2
              refine ⟨fun e he => by simp at he, fun g' p' lt' he => ?_⟩
              obtain ⟨σ', E, Fp, R⟩ := C2 hb2
              simp only [if_true, Sum.inr.injEq, Prod.mk.injEq] at he
              obtain ⟨rfl, rfl, rfl⟩ := he
              have hx32 : x < 32 := by
                rcases Nat.lt_or_ge x 32 with h | h
                · exact h
                · exact absurd (Or.inl h) hc1
              have hz : ¬ g (18 + 7 * x + 0) = n32 1 := fun hz => hc1 (Or.inr (by unfold s_is; rw [hz]; rfl))
              have n5 : s_nat (s_adds g x) 5 = s_nat g 5 := by unfold s_nat; rw [s_adds_ne _ _ (by omega)]
              exact ⟨σ', RI _ E rfl, Fp, R, by omega, by omega, s_I_adds hI hx32 hz, by omega⟩
    · rw [if_neg (by omega)]
      rw [decide_eq_false hn] at full
      have hm : s_byte tb tl p 109 = false := by unfold s_byte; rw [hc]; simp
      rw [hm]
      simp only [Bool.false_eq_true, if_false]
      refine ⟨fun e he => ⟨gu (z_I σ r) 5 (n32 p), ?_, ?_⟩, fun g' p' lt' he => by simp at he⟩
      · have n9 : (n32 115 = n32 109) = False := eq_false (by decide)
        simp only [f_X5_readItem, f_X5_readItem_36, ↓zl_eq, ↓zb_eq, ↓zb2_eq, ↓zc_some, ↓zc_none, ↓zb_pre, ↓zb2_pre, ↓zc_pre, ↓zex_eq, ↓reduceIte, Option.isSome_some, Option.isSome_none, Option.getD_some, n32_lit, o, S, r2, ot, full, bt0', Bool.not_false, n9, fa]
      · simp only [Sum.inl.injEq] at he
        rw [gu_same, he]
  · rw [if_neg (fun hc => hs hc.1)]
    have nK : ((if p < tl then n32 (tb p) else nn) = n32 115) = False := eq_false (fun he => by
      by_cases hp1 : p < tl
      · rw [if_pos hp1] at he
        have := hbt p hp1
        rw [n32_eq (by omega) (by omega)] at he
        exact hs (by unfold s_byte; rw [decide_eq_true hp1, decide_eq_true he]; rfl)
      · rw [if_neg hp1, n115] at he
        exact he)
    by_cases hm : s_byte tb tl p 109 = true
    · obtain ⟨hp1, hc⟩ := s_byte_lt hm
      rw [if_pos hp1, hc] at S nK
      rw [if_pos hm]
      cases lt with
      | none =>
        have hT' : z_R σ r 4 = none := hT
        refine ⟨fun e he => ⟨gu (z_I σ r) 5 (n32 p), ?_, ?_⟩, fun g' p' lt' he => by simp at he⟩
        · simp only [f_X5_readItem, f_X5_readItem_36, ↓zl_eq, ↓zb_eq, ↓zb2_eq, ↓zc_some, ↓zc_none, ↓zb_pre, ↓zb2_pre, ↓zc_pre, ↓zex_eq, ↓reduceIte, Option.isSome_some, Option.isSome_none, Option.getD_some, n32_lit, o, S, nK, hT', fa, Bool.false_eq_true]
        · simp only [Sum.inl.injEq] at he
          rw [gu_same, he]
      | some x =>
        obtain ⟨i, hi, hti, rfl⟩ := hT
        have hai := c_ad h0 hi
        obtain ⟨A1, A2⟩ := c_readMessage hb h0 hG hI f11 f13 (show p + 1 < 800 by omega) (by omega) (by omega) hi hti
        have RI : ∀ ρ, f_X5_readMessage (z_sA σ r F1) r = some ρ → z_bl ρ.1 = true → f_X5_readItem σ r = some ρ := fun ρ hρ hbl => by
          simp only [f_X5_readItem, f_X5_readItem_36, ↓zl_eq, ↓zb_eq, ↓zb2_eq, ↓zc_some, ↓zc_none, ↓zb_pre, ↓zb2_pre, ↓zc_pre, ↓zex_eq, ↓reduceIte, Option.isSome_some, Option.isSome_none, Option.getD_some, n32_lit, o, S, nK, hti, e3, n32_add, z_pI_eq, hF1, z_ob_sA, hρ, hbl]
        show (∀ e, (match s_num2 tb tl (p + 1) with
          | (none, e) => (.inl e : Nat ⊕ (zG × Nat × Option Nat))
          | (some l, q) => if ¬ (1 ≤ l ∧ l ≤ 20) then .inl (p + 1) else if s_byte tb tl q 44 = true then
              match s_dg tb tl (q + 1) with
              | none => .inl (q + 1)
              | some u => if s_byte tb tl (q + 2) 59 = true then .inr (s_gives g (s_nat g 5) (n32 (ad i)) (n32 l) (n32 u), q + 3, some (ad i)) else .inl (q + 2)
            else .inl q) = .inl e → _) ∧ ∀ g' p' lt', (match s_num2 tb tl (p + 1) with
          | (none, e) => (.inl e : Nat ⊕ (zG × Nat × Option Nat))
          | (some l, q) => if ¬ (1 ≤ l ∧ l ≤ 20) then .inl (p + 1) else if s_byte tb tl q 44 = true then
              match s_dg tb tl (q + 1) with
              | none => .inl (q + 1)
              | some u => if s_byte tb tl (q + 2) 59 = true then .inr (s_gives g (s_nat g 5) (n32 (ad i)) (n32 l) (n32 u), q + 3, some (ad i)) else .inl (q + 2)
            else .inl q) = .inr (g', p', lt') → _
        cases hx : s_num2 tb tl (p + 1) with
        | mk v q =>
          cases v with
          | none =>
            refine ⟨fun e he => ?_, fun g' p' lt' he => by simp at he⟩
            obtain ⟨F', E, hF⟩ := A1 q hx
            simp only [Sum.inl.injEq] at he
            exact ⟨F', RI _ E rfl, by rw [hF, he]⟩
          | some l =>
            obtain ⟨B1, B2⟩ := A2 l q hx
            obtain ⟨l1, l2, l3, l4⟩ := s_num2_lt hx
            by_cases hl : 1 ≤ l ∧ l ≤ 20
            · simp only [if_neg (not_not_intro hl)]
              obtain ⟨C1, C2⟩ := B2 hl
              cases hb2 : s_byte tb tl q 44 with
              | false =>
                refine ⟨fun e he => ?_, fun g' p' lt' he => by simp at he⟩
                obtain ⟨F', E, hF⟩ := C1 hb2
                simp only [Bool.false_eq_true, if_false, Sum.inl.injEq] at he
                exact ⟨F', RI _ E rfl, by rw [hF, he]⟩
              | true =>
                simp only [if_true]
                obtain ⟨D1, D2⟩ := C2 hb2
                cases hd : s_dg tb tl (q + 1) with
                | none =>
                  refine ⟨fun e he => ?_, fun g' p' lt' he => by simp at he⟩
                  obtain ⟨F', E, hF⟩ := D1 hd
                  simp only [Sum.inl.injEq] at he
                  exact ⟨F', RI _ E rfl, by rw [hF, he]⟩
                | some u =>
                  obtain ⟨E1, E2⟩ := D2 u hd
                  cases hb3 : s_byte tb tl (q + 2) 59 with
                  | false =>
                    refine ⟨fun e he => ?_, fun g' p' lt' he => by simp at he⟩
                    obtain ⟨F', E, hF⟩ := E1 hb3
                    simp only [Bool.false_eq_true, if_false, Sum.inl.injEq] at he
                    exact ⟨F', RI _ E rfl, by rw [hF, he]⟩
                  | true =>
                    have hq := s_byte_lt hb3
                    refine ⟨fun e he => by simp at he, fun g' p' lt' he => ?_⟩
                    obtain ⟨σ', E, Fp, R⟩ := E2 hb3
                    simp only [if_true, Sum.inr.injEq, Prod.mk.injEq] at he
                    obtain ⟨rfl, rfl, rfl⟩ := he
                    have n5 := s_gives_n5 (g := g) (x := ad i) (L := n32 l) (U := n32 u) (show s_nat g 5 < 100 by omega)
                    exact ⟨σ', RI _ E rfl, Fp, R, by omega, by omega, s_I_gives hI (s_I_5 hI).2 (by omega) hai.1 hai.2 hl.1 hl.2 (n32 u), by omega⟩
            · simp only [if_pos hl]
              refine ⟨fun e he => ?_, fun g' p' lt' he => by simp at he⟩
              obtain ⟨F', E, hF⟩ := B1 hl
              simp only [Sum.inl.injEq] at he
              exact ⟨F', RI _ E rfl, by rw [hF, he]⟩
    · rw [if_neg hm]
      have nK2 : ((if p < tl then n32 (tb p) else nn) = n32 109) = False := eq_false (fun he => by
        by_cases hp1 : p < tl
        · rw [if_pos hp1] at he
          have := hbt p hp1
          rw [n32_eq (by omega) (by omega)] at he
          exact hm (by unfold s_byte; rw [decide_eq_true hp1, decide_eq_true he]; rfl)
        · rw [if_neg hp1, n109] at he
          exact he)
      refine ⟨fun e he => ⟨gu (z_I σ r) 5 (n32 p), ?_, ?_⟩, fun g' p' lt' he => by simp at he⟩
      · generalize (if p < tl then n32 (tb p) else nn) = K at S nK nK2
        simp only [f_X5_readItem, f_X5_readItem_36, ↓zl_eq, ↓zb_eq, ↓zb2_eq, ↓zc_some, ↓zc_none, ↓zb_pre, ↓zb2_pre, ↓zc_pre, ↓zex_eq, ↓reduceIte, Option.isSome_some, Option.isSome_none, Option.getD_some, n32_lit, o, S, nK, nK2, fa]
      · simp only [Sum.inl.injEq] at he
        rw [gu_same, he]
end CLASS
/-- all items: how many and the array, or the place of the error -/
def s_loop (tb : Nat → Nat) (tl : Nat) : Nat → Nat → zG → Nat → Option Nat → Nat ⊕ (Nat × zG)
  | 0, k, g, _, _ => .inr (k, g)
  | f + 1, k, g, p, lt => if tl ≤ p then .inr (k, g) else match s_item tb tl g p lt with
    | .inl e => .inl e
    | .inr (g', p', lt') => s_loop tb tl f (k + 1) g' p' lt'
section CLASS
variable {b r tl : Nat} {tb : Nat → Nat} {B V : Nat}
theorem c_items : ∀ (f k : Nat) (σ : zSt) (g : zG) (p : Nat) (lt : Option Nat), zRc σ b r tl tb g p lt → s_I g B V → 5 * s_nat g 5 ≤ p → p ≤ tl → k ≤ p → tl < p + f → ∀ N, f ≤ N →
    (∀ e, s_loop tb tl f k g p lt = .inl e → ∃ σ', zloop (fun (t : zSt × Int32) => b_X5_readItems_2 r t.1 t.2) N (σ, n32 k) = some (nn, σ') ∧ zFp b r σ σ' ∧ z_I σ' r 5 = n32 e ∧ zBl σ' (b + 20)) ∧
    (∀ m g', s_loop tb tl f k g p lt = .inr (m, g') → ∃ σ', zloop (fun (t : zSt × Int32) => b_X5_readItems_2 r t.1 t.2) N (σ, n32 k) = some (n32 m, σ') ∧ zFp b r σ σ' ∧ zLn σ' (b + 20) g' ∧ s_I g' B V ∧ m ≤ 200) := by
  intro f
  induction f with
  | zero => intro k σ g p lt _ _ _ _ _ h; omega
  | succ f ih =>
    intro k σ g p lt h hI h5 hp hk hf N hN
    obtain ⟨N, rfl⟩ : ∃ N', N = N' + 1 := ⟨N - 1, by omega⟩
    have hC := h
    obtain ⟨hb, e1, e3, pl, ad, qu, n, h0, hG, hT⟩ := hC
    have o := hb.1
    have hr := hb.2.2.2.2.2.2.1
    have h120 := hb.2.2.2.2.2.2.2.1
    unfold s_loop
    by_cases hc : tl ≤ p
    · rw [if_pos hc]
      refine ⟨fun e he => by simp at he, fun m g' he => ?_⟩
      simp only [Sum.inr.injEq, Prod.mk.injEq] at he
      obtain ⟨rfl, rfl⟩ := he
      refine ⟨σ, zloop_r ?_, zFp_r b r σ, ⟨pl, ad, qu, n, h0.1, h0.2.1, h0.2.2, hG⟩, hI, by omega⟩
      show b_X5_readItems_2 r σ (n32 k) = _
      simp (disch := omega) only [b_X5_readItems_2, f_X5_readItems_36, ↓zl_eq, ↓zb_eq, ↓zb2_eq, ↓zc_some, ↓zc_none, ↓zb_pre, ↓zb2_pre, ↓zc_pre, ↓zex_eq, ↓reduceIte, Option.isSome_some, Option.isSome_none, Option.getD_some, o, e1, e3, n32_le, if_pos hc, ite_self]
    · rw [if_neg hc]
      obtain ⟨I1, I2⟩ := c_item h hI h5 hp
      have n10' : (n32 1 = n32 0) = False := eq_false nn10
      cases hx : s_item tb tl g p lt with
      | inl e =>
        refine ⟨fun e' he => ?_, fun m g' he => by simp at he⟩
        simp only [Sum.inl.injEq] at he
        subst he
        obtain ⟨F', E, hF⟩ := I1 e hx
        refine ⟨z_sA σ r F', zloop_r ?_, zFp_sA b r σ F', by rw [z_I_sA]; exact hF, zBl_reg (zEq_sA σ F' (by omega)) ⟨h0.1, ⟨pl, h0.2.1⟩, h0.2.2.2.1⟩⟩
        show b_X5_readItems_2 r σ (n32 k) = _
        simp (disch := omega) only [b_X5_readItems_2, ↓zl_eq, ↓zb_eq, ↓zb2_eq, ↓zc_some, ↓zc_none, ↓zb_pre, ↓zb2_pre, ↓zc_pre, ↓zex_eq, ↓reduceIte, Option.isSome_some, Option.isSome_none, Option.getD_some, n32_lit, n32_nn2, o, e1, e3, n32_le, if_neg hc, E]
        rw [if_neg (by omega)]
      | inr t =>
        obtain ⟨g', p', lt'⟩ := t
        obtain ⟨σ', E, Fp, R, a1, a2, a3, a4⟩ := I2 g' p' lt' hx
        obtain ⟨J1, J2⟩ := ih (k + 1) σ' g' p' lt' R a3 a4 a2 (by omega) (by omega) N (by omega)
        have st : zloop (fun (t : zSt × Int32) => b_X5_readItems_2 r t.1 t.2) (N + 1) (σ, n32 k) = zloop (fun (t : zSt × Int32) => b_X5_readItems_2 r t.1 t.2) N (σ', n32 (k + 1)) := by
          refine zloop_l ?_
          show b_X5_readItems_2 r σ (n32 k) = _
          simp (disch := omega) only [b_X5_readItems_2, ↓zl_eq, ↓zb_eq, ↓zb2_eq, ↓zc_some, ↓zc_none, ↓zb_pre, ↓zb2_pre, ↓zc_pre, ↓zex_eq, ↓reduceIte, Option.isSome_some, Option.isSome_none, Option.getD_some, n32_lit, o, e1, e3, n32_le, if_neg hc, E, n10', n32_add]
          rw [if_neg (by omega)]
        rw [st]
        refine ⟨fun e he => ?_, fun m g'' he => ?_⟩
        · obtain ⟨σ2, b1, b2, b3, b4⟩ := J1 e he
          exact ⟨σ2, b1, zFp_t Fp b2, b3, b4⟩
        · obtain ⟨σ2, b1, b2, b3⟩ := J2 m g'' he
          exact ⟨σ2, b1, zFp_t Fp b2, b3⟩
end CLASS
