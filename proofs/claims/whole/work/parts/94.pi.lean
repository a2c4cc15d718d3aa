section MODEL
variable {σ : zSt} {b tl : Nat} {tb : Nat → Nat} {F g : zG} {p : Nat} {lt : Option Nat}
theorem z01_adds (h : z01 g) {x : Nat} (hx : x < 32) : z01 (s_adds g x) := by
  intro y hy
  by_cases hyx : y = x
  · subst hyx
    right
    unfold s_adds
    simp (disch := omega) only [gu_ne, gu_same]
  · rw [s_adds_ne _ _ (by omega)]; exact h y hy
theorem z01_gives (h : z01 g) {q : Nat} (x L U : Int32) : z01 (s_gives g q x L U) := by
  intro y hy
  rw [s_gives_ne _ _ _ _ _ (by omega) (by omega)]; exact h y hy
/-- AN ITEM: as the function says -/
theorem m_item (h : zRm σ b tl tb g p lt) (hp1 : p < tl) :
    (∀ e, s_item tb tl g p lt = .inl e → ∃ σ', f_X10_readsItem σ (b + 118) = some (n32 0, σ') ∧ zFi b σ σ' ∧ z_I σ' (b + 118) 7 = n32 e) ∧
    (∀ g' p' lt', s_item tb tl g p lt = .inr (g', p', lt') → ∃ σ', f_X10_readsItem σ (b + 118) = some (n32 1, σ') ∧ zFi b σ σ' ∧ zRm σ' b tl tb g' p' lt' ∧ p < p') := by
  obtain ⟨hM, hg, e6, e7, e9, hlt, hz, h52, h5, hp⟩ := h
  have h120 := hM.2.2.1
  have o := hM.1.1
  have q100 : s_nat g 5 < 100 := by omega
  have f1 : b + 118 + 1 = b + 119 := rfl
  have idσ : z_sA σ (b + 118) (z_I σ (b + 118)) = σ := z_sA_id σ _
  have ST : f_X10_stations σ (b + 118) = some (n32 (s_cnt (s_is g) 32)) := by
    rw [m_stations hM.1, f1, hg, s_sum_cnt hz 32 (Nat.le_refl _)]
  have hcnt : s_cnt (s_is g) 32 ≤ 32 := s_cnt_le _ _
  obtain ⟨A1, A2⟩ := m_item84 hM hg h52 q100 e6 e7 e9 hlt (show p < 700 by omega)
  rw [idσ] at A1 A2
  have P := m_passesByte hM e6 e7 (show p < 1000 by omega) (c := 115) (by omega)
  rw [idσ] at P
  have n10' : (n32 1 = n32 0) = False := eq_false nn10
  -- the message's side
  have MSG : (f_X10_readsItem σ (b + 118) = f_X10_readsItem_84 σ (b + 118) (n32 (p + 1))) → ¬ (s_byte tb tl p 115 = true ∧ s_cnt (s_is g) 32 < 8) →
      (∀ e, s_item tb tl g p lt = .inl e → ∃ σ', f_X10_readsItem σ (b + 118) = some (n32 0, σ') ∧ zFi b σ σ' ∧ z_I σ' (b + 118) 7 = n32 e) ∧
      (∀ g' p' lt', s_item tb tl g p lt = .inr (g', p', lt') → ∃ σ', f_X10_readsItem σ (b + 118) = some (n32 1, σ') ∧ zFi b σ σ' ∧ zRm σ' b tl tb g' p' lt' ∧ p < p') := by
    intro hR hns
    rw [hR]
    unfold s_item
    rw [if_neg hns]
    by_cases hm : s_byte tb tl p 109 = true
    · rw [if_pos hm]
      cases lt with
      | none =>
        refine ⟨fun e he => ⟨σ, ?_, zFi_r b σ, ?_⟩, fun g' p' lt' he => by simp at he⟩
        · have := A1 (Or.inr rfl)
          exact this
        · simp only [Sum.inl.injEq] at he
          rw [← he]; exact e7
      | some x =>
        obtain ⟨B1, B2⟩ := A2 hm x rfl
        have hx := hlt x rfl
        have e9' : z_I σ (b + 118) 9 = n32 x := e9
        have fi : ∀ F' : zG, (∀ j, j ≠ 7 → j ≠ 8 → F' j = z_I σ (b + 118) j) → zFi b σ (z_sA σ (b + 118) F') := fun F' hF => zFi_F (fun j a c _ => hF j a c)
        show (∀ e, (match s_num2 tb tl (p + 1) with
          | (none, e) => (.inl e : Nat ⊕ (zG × Nat × Option Nat))
          | (some l, q) => if ¬ (1 ≤ l ∧ l ≤ 20) then .inl (p + 1) else if s_byte tb tl q 44 = true then
              match s_dg tb tl (q + 1) with
              | none => .inl (q + 1)
              | some u => if s_byte tb tl (q + 2) 59 = true then .inr (s_gives g (s_nat g 5) (n32 x) (n32 l) (n32 u), q + 3, some x) else .inl (q + 2)
            else .inl q) = .inl e → _) ∧ ∀ g' p' lt', (match s_num2 tb tl (p + 1) with
          | (none, e) => (.inl e : Nat ⊕ (zG × Nat × Option Nat))
          | (some l, q) => if ¬ (1 ≤ l ∧ l ≤ 20) then .inl (p + 1) else if s_byte tb tl q 44 = true then
              match s_dg tb tl (q + 1) with
              | none => .inl (q + 1)
              | some u => if s_byte tb tl (q + 2) 59 = true then .inr (s_gives g (s_nat g 5) (n32 x) (n32 l) (n32 u), q + 3, some x) else .inl (q + 2)
            else .inl q) = .inr (g', p', lt') → _
        cases hnum : s_num2 tb tl (p + 1) with
        | mk v q =>
          cases v with
          | none =>
            refine ⟨fun e he => ?_, fun g' p' lt' he => by simp at he⟩
            obtain ⟨F', E, a7, a0⟩ := B1 q hnum
            simp only [Sum.inl.injEq] at he
            exact ⟨_, E, fi F' a0, by rw [z_I_sA, a7, he]⟩
          | some l =>
            have C := B2 l q hnum
            obtain ⟨l1, l2, l3, l4⟩ := s_num2_lt hnum
            by_cases hl : 1 ≤ l ∧ l ≤ 20
            · simp only [if_neg (not_not_intro hl)]
              obtain ⟨D1, D2⟩ := C.2 hl
              cases hb2 : s_byte tb tl q 44 with
              | false =>
                refine ⟨fun e he => ?_, fun g' p' lt' he => by simp at he⟩
                obtain ⟨F', E, a7, a0⟩ := D1 hb2
                simp only [Bool.false_eq_true, if_false, Sum.inl.injEq] at he
                exact ⟨_, E, fi F' a0, by rw [z_I_sA, a7, he]⟩
              | true =>
                simp only [if_true]
                obtain ⟨E1, E2⟩ := D2 hb2
                cases hd : s_dg tb tl (q + 1) with
                | none =>
                  refine ⟨fun e he => ?_, fun g' p' lt' he => by simp at he⟩
                  obtain ⟨F', E, a7, a0⟩ := E1 hd
                  simp only [Sum.inl.injEq] at he
                  exact ⟨_, E, fi F' a0, by rw [z_I_sA, a7, he]⟩
                | some u =>
                  obtain ⟨F', E, a7, a0⟩ := E2 u hd
                  have Gf : ∀ j, 942 ≤ j → s_gives g (s_nat g 5) (n32 x) (n32 l) (n32 u) j = z_I σ (b + 119) j := fun j hj => by
                    rw [s_gives_ne _ _ _ _ _ (by omega) (by omega), hg]
                  have FI : zFi b σ (z_sA (z_sA σ (b + 119) (s_gives g (s_nat g 5) (n32 x) (n32 l) (n32 u))) (b + 118) F') := zFi_G Gf (fun j a c _ => a0 j a c)
                  cases hb3 : s_byte tb tl (q + 2) 59 with
                  | false =>
                    rw [hb3] at E a7
                    refine ⟨fun e he => ?_, fun g' p' lt' he => by simp at he⟩
                    simp only [Bool.false_eq_true, if_false, Sum.inl.injEq] at he a7
                    exact ⟨_, E, FI, by rw [z_I_sA, a7, he]⟩
                  | true =>
                    rw [hb3] at E a7
                    have hq := s_byte_lt hb3
                    refine ⟨fun e he => by simp at he, fun g' p' lt' he => ?_⟩
                    simp only [if_true, Sum.inr.injEq, Prod.mk.injEq] at he a7
                    obtain ⟨rfl, rfl, rfl⟩ := he
                    have n5 := s_gives_n5 (g := g) (x := x) (L := n32 l) (U := n32 u) q100
                    refine ⟨_, E, FI, ⟨zMt_sA (zMt_sA hM _ (by omega)) _ (by omega), by rw [z_I_sAn _ _ _ (by omega), z_I_sA], by rw [z_I_sA, a0 6 (by omega) (by omega)]; exact e6, by rw [z_I_sA]; exact a7, by rw [z_I_sA, a0 9 (by omega) (by omega)]; exact e9, hlt, z01_gives hz _ _ _, by rw [n5]; exact s_gives_5 _ _ _ _ _, by omega, by omega⟩, by omega⟩
            · simp only [if_pos hl]
              refine ⟨fun e he => ?_, fun g' p' lt' he => by simp at he⟩
              obtain ⟨F', E, a7, a0⟩ := C.1 hl
              simp only [Sum.inl.injEq] at he
              exact ⟨_, E, fi F' a0, by rw [z_I_sA, a7, he]⟩
    · rw [if_neg hm]
      have hmf : s_byte tb tl p 109 = false := by simpa using hm
      refine ⟨fun e he => ⟨σ, A1 (Or.inl hmf), zFi_r b σ, ?_⟩, fun g' p' lt' he => by simp at he⟩
      simp only [Sum.inl.injEq] at he
      rw [← he]; exact e7
  by_cases hc8 : s_cnt (s_is g) 32 < 8
  · have nf : (8 ≤ s_cnt (s_is g) 32) = False := eq_false (by omega)
    by_cases hs : s_byte tb tl p 115 = true
    · rw [hs, if_pos rfl] at P
      unfold s_item
      rw [if_pos ⟨hs, hc8⟩]
      generalize hF1 : gu (z_I σ (b + 118)) 7 (n32 (p + 1)) = F1 at P
      have f16 : F1 6 = n32 tl := by rw [← hF1, gu_ne _ _ (by omega)]; exact e6
      have f17 : F1 7 = n32 (p + 1) := by rw [← hF1, gu_same]
      have f10 : ∀ j, j ≠ 7 → F1 j = z_I σ (b + 118) j := fun j h7 => by rw [← hF1, gu_ne _ _ h7]
      obtain ⟨RN1, RN2⟩ := m_readsNumber hM f16 f17 (by omega)
      cases hnum : s_num2 tb tl (p + 1) with
      | mk v q =>
        cases v with
        | none =>
          refine ⟨fun e he => ?_, fun g' p' lt' he => by simp at he⟩
          obtain ⟨F', E, a7, a0⟩ := RN2 q hnum
          simp only [Sum.inl.injEq] at he
          refine ⟨z_sA σ (b + 118) F', ?_, zFi_F (fun j h7 h8 _ => (a0 j h7 h8).trans (f10 j h7)), by rw [z_I_sA, a7, he]⟩
          simp (disch := omega) only [f_X10_readsItem, ↓zl_eq, ↓zb_eq, ↓zb2_eq, ↓zc_some, ↓zc_none, ↓zb_pre, ↓zb2_pre, ↓zc_pre, ↓zex_eq, ↓reduceIte, Option.isSome_some, Option.isSome_none, Option.getD_some, n32_lit, o, e7, n32_add, ST, n32_le, nf, P, bt0', z_ob_sA, E]
        | some x =>
          obtain ⟨F2, E, a7, a8, a0'⟩ := RN1 x q hnum
          obtain ⟨l1, l2, l3, l4⟩ := s_num2_lt hnum
          have a0 : ∀ j, j ≠ 7 → j ≠ 8 → F2 j = z_I σ (b + 118) j := fun j h7 h8 => (a0' j h7 h8).trans (f10 j h7)
          have f54 : f_X10_readsItem_54 (z_sA σ (b + 118) F2) (b + 118) (n32 (p + 1)) = some (n32 0, z_sA σ (b + 118) (gu F2 7 (n32 (p + 1)))) := by
            simp only [f_X10_readsItem_54, ↓zl_eq, ↓zb_eq, ↓zb2_eq, ↓zc_some, ↓zc_none, ↓zb_pre, ↓zb2_pre, ↓zc_pre, ↓zex_eq, ↓reduceIte, Option.isSome_some, Option.isSome_none, Option.getD_some, n32_lit, z_ob_sA, o, z_pI_eq, z_I_sA, z_sA_sA]
          by_cases h32 : 32 ≤ x
          · simp only [if_pos (Or.inl h32 : 32 ≤ x ∨ s_is g x = true)]
            refine ⟨fun e he => ?_, fun g' p' lt' he => by simp at he⟩
            simp only [Sum.inl.injEq] at he
            refine ⟨_, ?_, zFi_F (F := gu F2 7 (n32 (p + 1))) (fun j h7 h8 _ => by rw [gu_ne _ _ h7]; exact a0 j h7 h8), by rw [z_I_sA, gu_same, he]⟩
            simp (disch := omega) only [f_X10_readsItem, ↓zl_eq, ↓zb_eq, ↓zb2_eq, ↓zc_some, ↓zc_none, ↓zb_pre, ↓zb2_pre, ↓zc_pre, ↓zex_eq, ↓reduceIte, Option.isSome_some, Option.isSome_none, Option.getD_some, n32_lit, o, e7, n32_add, ST, n32_le, nf, P, bt0', z_ob_sA, E, n10', z_I_sA, a8, if_pos h32, f54]
          · have IS := m_isSt1 (σ := z_sA σ (b + 118) F2) (M := b + 118) hM.1 (show x < 32 by omega)
            rw [f1, z_I_sAn _ _ _ (by omega), hg] at IS
            by_cases his : s_is g x = true
            · simp only [if_pos (Or.inr his : 32 ≤ x ∨ s_is g x = true)]
              refine ⟨fun e he => ?_, fun g' p' lt' he => by simp at he⟩
              simp only [Sum.inl.injEq] at he
              have his2 : decide (g (18 + 7 * x + 0) = n32 1) = true := his
              rw [his2] at IS
              refine ⟨_, ?_, zFi_F (F := gu F2 7 (n32 (p + 1))) (fun j h7 h8 _ => by rw [gu_ne _ _ h7]; exact a0 j h7 h8), by rw [z_I_sA, gu_same, he]⟩
              simp (disch := omega) only [f_X10_readsItem, ↓zl_eq, ↓zb_eq, ↓zb2_eq, ↓zc_some, ↓zc_none, ↓zb_pre, ↓zb2_pre, ↓zc_pre, ↓zex_eq, ↓reduceIte, Option.isSome_some, Option.isSome_none, Option.getD_some, n32_lit, o, e7, n32_add, ST, n32_le, nf, P, bt0', z_ob_sA, E, n10', z_I_sA, a8, if_neg h32, IS, f54]
            · simp only [if_neg (fun h => h.elim h32 his : ¬ (32 ≤ x ∨ s_is g x = true))]
              have his2 : decide (g (18 + 7 * x + 0) = n32 1) = false := by
                have h9 : ¬ decide (g (18 + 7 * x + 0) = n32 1) = true := his
                simpa using h9
              rw [his2] at IS
              generalize hF3 : gu F2 9 (n32 x) = F3
              have c6 : F3 6 = n32 tl := by rw [← hF3, gu_ne _ _ (by omega), a0 6 (by omega) (by omega)]; exact e6
              have c7 : F3 7 = n32 q := by rw [← hF3, gu_ne _ _ (by omega)]; exact a7
              have c8 : F3 8 = n32 x := by rw [← hF3, gu_ne _ _ (by omega)]; exact a8
              have c9 : F3 9 = n32 x := by rw [← hF3, gu_same]
              have c0 : ∀ j, j ≠ 7 → j ≠ 8 → j ≠ 9 → F3 j = z_I σ (b + 118) j := fun j h7 h8 h9 => by rw [← hF3, gu_ne _ _ h9]; exact a0 j h7 h8
              have AD := m_adds (σ := z_sA σ (b + 118) F3) (M := b + 118) hM.1 (x := x) (by omega)
              have gg : z_I (z_sA σ (b + 118) F3) (b + 118 + 1) = g := by rw [z_I_sAn _ _ _ (by omega)]; exact hg
              rw [gg] at AD
              have AD2 : f_X10_adds (z_sA σ (b + 118) F3) (b + 118) (n32 x) = some (z_sA (z_sA σ (b + 118) F3) (b + 119) (s_adds g x)) := AD
              rw [z_sA_comm _ (by omega)] at AD2
              have Gf : ∀ j, 942 ≤ j → s_adds g x j = z_I σ (b + 119) j := fun j hj => by rw [s_adds_ne _ _ (by omega), hg]
              generalize hσ4 : z_sA σ (b + 119) (s_adds g x) = σ4 at AD2
              have hM4 : zMt σ4 b tl tb := by rw [← hσ4]; exact zMt_sA hM _ (by omega)
              have o4 : z_ob σ4 (b + 118) 9 = true := hM4.1.1
              have P3 := m_passesByte hM4 c6 c7 (show q < 1000 by omega) (c := 59) (by omega)
              have RI : f_X10_readsItem σ (b + 118) = some (bi (s_byte tb tl q 59), z_sA σ4 (b + 118) (if s_byte tb tl q 59 = true then gu F3 7 (n32 (q + 1)) else F3)) := by
                simp (disch := omega) only [f_X10_readsItem, ↓zl_eq, ↓zb_eq, ↓zb2_eq, ↓zc_some, ↓zc_none, ↓zb_pre, ↓zb2_pre, ↓zc_pre, ↓zex_eq, ↓reduceIte, Option.isSome_some, Option.isSome_none, Option.getD_some, n32_lit, o, e7, n32_add, ST, n32_le, nf, P, bt0', z_ob_sA, E, n10', z_I_sA, a8, if_neg h32, IS, bf0', z_pI_eq, z_sA_sA, hF3, c8, AD2, o4, P3, bi_bl]
              have FI : ∀ F' : zG, (∀ j, j ≠ 7 → j ≠ 8 → j ≠ 9 → F' j = z_I σ (b + 118) j) → zFi b σ (z_sA σ4 (b + 118) F') := fun F' hF => by rw [← hσ4]; exact zFi_G Gf hF
              rw [RI]
              cases hb3 : s_byte tb tl q 59 with
              | false =>
                refine ⟨fun e he => ?_, fun g' p' lt' he => by simp at he⟩
                simp only [Bool.false_eq_true, if_false, Sum.inl.injEq] at he
                exact ⟨_, rfl, FI _ (by simp only [Bool.false_eq_true, if_false]; exact c0), by rw [z_I_sA, if_neg (by decide), c7, he]⟩
              | true =>
                have hq := s_byte_lt hb3
                refine ⟨fun e he => by simp at he, fun g' p' lt' he => ?_⟩
                simp only [if_true, Sum.inr.injEq, Prod.mk.injEq] at he
                obtain ⟨rfl, rfl, rfl⟩ := he
                have n5 : s_nat (s_adds g x) 5 = s_nat g 5 := by unfold s_nat; rw [s_adds_ne _ _ (by omega)]
                refine ⟨_, rfl, FI _ (by simp only [if_true]; exact fun j h7 h8 h9 => by rw [gu_ne _ _ h7]; exact c0 j h7 h8 h9), ⟨zMt_sA hM4 _ (by omega), ?_, ?_, ?_, ?_, fun y hy => ?_, z01_adds hz (by omega), ?_, by omega, by omega⟩, by omega⟩
                · rw [z_I_sAn _ _ _ (by omega), ← hσ4, z_I_sA]
                · rw [z_I_sA, if_pos rfl, gu_ne _ _ (by omega)]; exact c6
                · rw [z_I_sA, if_pos rfl, gu_same]
                · rw [z_I_sA, if_pos rfl, gu_ne _ _ (by omega)]; exact c9
                · have : x = y := Option.some.inj hy
                  omega
                · rw [n5, s_adds_ne _ _ (by omega)]; exact h52
    · have hsf : s_byte tb tl p 115 = false := by simpa using hs
      rw [hsf, if_neg (by decide), idσ] at P
      refine MSG ?_ (fun h => hs h.1)
      simp (disch := omega) only [f_X10_readsItem, ↓zl_eq, ↓zb_eq, ↓zb2_eq, ↓zc_some, ↓zc_none, ↓zb_pre, ↓zb2_pre, ↓zc_pre, ↓zex_eq, ↓reduceIte, Option.isSome_some, Option.isSome_none, Option.getD_some, n32_lit, o, e7, n32_add, ST, n32_le, nf, P, bf0']
  · have nf : (8 ≤ s_cnt (s_is g) 32) = True := eq_true (by omega)
    refine MSG ?_ (fun h => hc8 h.2)
    simp (disch := omega) only [f_X10_readsItem, ↓zl_eq, ↓zb_eq, ↓zb2_eq, ↓zc_some, ↓zc_none, ↓zb_pre, ↓zb2_pre, ↓zc_pre, ↓zex_eq, ↓reduceIte, Option.isSome_some, Option.isSome_none, Option.getD_some, n32_lit, o, e7, n32_add, ST, n32_le, nf]
theorem m_items : ∀ (f k : Nat) (σ : zSt) (g : zG) (p : Nat) (lt : Option Nat), zRm σ b tl tb g p lt → tl < p + f → ∀ N, f ≤ N →
    (∀ e, s_loop tb tl f k g p lt = .inl e → ∃ σ1, zFi b σ σ1 ∧ zloop (fun (t : zSt × Int32) => b_X10_parse_50 (b + 118) t.1 t.2) N (σ, n32 k) = some (-10 - n32 e, z_sA σ1 (b + 119) (s_cp (z_I σ (b + 121)) (z_I σ1 (b + 119)) 942))) ∧
    (∀ m g', s_loop tb tl f k g p lt = .inr (m, g') → ∃ σ1, zFi b σ σ1 ∧ z_I σ1 (b + 119) = g' ∧ ∀ out, f_X10_parse_88 (b + 118) (n32 m) σ1 (n32 0) = some out → zloop (fun (t : zSt × Int32) => b_X10_parse_50 (b + 118) t.1 t.2) N (σ, n32 k) = some out) := by
  intro f
  induction f with
  | zero =>
    intro k σ g p lt h hf
    have := h.2.2.2.2.2.2.2.2.2
    omega
  | succ f ih =>
    intro k σ g p lt h hf N hN
    obtain ⟨N, rfl⟩ : ∃ N', N = N' + 1 := ⟨N - 1, by omega⟩
    have hC := h
    obtain ⟨hM, hg, e6, e7, e9, hlt, hz, h52, h5, hp⟩ := hC
    have h120 := hM.2.2.1
    have o := hM.1.1
    unfold s_loop
    by_cases hc : tl ≤ p
    · rw [if_pos hc]
      refine ⟨fun e he => by simp at he, fun m g' he => ?_⟩
      simp only [Sum.inr.injEq, Prod.mk.injEq] at he
      obtain ⟨rfl, rfl⟩ := he
      refine ⟨σ, zFi_r b σ, hg, fun out hout => zloop_r ?_⟩
      show b_X10_parse_50 (b + 118) σ (n32 k) = _
      simp (disch := omega) only [b_X10_parse_50, ↓zl_eq, ↓zb_eq, ↓zb2_eq, ↓zc_some, ↓zc_none, ↓zb_pre, ↓zb2_pre, ↓zc_pre, ↓zex_eq, ↓reduceIte, Option.isSome_some, Option.isSome_none, Option.getD_some, n32_lit, o, e6, e7, n32_le, if_pos hc, hout]
    · rw [if_neg hc]
      obtain ⟨I1, I2⟩ := m_item h (by omega)
      have n10' : (n32 1 = n32 0) = False := eq_false nn10
      cases hx : s_item tb tl g p lt with
      | inl e =>
        refine ⟨fun e' he => ?_, fun m g' he => by simp at he⟩
        simp only [Sum.inl.injEq] at he
        subst he
        obtain ⟨σ1, E, FI, e7'⟩ := I1 e hx
        have hM1 : zMs σ1 (b + 118) := by
          have := hM.1
          unfold zMs at this ⊢
          rw [z_ob_eq FI.2.1, z_ar_eq FI.2.1, z_ln_eq FI.2.1, FI.2.2.1]
          exact this
        have TB := m_takesBack hM1
        have f1 : b + 118 + 1 = b + 119 := rfl
        have f3 : b + 118 + 3 = b + 121 := rfl
        rw [f1, f3, FI.2.2.2.2.1 (b + 121) (by omega) (by omega)] at TB
        refine ⟨σ1, FI, zloop_r ?_⟩
        show b_X10_parse_50 (b + 118) σ (n32 k) = _
        have o1 := hM1.1
        have i7 : z_I (z_sA σ1 (b + 119) (s_cp (z_I σ (b + 121)) (z_I σ1 (b + 119)) 942)) (b + 118) 7 = n32 e := by rw [z_I_sAn _ _ _ (by omega)]; exact e7'
        have n10n : (-10 : Int32) = -n32 10 := rfl
        rw [n10n]
        simp (disch := omega) only [b_X10_parse_50, ↓zl_eq, ↓zb_eq, ↓zb2_eq, ↓zc_some, ↓zc_none, ↓zb_pre, ↓zb2_pre, ↓zc_pre, ↓zex_eq, ↓reduceIte, Option.isSome_some, Option.isSome_none, Option.getD_some, n32_lit, o, e6, e7, n32_le, if_neg hc, E, o1, TB, z_ob_sA, i7]
      | inr t =>
        obtain ⟨g', p', lt'⟩ := t
        obtain ⟨σ', E, FI, R, a1⟩ := I2 g' p' lt' hx
        obtain ⟨J1, J2⟩ := ih (k + 1) σ' g' p' lt' R (by omega) N (by omega)
        have st : zloop (fun (t : zSt × Int32) => b_X10_parse_50 (b + 118) t.1 t.2) (N + 1) (σ, n32 k) = zloop (fun (t : zSt × Int32) => b_X10_parse_50 (b + 118) t.1 t.2) N (σ', n32 (k + 1)) := by
          refine zloop_l ?_
          show b_X10_parse_50 (b + 118) σ (n32 k) = _
          simp (disch := omega) only [b_X10_parse_50, ↓zl_eq, ↓zb_eq, ↓zb2_eq, ↓zc_some, ↓zc_none, ↓zb_pre, ↓zb2_pre, ↓zc_pre, ↓zex_eq, ↓reduceIte, Option.isSome_some, Option.isSome_none, Option.getD_some, n32_lit, o, e6, e7, n32_le, if_neg hc, E, n10', n32_add]
        have i121 : z_I σ' (b + 121) = z_I σ (b + 121) := FI.2.2.2.2.1 _ (by omega) (by omega)
        rw [st]
        rw [i121] at J1
        refine ⟨fun e he => ?_, fun m g'' he => ?_⟩
        · obtain ⟨σ2, b1, b2⟩ := J1 e he
          exact ⟨σ2, zFi_t FI b1, b2⟩
        · obtain ⟨σ2, b1, b2, b3⟩ := J2 m g'' he
          exact ⟨σ2, zFi_t FI b1, b2, b3⟩
end MODEL
