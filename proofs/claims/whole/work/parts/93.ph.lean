/-! THE REFERENCE'S ITEMS -/
def z01 (g : zG) : Prop := ∀ x, x < 32 → g (18 + 7 * x + 0) = n32 0 ∨ g (18 + 7 * x + 0) = n32 1
theorem s_sum_cnt {g : zG} (h : z01 g) : ∀ k, k ≤ 32 → s_sum (fun x => g (18 + 7 * x + 0)) k = n32 (s_cnt (s_is g) k)
  | 0, _ => rfl
  | k + 1, hk => by
    have e1 : s_sum (fun x => g (18 + 7 * x + 0)) (k + 1) = s_sum (fun x => g (18 + 7 * x + 0)) k + g (18 + 7 * k + 0) := rfl
    have e2 : s_cnt (s_is g) (k + 1) = s_cnt (s_is g) k + (if s_is g k = true then 1 else 0) := rfl
    rw [e1, e2, s_sum_cnt h k (by omega)]
    rcases h k (by omega) with z | z
    · have e3 : s_is g k = false := by unfold s_is; rw [z]; rfl
      rw [z, e3, n32_add]; rfl
    · have e3 : s_is g k = true := by unfold s_is; rw [z]; rfl
      rw [z, e3, n32_add]; rfl
/-- what reading leaves alone in the reference -/
def zFi (b : Nat) (σ σ' : zSt) : Prop := z_nx σ' = z_nx σ ∧ z_sh σ' = z_sh σ ∧ z_R σ' = z_R σ ∧ z_J σ' = z_J σ ∧ (∀ q, q ≠ b + 118 → q ≠ b + 119 → z_I σ' q = z_I σ q) ∧ (∀ j, j ≠ 7 → j ≠ 8 → j ≠ 9 → z_I σ' (b + 118) j = z_I σ (b + 118) j) ∧ ∀ j, 942 ≤ j → z_I σ' (b + 119) j = z_I σ (b + 119) j
theorem zFi_r (b : Nat) (σ : zSt) : zFi b σ σ := ⟨rfl, rfl, rfl, rfl, fun _ _ _ => rfl, fun _ _ _ _ => rfl, fun _ _ => rfl⟩
theorem zFi_t {b : Nat} {σ σ' σ'' : zSt} (h : zFi b σ σ') (h2 : zFi b σ' σ'') : zFi b σ σ'' :=
  ⟨h2.1.trans h.1, h2.2.1.trans h.2.1, h2.2.2.1.trans h.2.2.1, h2.2.2.2.1.trans h.2.2.2.1, fun q a c => (h2.2.2.2.2.1 q a c).trans (h.2.2.2.2.1 q a c), fun j a c d => (h2.2.2.2.2.2.1 j a c d).trans (h.2.2.2.2.2.1 j a c d), fun j hj => (h2.2.2.2.2.2.2 j hj).trans (h.2.2.2.2.2.2 j hj)⟩
theorem zFi_F {b : Nat} {σ : zSt} {F : zG} (h : ∀ j, j ≠ 7 → j ≠ 8 → j ≠ 9 → F j = z_I σ (b + 118) j) : zFi b σ (z_sA σ (b + 118) F) :=
  ⟨rfl, rfl, rfl, rfl, fun q a _ => z_I_sAn _ _ _ a, fun j a c d => by rw [z_I_sA]; exact h j a c d, fun j _ => by rw [z_I_sAn _ _ _ (by omega)]⟩
theorem zFi_G {b : Nat} {σ : zSt} {G F : zG} (hG : ∀ j, 942 ≤ j → G j = z_I σ (b + 119) j) (h : ∀ j, j ≠ 7 → j ≠ 8 → j ≠ 9 → F j = z_I σ (b + 118) j) : zFi b σ (z_sA (z_sA σ (b + 119) G) (b + 118) F) :=
  ⟨rfl, rfl, rfl, rfl, fun q a c => by rw [z_I_sAn _ _ _ a, z_I_sAn _ _ _ c], fun j a c d => by rw [z_I_sA]; exact h j a c d, fun j hj => by rw [z_I_sAn _ _ _ (by omega), z_I_sA]; exact hG j hj⟩
def zRm (σ : zSt) (b tl : Nat) (tb : Nat → Nat) (g : zG) (p : Nat) (lt : Option Nat) : Prop :=
  zMt σ b tl tb ∧ z_I σ (b + 119) = g ∧ z_I σ (b + 118) 6 = n32 tl ∧ z_I σ (b + 118) 7 = n32 p ∧ z_I σ (b + 118) 9 = s_dv lt ∧ (∀ x, lt = some x → x < 32) ∧ z01 g ∧ g 5 = n32 (s_nat g 5) ∧ 5 * s_nat g 5 ≤ p ∧ p ≤ tl
section MODEL
variable {σ : zSt} {b tl : Nat} {tb : Nat → Nat} {F g : zG} {p : Nat} {lt : Option Nat}
theorem zMt_sA (h : zMt σ b tl tb) {A : Nat} (G : zG) (hA : A ≠ b + 122) : zMt (z_sA σ A G) b tl tb :=
  ⟨h.1, fun j hj => by rw [z_I_sAn _ _ _ (Ne.symm hA)]; exact h.2.1 j hj, h.2.2⟩
theorem z_sA_comm (σ : zSt) {A B : Nat} (h : A ≠ B) (f g : zG) : z_sA (z_sA σ A f) B g = z_sA (z_sA σ B g) A f := by
  unfold z_sA
  congr 1; congr 1; congr 1
  funext x j
  by_cases h1 : x = A
  · by_cases h2 : x = B
    · omega
    · simp [h1, h]
  · by_cases h2 : x = B
    · subst h2; simp [h1]
    · simp [h1, h2]
/-- a message's row, or none: behind the stations' row -/
theorem m_item84 (hM : zMt σ b tl tb) (hg : z_I σ (b + 119) = g) (h52 : g 5 = n32 (s_nat g 5)) (h5 : s_nat g 5 < 100) (f6 : F 6 = n32 tl) (f7 : F 7 = n32 p) (f9 : F 9 = s_dv lt) (hlt : ∀ x, lt = some x → x < 32) (hp : p < 700) :
    (s_byte tb tl p 109 = false ∨ lt = none → f_X10_readsItem_84 (z_sA σ (b + 118) F) (b + 118) (n32 (p + 1)) = some (n32 0, z_sA σ (b + 118) F)) ∧
    (s_byte tb tl p 109 = true → ∀ x, lt = some x →
      (∀ e, s_num2 tb tl (p + 1) = (none, e) → ∃ F', f_X10_readsItem_84 (z_sA σ (b + 118) F) (b + 118) (n32 (p + 1)) = some (n32 0, z_sA σ (b + 118) F') ∧ F' 7 = n32 e ∧ ∀ j, j ≠ 7 → j ≠ 8 → F' j = F j) ∧
      (∀ l q, s_num2 tb tl (p + 1) = (some l, q) → (¬ (1 ≤ l ∧ l ≤ 20) → ∃ F', f_X10_readsItem_84 (z_sA σ (b + 118) F) (b + 118) (n32 (p + 1)) = some (n32 0, z_sA σ (b + 118) F') ∧ F' 7 = n32 (p + 1) ∧ ∀ j, j ≠ 7 → j ≠ 8 → F' j = F j) ∧
        ((1 ≤ l ∧ l ≤ 20) → (s_byte tb tl q 44 = false → ∃ F', f_X10_readsItem_84 (z_sA σ (b + 118) F) (b + 118) (n32 (p + 1)) = some (n32 0, z_sA σ (b + 118) F') ∧ F' 7 = n32 q ∧ ∀ j, j ≠ 7 → j ≠ 8 → F' j = F j) ∧
          (s_byte tb tl q 44 = true → (s_dg tb tl (q + 1) = none → ∃ F', f_X10_readsItem_84 (z_sA σ (b + 118) F) (b + 118) (n32 (p + 1)) = some (n32 0, z_sA σ (b + 118) F') ∧ F' 7 = n32 (q + 1) ∧ ∀ j, j ≠ 7 → j ≠ 8 → F' j = F j) ∧
            (∀ u, s_dg tb tl (q + 1) = some u → ∃ F', f_X10_readsItem_84 (z_sA σ (b + 118) F) (b + 118) (n32 (p + 1)) = some (bi (s_byte tb tl (q + 2) 59), z_sA (z_sA σ (b + 119) (s_gives g (s_nat g 5) (n32 x) (n32 l) (n32 u))) (b + 118) F') ∧ F' 7 = n32 (if s_byte tb tl (q + 2) 59 = true then q + 3 else q + 2) ∧ ∀ j, j ≠ 7 → j ≠ 8 → F' j = F j))))) := by
  have o := hM.1.1
  have f4 : b + 118 + 4 = b + 122 := rfl
  have m1 := hM.1
  unfold zMs at m1
  rw [f4] at m1
  have n10' : (n32 1 = n32 0) = False := eq_false nn10
  have P := m_passesByte hM f6 f7 (show p < 1000 by omega) (c := 109) (by omega)
  constructor
  · intro hc
    cases lt with
    | none =>
      have f9' : F 9 = nn := f9
      simp only [f_X10_readsItem_84, f_X10_readsItem_108, ↓zl_eq, ↓zb_eq, ↓zb2_eq, ↓zc_some, ↓zc_none, ↓zb_pre, ↓zb2_pre, ↓zc_pre, ↓zex_eq, ↓reduceIte, Option.isSome_some, Option.isSome_none, Option.getD_some, n32_lit, n32_nn2, z_ob_sA, o, z_I_sA, f9']
    | some x =>
      have hx := hlt x rfl
      have f9' : F 9 = n32 x := f9
      have nx : (n32 x = nn) = False := eq_false (s_nn_ne (by omega))
      have hb : s_byte tb tl p 109 = false := by
        rcases hc with hc | hc
        · exact hc
        · cases hc
      rw [hb, if_neg (by decide)] at P
      simp only [f_X10_readsItem_84, f_X10_readsItem_108, ↓zl_eq, ↓zb_eq, ↓zb2_eq, ↓zc_some, ↓zc_none, ↓zb_pre, ↓zb2_pre, ↓zc_pre, ↓zex_eq, ↓reduceIte, Option.isSome_some, Option.isSome_none, Option.getD_some, n32_lit, n32_nn2, z_ob_sA, o, z_I_sA, f9', nx, P, bf0']
  · intro hb x hx
    subst hx
    have hx := hlt x rfl
    have f9' : F 9 = n32 x := f9
    have nx : (n32 x = nn) = False := eq_false (s_nn_ne (by omega))
    rw [hb, if_pos rfl] at P
    generalize hF1 : gu F 7 (n32 (p + 1)) = F1 at P
    have f16 : F1 6 = n32 tl := by rw [← hF1, gu_ne _ _ (by omega)]; exact f6
    have f17 : F1 7 = n32 (p + 1) := by rw [← hF1, gu_same]
    have f10 : ∀ j, j ≠ 7 → j ≠ 8 → F1 j = F j := fun j h7 _ => by rw [← hF1, gu_ne _ _ h7]
    obtain ⟨RN1, RN2⟩ := m_readsNumber hM f16 f17 (by omega)
    refine ⟨fun e he => ?_, fun l q hl => ?_⟩
    · obtain ⟨F', E, a7, a0⟩ := RN2 e he
      refine ⟨F', ?_, a7, fun j h7 h8 => (a0 j h7 h8).trans (f10 j h7 h8)⟩
      simp only [f_X10_readsItem_84, f_X10_readsItem_108, ↓zl_eq, ↓zb_eq, ↓zb2_eq, ↓zc_some, ↓zc_none, ↓zb_pre, ↓zb2_pre, ↓zc_pre, ↓zex_eq, ↓reduceIte, Option.isSome_some, Option.isSome_none, Option.getD_some, n32_lit, n32_nn2, z_ob_sA, o, z_I_sA, f9', nx, P, bt0', E]
    · obtain ⟨F2, E, a7, a8, a0'⟩ := RN1 l q hl
      obtain ⟨l1, l2, l3, l4⟩ := s_num2_lt hl
      have a0 : ∀ j, j ≠ 7 → j ≠ 8 → F2 j = F j := fun j h7 h8 => (a0' j h7 h8).trans (f10 j h7 h8)
      have a6 : F2 6 = n32 tl := (a0 6 (by omega) (by omega)).trans f6
      have a9 : F2 9 = n32 x := (a0 9 (by omega) (by omega)).trans f9'
      have IN : f_X10_in (z_sA σ (b + 118) F2) (n32 l).toInt64 (Int64.ofNat 1) (Int64.ofNat 20) = some (bi (decide (1 ≤ l ∧ l ≤ 20))) := by
        rw [m_inN _ _ (by omega) (by omega), n32_toInt (by omega)]
        congr 2
        apply decide_eq_decide.2
        omega
      refine ⟨fun hc => ⟨gu F2 7 (n32 (p + 1)), ?_, gu_same _ _ _, fun j h7 h8 => by rw [gu_ne _ _ h7]; exact a0 j h7 h8⟩, fun hc => ?_⟩
      · rw [decide_eq_false hc] at IN
        simp only [f_X10_readsItem_84, ↓zl_eq, ↓zb_eq, ↓zb2_eq, ↓zc_some, ↓zc_none, ↓zb_pre, ↓zb2_pre, ↓zc_pre, ↓zex_eq, ↓reduceIte, Option.isSome_some, Option.isSome_none, Option.getD_some, n32_lit, n32_nn2, i64_lit, z_ob_sA, o, z_I_sA, f9', nx, P, bt0', E, n10', a8, IN, bf0', z_pI_eq, z_sA_sA]
      · rw [decide_eq_true hc] at IN
        have P2 := m_passesByte hM a6 a7 (show q < 1000 by omega) (c := 44) (by omega)
        refine ⟨fun hb2 => ⟨F2, ?_, a7, a0⟩, fun hb2 => ?_⟩
        · rw [hb2, if_neg (by decide)] at P2
          simp only [f_X10_readsItem_84, f_X10_readsItem_153, ↓zl_eq, ↓zb_eq, ↓zb2_eq, ↓zc_some, ↓zc_none, ↓zb_pre, ↓zb2_pre, ↓zc_pre, ↓zex_eq, ↓reduceIte, Option.isSome_some, Option.isSome_none, Option.getD_some, n32_lit, n32_nn2, i64_lit, z_ob_sA, o, z_I_sA, f9', nx, P, bt0', E, n10', a8, IN, P2, bf0']
        · rw [hb2, if_pos rfl] at P2
          generalize hF3 : gu F2 7 (n32 (q + 1)) = F3 at P2
          have c6 : F3 6 = n32 tl := by rw [← hF3, gu_ne _ _ (by omega)]; exact a6
          have c7 : F3 7 = n32 (q + 1) := by rw [← hF3, gu_same]
          have c9 : F3 9 = n32 x := by rw [← hF3, gu_ne _ _ (by omega)]; exact a9
          have c0 : ∀ j, j ≠ 7 → j ≠ 8 → F3 j = F j := fun j h7 h8 => by rw [← hF3, gu_ne _ _ h7]; exact a0 j h7 h8
          have IF := m_isFigure hM c6 c7 (by omega)
          refine ⟨fun hd => ⟨F3, ?_, c7, c0⟩, fun u hd => ?_⟩
          · rw [hd] at IF
            have IF' : f_X10_isFigure (z_sA σ (b + 118) F3) (b + 118) = some (n32 0) := IF
            simp only [f_X10_readsItem_84, f_X10_readsItem_153, ↓zl_eq, ↓zb_eq, ↓zb2_eq, ↓zc_some, ↓zc_none, ↓zb_pre, ↓zb2_pre, ↓zc_pre, ↓zex_eq, ↓reduceIte, Option.isSome_some, Option.isSome_none, Option.getD_some, n32_lit, n32_nn2, i64_lit, z_ob_sA, o, z_I_sA, f9', nx, P, bt0', E, n10', a8, IN, P2, IF']
          · rw [hd] at IF
            have IF' : f_X10_isFigure (z_sA σ (b + 118) F3) (b + 118) = some (n32 1) := IF
            have dl := s_dg_lt hd
            have i1 : z_I (z_sA σ (b + 118) F3) (b + 122) = z_I σ (b + 122) := z_I_sAn _ _ _ (by omega)
            have hv := hM.2.1 (q + 1) dl.1
            have h120 := hM.2.2.1
            have eu : n32 (u + 48) - n32 48 = n32 u := by rw [n32_sub (by omega)]; congr 1
            have f1 : b + 118 + 1 = b + 119 := rfl
            have gg : z_I (z_sA σ (b + 118) F3) (b + 118 + 1) = g := by rw [z_I_sAn _ _ _ (by omega)]; exact hg
            have GV := m_gives (σ := z_sA σ (b + 118) F3) (M := b + 118) hM.1 (q := s_nat g 5) (by rw [gg]; exact h52) h5 (n32 x) (n32 l) (n32 u)
            rw [gg, f1, z_sA_comm _ (by omega)] at GV
            generalize hσ4 : z_sA σ (b + 119) (s_gives g (s_nat g 5) (n32 x) (n32 l) (n32 u)) = σ4 at GV ⊢
            have hM4 : zMt σ4 b tl tb := by rw [← hσ4]; exact zMt_sA hM _ (by omega)
            have o4 : z_ob σ4 (b + 118) 9 = true := hM4.1.1
            generalize hF4 : gu F3 7 (n32 (q + 2)) = F4
            have d6 : F4 6 = n32 tl := by rw [← hF4, gu_ne _ _ (by omega)]; exact c6
            have d7 : F4 7 = n32 (q + 2) := by rw [← hF4, gu_same]
            have d0 : ∀ j, j ≠ 7 → j ≠ 8 → F4 j = F j := fun j h7 h8 => by rw [← hF4, gu_ne _ _ h7]; exact c0 j h7 h8
            have ea : n32 (q + 1) + n32 1 = n32 (q + 2) := n32_add _ _
            have P3 := m_passesByte hM4 d6 d7 (show q + 2 < 1000 by omega) (c := 59) (by omega)
            have e23 : q + 2 + 1 = q + 3 := rfl
            rw [e23] at P3
            refine ⟨if s_byte tb tl (q + 2) 59 = true then gu F4 7 (n32 (q + 3)) else F4, ?_, ?_, fun j h7 h8 => ?_⟩
            · simp (disch := omega) only [f_X10_readsItem_84, ↓zl_eq, ↓zb_eq, ↓zb2_eq, ↓zc_some, ↓zc_none, ↓zb_pre, ↓zb2_pre, ↓zc_pre, ↓zex_eq, ↓reduceIte, Option.isSome_some, Option.isSome_none, Option.getD_some, n32_lit, n32_nn2, i64_lit, z_ob_sA, z_R_sA, z_ar_sA, z_ln_sA, o, z_I_sA, f9', nx, P, bt0', E, n10', a8, IN, P2, IF', m1.2.2.2.2.1, m1.2.2.2.2.2.2.2.2.1, m1.2.2.2.2.2.2.2.2.2.2.2.2, c7, c9, n32_ix, n32_toNat, i1, hv, dl.2.2, eu, GV, o4, ea, z_pI_eq, z_sA_sA, hF4, P3, bi_bl]
            · split
              · rw [gu_same]
              · exact d7
            · split
              · rw [gu_ne _ _ h7]; exact d0 j h7 h8
              · exact d0 j h7 h8
end MODEL
