/-! THE CLASS READS AN ITEM -/
def zFp (b r : Nat) (σ σ' : zSt) : Prop := z_nx σ' = z_nx σ ∧ z_sh σ' = z_sh σ ∧ ∀ q, (q < b + 20 ∨ b + 39 ≤ q) → q ≠ r → z_I σ' q = z_I σ q ∧ z_J σ' q = z_J σ q ∧ z_R σ' q = z_R σ q
theorem zFp_r (b r : Nat) (σ : zSt) : zFp b r σ σ := ⟨rfl, rfl, fun _ _ _ => ⟨rfl, rfl, rfl⟩⟩
theorem zFp_t {b r : Nat} {σ σ' σ'' : zSt} (h : zFp b r σ σ') (h2 : zFp b r σ' σ'') : zFp b r σ σ'' :=
  ⟨h2.1.trans h.1, h2.2.1.trans h.2.1, fun q a c => ⟨(h2.2.2 q a c).1.trans (h.2.2 q a c).1, (h2.2.2 q a c).2.1.trans (h.2.2 q a c).2.1, (h2.2.2 q a c).2.2.trans (h.2.2 q a c).2.2⟩⟩
theorem zFp_sA (b r : Nat) (σ : zSt) (F : zG) : zFp b r σ (z_sA σ r F) := ⟨rfl, rfl, fun q _ c => ⟨z_I_sAn _ _ _ c, rfl, rfl⟩⟩
theorem zFp_fw {b r : Nat} {σ σ' : zSt} (h : zFw (b + 20) σ σ') : zFp b r σ σ' := ⟨h.1, h.2.1, fun q a _ => h.2.2 q (by omega)⟩
theorem zFp_pR (b r : Nat) (σ : zSt) (j : Nat) (v : Option Nat) : zFp b r σ (z_pR σ r j v) := ⟨rfl, rfl, fun q _ c => ⟨rfl, rfl, by funext i; rw [z_R_pR, if_neg (by intro h; exact c h.1)]⟩⟩
def zTd (σ : zSt) (r n : Nat) (pl ad : Nat → Nat) (lt : Option Nat) : Prop := match lt with
  | none => z_R σ r 4 = none
  | some x => ∃ i, i < n ∧ z_R σ r 4 = some (pl i) ∧ ad i = x
def zRc (σ : zSt) (b r tl : Nat) (tb : Nat → Nat) (g : zG) (p : Nat) (lt : Option Nat) : Prop :=
  zRb σ b r tl tb ∧ z_I σ r 1 = n32 tl ∧ z_I σ r 3 = n32 p ∧ ∃ pl ad qu n, zC0 σ (b + 20) pl ad qu n g ∧ qG σ (b + 20) g ∧ zTd σ r n pl ad lt
theorem s_cnt_n {ad : Nat → Nat} {n : Nat} {g : zG} (H : qA ad n g) : s_cnt (s_is g) 32 = n := by
  obtain ⟨j, hj, e, a1, a2⟩ := s_rank H 32 (Nat.le_refl _)
  rw [e]
  rcases Nat.lt_or_ge j n with h | h
  · have := a2 j (Nat.le_refl _) h
    have := (H.2.1 j h).1
    omega
  · omega
section CLASS
variable {σ : zSt} {b r tl n : Nat} {tb : Nat → Nat} {F g : zG} {p : Nat} {pl ad : Nat → Nat} {qu : Nat → Nat → Nat} {B V : Nat}
theorem zRb_sA (h : zRb σ b r tl tb) (F : zG) : zRb (z_sA σ r F) b r tl tb := by
  obtain ⟨o, r0, r2, a1, l1, ht, hr, h120, hb⟩ := h
  exact ⟨o, r0, r2, a1, l1, fun j hj => by rw [z_I_sAn _ _ _ (by omega)]; exact ht j hj, hr, h120, hb⟩
theorem zEq_sA {lo hi A : Nat} (σ : zSt) (F : zG) (h : hi ≤ A ∨ A < lo) : zEq lo hi σ (z_sA σ A F) := fun q h1 h2 => ⟨rfl, z_I_sAn _ _ _ (by omega), rfl, rfl⟩
theorem zRb_fp {σ' : zSt} (h : zRb σ b r tl tb) (Fp : zFp b r σ σ') (h0 : z_R σ' r 0 = z_R σ r 0) (h2 : z_R σ' r 2 = z_R σ r 2) : zRb σ' b r tl tb := by
  obtain ⟨o, r0, r2, a1, l1, ht, hr, h120, hb⟩ := h
  exact ⟨by rw [z_ob_eq Fp.2.1]; exact o, by rw [h0]; exact r0, by rw [h2]; exact r2, by rw [z_ar_eq Fp.2.1]; exact a1, by rw [z_ln_eq Fp.2.1]; exact l1, fun j hj => by rw [(Fp.2.2 (b + 117) (by omega) (by omega)).1]; exact ht j hj, hr, h120, hb⟩
/-- a station is read, behind its letter -/
theorem c_readStation (h : zRb σ b r tl tb) (h0 : zC0 σ (b + 20) pl ad qu n g) (hG : qG σ (b + 20) g) (hI : s_I g B V) (f1 : F 1 = n32 tl) (f3 : F 3 = n32 p) (hp : p < 800) (hn : n < 8) :
    (∀ e, s_num2 tb tl p = (none, e) → ∃ F', f_X5_readStation (z_sA σ r F) r = some (n32 0, z_sA σ r F') ∧ F' 5 = n32 e) ∧
    (∀ x q, s_num2 tb tl p = (some x, q) → ((32 ≤ x ∨ s_is g x = true) → ∃ F', f_X5_readStation (z_sA σ r F) r = some (n32 0, z_sA σ r F') ∧ F' 5 = n32 p) ∧
      (¬ (32 ≤ x ∨ s_is g x = true) → (s_byte tb tl q 59 = false → ∃ F', f_X5_readStation (z_sA σ r F) r = some (n32 0, z_sA σ r F') ∧ F' 5 = n32 q) ∧
        (s_byte tb tl q 59 = true → ∃ σ', f_X5_readStation (z_sA σ r F) r = some (n32 1, σ') ∧ zFp b r σ σ' ∧ zRc σ' b r tl tb (s_adds g x) (q + 1) (some x)))) := by
  obtain ⟨RN1, RN2⟩ := c_readNumber h f1 f3 (by omega)
  have o := h.1
  have r2 := h.2.2.1
  have hr := h.2.2.2.2.2.2.1
  have ot := h0.1.1
  refine ⟨fun e he => ?_, fun x q hx => ?_⟩
  · obtain ⟨F', E, hF⟩ := RN2 e he
    refine ⟨F', ?_, hF⟩
    simp only [f_X5_readStation, ↓zl_eq, ↓zb_eq, ↓zb2_eq, ↓zc_some, ↓zc_none, ↓zb_pre, ↓zb2_pre, ↓zc_pre, ↓zex_eq, ↓reduceIte, Option.isSome_some, Option.isSome_none, Option.getD_some, n32_lit, n32_nn2, z_ob_sA, o, z_I_sA, f3, E]
  · have E := RN1 x q hx
    obtain ⟨l1, l2, l3, l4⟩ := s_num2_lt hx
    have nx : (n32 x = nn) = False := eq_false (s_nn_ne (by omega))
    generalize hF2 : gu F 3 (n32 q) = F2 at E
    have f21 : F2 1 = n32 tl := by rw [← hF2, gu_ne _ _ (by omega)]; exact f1
    have f23 : F2 3 = n32 q := by rw [← hF2, gu_same]
    have fa : f_X5_readStation_35 (z_sA σ r F2) r (n32 p) = some (n32 0, z_sA σ r (gu F2 5 (n32 p))) := by
      simp only [f_X5_readStation_35, f_X5_failsAt, ↓zl_eq, ↓zb_eq, ↓zb2_eq, ↓zc_some, ↓zc_none, ↓zb_pre, ↓zb2_pre, ↓zc_pre, ↓zex_eq, ↓reduceIte, Option.isSome_some, Option.isSome_none, Option.getD_some, n32_lit, z_ob_sA, o, z_pI_eq, z_I_sA, z_sA_sA, bl0]
    have h02 : zC0 (z_sA σ r F2) (b + 20) pl ad qu n g := zC0_reg (zEq_sA σ F2 (by omega)) h0
    have hs2 : zCs (z_sA σ r F2) (b + 20) pl ad qu n g := ⟨h02.1, h02.2.1, h02.2.2, s_I_6 hI, s_I_sta hI⟩
    have IA : f_X9_isAddress (z_sA σ r F2) (n32 x) = some (bi (decide (x ≤ 31))) := by
      rw [c_isAddress, n32_toInt (by omega)]
      congr 2
      apply decide_eq_decide.2
      omega
    refine ⟨fun hc => ⟨gu F2 5 (n32 p), ?_, gu_same _ _ _⟩, fun hc => ?_⟩
    · by_cases h32 : x ≤ 31
      · rw [decide_eq_true h32] at IA
        have his : s_is g x = true := by
          rcases hc with hc | hc
          · omega
          · exact hc
        unfold s_is at his
        rw [decide_eq_true_eq] at his
        rcases c_is hs2 (show x < 32 by omega) with z0 | ⟨z1, i, hi, rfl⟩
        · rw [z0] at his; exact absurd his (by decide)
        · have SW := c_find1 hs2 hi
          simp only [f_X5_readStation, ↓zl_eq, ↓zb_eq, ↓zb2_eq, ↓zc_some, ↓zc_none, ↓zb_pre, ↓zb2_pre, ↓zc_pre, ↓zex_eq, ↓reduceIte, Option.isSome_some, Option.isSome_none, Option.getD_some, n32_lit, n32_nn2, z_ob_sA, z_R_sA, o, r2, ot, z_I_sA, f3, E, nx, IA, bt0', SW, fa]
      · rw [decide_eq_false h32] at IA
        simp only [f_X5_readStation, ↓zl_eq, ↓zb_eq, ↓zb2_eq, ↓zc_some, ↓zc_none, ↓zb_pre, ↓zb2_pre, ↓zc_pre, ↓zex_eq, ↓reduceIte, Option.isSome_some, Option.isSome_none, Option.getD_some, n32_lit, n32_nn2, z_ob_sA, o, z_I_sA, f3, E, nx, IA, bf0', fa]
    · have h32 : x < 32 := by
        rcases Nat.lt_or_ge x 32 with h | h
        · exact h
        · exact absurd (Or.inl h) hc
      have hnis : ¬ g (18 + 7 * x + 0) = n32 1 := by
        intro he
        apply hc
        right
        unfold s_is
        rw [he]; rfl
      rw [decide_eq_true (by omega)] at IA
      have SW := c_find0 hs2 h32 hnis
      have SK := c_skips h f21 f23 (by omega) (c := 59) (by omega)
      refine ⟨fun hb => ⟨gu F2 5 (n32 q), ?_, gu_same _ _ _⟩, fun hb => ?_⟩
      · rw [hb, if_neg (by decide)] at SK
        simp only [f_X5_readStation, ↓zl_eq, ↓zb_eq, ↓zb2_eq, ↓zc_some, ↓zc_none, ↓zb_pre, ↓zb2_pre, ↓zc_pre, ↓zex_eq, ↓reduceIte, Option.isSome_some, Option.isSome_none, Option.getD_some, n32_lit, n32_nn2, z_ob_sA, z_R_sA, o, r2, ot, z_I_sA, f3, E, nx, IA, bt0', SW, SK, Bool.false_eq_true]
      · rw [hb, if_pos rfl] at SK
        generalize hF3 : gu F2 3 (n32 (q + 1)) = F3 at SK
        have h03 : zC0 (z_sA σ r F3) (b + 20) pl ad qu n g := zC0_reg (zEq_sA σ F3 (by omega)) h0
        have G3 : qG (z_sA σ r F3) (b + 20) g := qG_reg (zEq_sA σ F3 (by omega)) hG
        obtain ⟨z6, hz6, h6⟩ := s_I_6 hI
        obtain ⟨σ4, pl', ad', pp, EP, FW, h4, G4, i, hi, hpi, hai⟩ := c_place h03 G3 hn hI.2.2.2 (by rw [s_nat_n32 h6 (by omega)]; exact hz6) (s_I_5 hI).1 h32 hnis
        have Fp4 : zFp b r σ σ4 := zFp_t (zFp_sA b r σ F3) (zFp_fw FW)
        have Fp5 : zFp b r σ (z_pR σ4 r 4 (some pp)) := zFp_t Fp4 (zFp_pR b r σ4 4 _)
        have rR : z_R σ4 r = z_R σ r := (FW.2.2 r (by omega)).2.2
        have rI : z_I σ4 r = F3 := ((FW.2.2 r (by omega)).1).trans (z_I_sA _ _ _)
        have o4 : z_ob σ4 r 5 = true := by rw [z_ob_eq Fp4.2.1]; exact o
        have E45 : zEq (b + 20) (b + 39) σ4 (z_pR σ4 r 4 (some pp)) := fun q h1 h2 => ⟨rfl, rfl, rfl, by funext j; rw [z_R_pR, if_neg (by omega)]⟩
        refine ⟨z_pR σ4 r 4 (some pp), ?_, Fp5, zRb_fp h Fp5 (by rw [z_R_pR, if_neg (by omega), rR]) (by rw [z_R_pR, if_neg (by omega), rR]), ?_, ?_, pl', ad', qu, n + 1, zC0_reg E45 h4, qG_reg E45 G4, i, hi, ?_, hai⟩
        · have n10' : (n32 1 = n32 0) = False := eq_false nn10
          simp only [f_X5_readStation, ↓zl_eq, ↓zb_eq, ↓zb2_eq, ↓zc_some, ↓zc_none, ↓zb_pre, ↓zb2_pre, ↓zc_pre, ↓zex_eq, ↓reduceIte, Option.isSome_some, Option.isSome_none, Option.getD_some, n32_lit, n32_nn2, z_ob_sA, z_R_sA, o, r2, ot, z_I_sA, f3, E, nx, IA, bt0', SW, SK, n10', EP, o4, Bool.false_eq_true]
        · show z_I σ4 r 1 = _
          rw [rI, ← hF3, gu_ne _ _ (by omega)]; exact f21
        · show z_I σ4 r 3 = _
          rw [rI, ← hF3, gu_same]
        · rw [z_R_pR, if_pos ⟨rfl, rfl⟩, hpi]
/-- a message is read, behind its letter -/
theorem c_readMessage (h : zRb σ b r tl tb) (h0 : zC0 σ (b + 20) pl ad qu n g) (hG : qG σ (b + 20) g) (hI : s_I g B V) (f1 : F 1 = n32 tl) (f3 : F 3 = n32 p) (hp : p < 800) (h5 : 5 * s_nat g 5 ≤ p) (hp2 : p ≤ 130) {i : Nat} (hi : i < n) (ht : z_R σ r 4 = some (pl i)) :
    (∀ e, s_num2 tb tl p = (none, e) → ∃ F', f_X5_readMessage (z_sA σ r F) r = some (n32 0, z_sA σ r F') ∧ F' 5 = n32 e) ∧
    (∀ l q, s_num2 tb tl p = (some l, q) → (¬ (1 ≤ l ∧ l ≤ 20) → ∃ F', f_X5_readMessage (z_sA σ r F) r = some (n32 0, z_sA σ r F') ∧ F' 5 = n32 p) ∧
      ((1 ≤ l ∧ l ≤ 20) → (s_byte tb tl q 44 = false → ∃ F', f_X5_readMessage (z_sA σ r F) r = some (n32 0, z_sA σ r F') ∧ F' 5 = n32 q) ∧
        (s_byte tb tl q 44 = true → (s_dg tb tl (q + 1) = none → ∃ F', f_X5_readMessage (z_sA σ r F) r = some (n32 0, z_sA σ r F') ∧ F' 5 = n32 (q + 1)) ∧
          (∀ u, s_dg tb tl (q + 1) = some u → (s_byte tb tl (q + 2) 59 = false → ∃ F', f_X5_readMessage (z_sA σ r F) r = some (n32 0, z_sA σ r F') ∧ F' 5 = n32 (q + 2)) ∧
            (s_byte tb tl (q + 2) 59 = true → ∃ σ', f_X5_readMessage (z_sA σ r F) r = some (n32 1, σ') ∧ zFp b r σ σ' ∧ zRc σ' b r tl tb (s_gives g (s_nat g 5) (n32 (ad i)) (n32 l) (n32 u)) (q + 3) (some (ad i))))))) := by
  obtain ⟨RN1, RN2⟩ := c_readNumber h f1 f3 (by omega)
  have o := h.1
  have r2 := h.2.2.1
  have hr := h.2.2.2.2.2.2.1
  have h120 := h.2.2.2.2.2.2.2.1
  have ot := h0.1.1
  have fa : ∀ G (x : Int32), f_X5_failsAt (z_sA σ r G) r x = some (n32 0, z_sA σ r (gu G 5 x)) := fun G x => by
    simp only [f_X5_failsAt, ↓zl_eq, ↓zb_eq, ↓zb2_eq, ↓zc_some, ↓zc_none, ↓zb_pre, ↓zb2_pre, ↓zc_pre, ↓zex_eq, ↓reduceIte, Option.isSome_some, Option.isSome_none, Option.getD_some, n32_lit, z_ob_sA, o, z_pI_eq, z_I_sA, z_sA_sA]
  refine ⟨fun e he => ?_, fun l q hx => ?_⟩
  · obtain ⟨F', E, hF⟩ := RN2 e he
    refine ⟨F', ?_, hF⟩
    simp only [f_X5_readMessage, ↓zl_eq, ↓zb_eq, ↓zb2_eq, ↓zc_some, ↓zc_none, ↓zb_pre, ↓zb2_pre, ↓zc_pre, ↓zex_eq, ↓reduceIte, Option.isSome_some, Option.isSome_none, Option.getD_some, n32_lit, n32_nn2, z_ob_sA, o, z_I_sA, f3, E]
  · have E := RN1 l q hx
    obtain ⟨l1, l2, l3, l4⟩ := s_num2_lt hx
    have nx : (n32 l = nn) = False := eq_false (s_nn_ne (by omega))
    generalize hF2 : gu F 3 (n32 q) = F2 at E
    have f21 : F2 1 = n32 tl := by rw [← hF2, gu_ne _ _ (by omega)]; exact f1
    have f23 : F2 3 = n32 q := by rw [← hF2, gu_same]
    have W : f_X9_isWithin (z_sA σ r F2) (n32 l) (n32 1) (n32 20) = some (bi (decide (1 ≤ l ∧ l ≤ 20))) := by
      rw [c_isWithin, n32_toInt (show l < 2147483648 by omega), n32_toInt (show 1 < 2147483648 by omega), n32_toInt (show 20 < 2147483648 by omega)]
      congr 2
      apply decide_eq_decide.2
      omega
    have n10' : (n32 1 = n32 0) = False := eq_false nn10
    refine ⟨fun hc => ⟨gu F2 5 (n32 p), ?_, gu_same _ _ _⟩, fun hc => ?_⟩
    · rw [decide_eq_false hc] at W
      simp only [f_X5_readMessage, ↓zl_eq, ↓zb_eq, ↓zb2_eq, ↓zc_some, ↓zc_none, ↓zb_pre, ↓zb2_pre, ↓zc_pre, ↓zex_eq, ↓reduceIte, Option.isSome_some, Option.isSome_none, Option.getD_some, n32_lit, n32_nn2, z_ob_sA, o, z_I_sA, f3, E, nx, W, bf0', fa, bl0]
    · rw [decide_eq_true hc] at W
      have SK := c_skips h f21 f23 (by omega) (c := 44) (by omega)
      refine ⟨fun hb => ⟨gu F2 5 (n32 q), ?_, gu_same _ _ _⟩, fun hb => ?_⟩
      · rw [hb, if_neg (by decide)] at SK
        simp only [f_X5_readMessage, ↓zl_eq, ↓zb_eq, ↓zb2_eq, ↓zc_some, ↓zc_none, ↓zb_pre, ↓zb2_pre, ↓zc_pre, ↓zex_eq, ↓reduceIte, Option.isSome_some, Option.isSome_none, Option.getD_some, n32_lit, n32_nn2, z_ob_sA, o, z_I_sA, f3, E, nx, W, bt0', SK]
      · rw [hb, if_pos rfl] at SK
        generalize hF3 : gu F2 3 (n32 (q + 1)) = F3 at SK
        have f31 : F3 1 = n32 tl := by rw [← hF3, gu_ne _ _ (by omega)]; exact f21
        have f33 : F3 3 = n32 (q + 1) := by rw [← hF3, gu_same]
        have D := c_digit h f31 f33 (by omega)
        refine ⟨fun hd => ⟨gu F3 5 (n32 (q + 1)), ?_, gu_same _ _ _⟩, fun u hd => ?_⟩
        · rw [hd] at D
          have D' : f_X5_digit (z_sA σ r F3) r = some nn := D
          simp only [f_X5_readMessage, ↓zl_eq, ↓zb_eq, ↓zb2_eq, ↓zc_some, ↓zc_none, ↓zb_pre, ↓zb2_pre, ↓zc_pre, ↓zex_eq, ↓reduceIte, Option.isSome_some, Option.isSome_none, Option.getD_some, n32_lit, n32_nn2, z_ob_sA, o, z_I_sA, f3, E, nx, W, bt0', SK, n10', D', f33, fa, bl0]
        · rw [hd] at D
          have D' : f_X5_digit (z_sA σ r F3) r = some (n32 u) := D
          have hu := s_dg_lt hd
          have nu : (n32 u = nn) = False := eq_false (s_nn_ne (by omega))
          generalize hF4 : gu F3 3 (n32 (q + 2)) = F4
          have f41 : F4 1 = n32 tl := by rw [← hF4, gu_ne _ _ (by omega)]; exact f31
          have f43 : F4 3 = n32 (q + 2) := by rw [← hF4, gu_same]
          have ea : n32 (q + 1) + n32 1 = n32 (q + 2) := n32_add _ _
          have SK2 := c_skips h f41 f43 (by omega) (c := 59) (by omega)
          refine ⟨fun hb2 => ⟨gu F4 5 (n32 (q + 2)), ?_, gu_same _ _ _⟩, fun hb2 => ?_⟩
          · rw [hb2, if_neg (by decide)] at SK2
            simp only [f_X5_readMessage, f_X5_readMessage_89, ↓zl_eq, ↓zb_eq, ↓zb2_eq, ↓zc_some, ↓zc_none, ↓zb_pre, ↓zb2_pre, ↓zc_pre, ↓zex_eq, ↓reduceIte, Option.isSome_some, Option.isSome_none, Option.getD_some, n32_lit, n32_nn2, z_ob_sA, o, z_I_sA, f3, E, nx, W, bt0', SK, n10', D', nu, f33, ea, z_pI_eq, z_sA_sA, hF4, SK2]
          · rw [hb2, if_pos rfl] at SK2
            have e3 : q + 2 + 1 = q + 3 := rfl
            rw [e3] at SK2
            generalize hF5 : gu F4 3 (n32 (q + 3)) = F5 at SK2
            have h05 : zC0 (z_sA σ r F5) (b + 20) pl ad qu n g := zC0_reg (zEq_sA σ F5 (by omega)) h0
            have G5 : qG (z_sA σ r F5) (b + 20) g := qG_reg (zEq_sA σ F5 (by omega)) hG
            obtain ⟨z6, hz6, h6⟩ := s_I_6 hI
            obtain ⟨σ6, qu', EA, FA, h6', G6⟩ := c_add h05 G5 (s_I_5 hI).2 (by omega) (by rw [s_nat_n32 h6 (by omega)]; exact hz6) hi (n32 l) (n32 u)
            have Fp6 : zFp b r σ σ6 := zFp_t (zFp_sA b r σ F5) (zFp_fw (zFw_of FA))
            have rR : z_R σ6 r = z_R σ r := by rw [FA.2.2.1]; rfl
            have rI : z_I σ6 r = F5 := ((FA.2.2.2 r (by omega)).1).trans (z_I_sA _ _ _)
            have r1 := h0.1.2.2.1
            have o3 := h0.1.2.2.2.2.2.2.2.2.1
            have e9 : z_I (z_sA σ r F5) (b + 20) 9 = g 3 := (c_L h05).2.2.2.2.1
            refine ⟨σ6, ?_, Fp6, zRb_fp h Fp6 (by rw [rR]) (by rw [rR]), ?_, ?_, pl, ad, qu', n, h6', G6, i, hi, by rw [rR]; exact ht, rfl⟩
            · simp only [f_X5_readMessage, ↓zl_eq, ↓zb_eq, ↓zb2_eq, ↓zc_some, ↓zc_none, ↓zb_pre, ↓zb2_pre, ↓zc_pre, ↓zex_eq, ↓reduceIte, Option.isSome_some, Option.isSome_none, Option.getD_some, n32_lit, n32_nn2, z_ob_sA, z_R_sA, o, z_I_sA, f3, E, nx, W, bt0', SK, n10', D', nu, f33, ea, z_pI_eq, z_sA_sA, hF4, SK2, ht, r2, ot, r1, o3, e9, EA]
            · rw [rI, ← hF5, gu_ne _ _ (by omega)]; exact f41
            · rw [rI, ← hF5, gu_same]
end CLASS
