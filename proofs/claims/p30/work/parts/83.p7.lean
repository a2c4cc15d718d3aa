/-! MANY VISITS -/
def s_it (g : zG) : Nat → zG
  | 0 => g
  | j + 1 => s_visits (s_it g j)
section TOP
variable {σ : zSt} {b k tl : Nat} {g : zG} {gs : Nat → zG} {tx : Nat → Int32} {B V : Nat}
theorem c_visit1 {a : Nat} (hl : zLn σ a g) (hI : s_I g B V) (hB : B ≤ 1800000000) (hV : V < 1900000000) : ∃ σ', f_X8_makeVisit σ a = some σ' ∧ zFr a σ σ' ∧ zLn σ' a (s_visits g) ∧ s_vok g ∧ s_I (s_visits g) (B + 4200) (V + 1) ∧ s_visits g 5 = g 5 := by
  obtain ⟨pl, ad, qu, n, h1, h2, h3, h4⟩ := hl
  obtain ⟨σ', qu', E, F, R, G, vok, I, S⟩ := c_makeVisit h1 h2 h3 h4 hI.1 hB hV
  exact ⟨σ', E, F, ⟨pl, ad, qu', n, zLs_fr F h1, zPl_fr F h2, R, G⟩, vok, s_I_visits hI hB I S, (s_visits_kp hI.1 hB S hI.2.1 hI.2.2.2).2.2.1⟩
/-- the states of the class through m visits -/
theorem c_chain {a : Nat} (hl : zLn σ a g) (hI : s_I g B V) : ∀ m, B + 4200 * m ≤ 1800000000 → V + m < 1900000000 → ∃ st : Nat → zSt, st 0 = σ ∧ ∀ j, j ≤ m → zFr a σ (st j) ∧ zLn (st j) a (s_it g j) ∧ s_I (s_it g j) (B + 4200 * j) (V + j) ∧ s_it g j 5 = g 5 ∧ (j < m → f_X8_makeVisit (st j) a = some (st (j + 1)) ∧ s_vok (s_it g j)) := by
  intro m
  induction m with
  | zero =>
    intro _ _
    refine ⟨fun _ => σ, rfl, fun j hj => ?_⟩
    have : j = 0 := by omega
    subst this
    exact ⟨zFr_r a σ, hl, hI, rfl, fun h => by omega⟩
  | succ m ih =>
    intro hB hV
    obtain ⟨st, s0, H⟩ := ih (by omega) (by omega)
    obtain ⟨F, L, I, e5, _⟩ := H m (Nat.le_refl _)
    obtain ⟨σ', E, F', L', vok, I', e5'⟩ := c_visit1 L I (by omega) (by omega)
    have hB2 : B + 4200 * m + 4200 ≤ B + 4200 * (m + 1) := by rw [Nat.mul_succ, Nat.add_assoc]; exact Nat.le_refl _
    have hV2 : V + m + 1 ≤ V + (m + 1) := Nat.le_refl _
    have I2 : s_I (s_it g (m + 1)) (B + 4200 * (m + 1)) (V + (m + 1)) := s_I_w I' hB2 hV2
    refine ⟨fun i => if i = m + 1 then σ' else st i, by show (if 0 = m + 1 then σ' else st 0) = σ; rw [if_neg (by omega)]; exact s0, fun j hj => ?_⟩
    by_cases hjm : j = m + 1
    · subst hjm
      show zFr a σ (if m + 1 = m + 1 then σ' else _) ∧ zLn (if m + 1 = m + 1 then σ' else _) a _ ∧ _
      rw [if_pos rfl]
      exact ⟨zFr_t F F', L', I2, e5'.trans e5, fun h => absurd h (Nat.lt_irrefl _)⟩
    · have Hj := H j (by omega)
      show zFr a σ (if j = m + 1 then σ' else st j) ∧ zLn (if j = m + 1 then σ' else st j) a _ ∧ _ ∧ _ ∧ (_ → f_X8_makeVisit (if j = m + 1 then σ' else st j) a = some (if j + 1 = m + 1 then σ' else st (j + 1)) ∧ _)
      rw [if_neg hjm]
      refine ⟨Hj.1, Hj.2.1, Hj.2.2.1, Hj.2.2.2.1, fun _ => ?_⟩
      by_cases hjm2 : j = m
      · subst hjm2
        rw [if_pos rfl]
        exact ⟨E, vok⟩
      · rw [if_neg (by omega)]
        exact Hj.2.2.2.2 (by omega)
theorem c_late {a n : Nat} {pl ad : Nat → Nat} {qu : Nat → Nat → Nat} (h : zC0 σ a pl ad qu n g) (h3 : g 3 = n32 (s_nat g 3)) (hb : s_nat g 3 < 2147483648) : f_X2_isTooLate σ a = some (bi (!decide (s_nat g 3 ≤ 900000))) := by
  have o1 := h.1.1
  have e9 := (c_L h).2.2.2.2.1
  rw [h3] at e9
  simp (disch := omega) only [f_X2_isTooLate, f_X2_isTooLate_14, ↓zl_eq, ↓zb_eq, ↓zb2_eq, ↓zc_some, ↓zc_none, ↓zb_pre, ↓zb2_pre, ↓zc_pre, ↓zex_eq, ↓reduceIte, Option.isSome_some, Option.isSome_none, Option.getD_some, n32_lit, o1, e9, n32_le, bl0, bl1]
  by_cases hc : s_nat g 3 ≤ 900000
  · rw [if_pos hc, decide_eq_true hc]; rfl
  · rw [if_neg hc, decide_eq_false hc]; rfl
theorem s_I_3 (H : s_I g B V) : g 3 = n32 (s_nat g 3) ∧ s_nat g 3 ≤ B := ⟨H.1.1.2.2.2.2.1.1, H.1.2.2.2.1⟩
theorem s_I_low (H : s_I g B V) {B' : Nat} (h : s_nat g 3 ≤ B') : s_I g B' V := by
  obtain ⟨⟨a, b, c, d, e⟩, r⟩ := H
  exact ⟨⟨a, b, c, h, e⟩, r⟩
end TOP
