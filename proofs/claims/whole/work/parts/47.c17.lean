/-- what is said of an array before a visit, with the holder and the slot -/
def s_inv (g : zG) (B V : Nat) : Prop := s_num g ∧ (∃ s, s ≤ 20 ∧ g 1 = n32 s) ∧ s_hol g ∧ s_nat g 3 ≤ B ∧ s_nat g 9 ≤ V
/-- what a visit leaves alone -/
def s_same (g g' : zG) : Prop := (∀ j, j < 3 → g' j = g j) ∧ (∀ x, x < 32 → g' (18 + 7 * x + 0) = g (18 + 7 * x + 0))
theorem qG_congr {σ σ' : zSt} {a : Nat} {g g' : zG} (h10 : z_I σ' (a + 10) = z_I σ (a + 10)) (h7 : g' 7 = g 7) (h9 : g' 9 = g 9) (h : ∀ j, 782 ≤ j → g' j = g j) (H : qG σ a g) : qG σ' a g' := by
  have e7 : s_nat g' 7 = s_nat g 7 := by unfold s_nat; rw [h7]
  have e9 : s_nat g' 9 = s_nat g 9 := by unfold s_nat; rw [h9]
  intro i w hi hw
  rw [e7] at hi ⊢
  rw [e9, h10, h _ (by omega)]
  exact H i w hi hw
section CLASS
variable {σ : zSt} {a n : Nat} {pl ad : Nat → Nat} {qu : Nat → Nat → Nat} {g : zG}
/-- A VISIT: the class's line is the reference's array again -/
theorem c_makeVisit {B V : Nat} (hL : zLs σ a) (hP : zPl σ a pl) (hR : zRep σ a pl ad qu n g) (hG : qG σ a g) (hI : s_inv g B V) (hB : B ≤ 1800000000) (hV : V < 1900000000) :
    ∃ σ' qu', f_X8_makeVisit σ a = some σ' ∧ zFr a σ σ' ∧ zRep σ' a pl ad qu' n (s_visits g) ∧ qG σ' a (s_visits g) ∧ s_vok g ∧ s_inv (s_visits g) (B + 4200) (V + 1) ∧ s_same g (s_visits g) := by
  obtain ⟨hN, ⟨s, hs, h1⟩, hol, hb, hv⟩ := hI
  have hN' := hN
  obtain ⟨h5, h52, h6, hgg, hmo, hb2, hst, mv, hmv, h9, h7⟩ := hN'
  have nv : s_nat g 9 = mv := s_nat_n32 h9 (by omega)
  have h : zCs σ a pl ad qu n g := ⟨hL, hP, hR, h6, hst⟩
  have h0 := zC0_of h
  have e10 := (c_L h0).2.2.2.2.2
  rcases hol with h4 | ⟨x, hx, h4, hz⟩
  · -- no holder
    have F := c_findn h
    rcases c_anew h with ⟨hh, E⟩ | ⟨i, σ1, hi, hh, hon, E, A⟩
    · have ev : s_visits g = g := by unfold s_visits; rw [if_pos h4, if_pos hh]
      rw [ev]
      refine ⟨σ, qu, ?_, zFr_r a σ, hR, hG, Or.inl ⟨h4, Or.inl hh⟩, ⟨hN, ⟨s, hs, h1⟩, Or.inl h4, by omega, by omega⟩, fun _ _ => rfl, fun _ _ => rfl⟩
      unfold f_X8_makeVisit
      rw [if_pos hL.1, e10, h4, F]
      rw [zb_eq, zc_none, E]
      rfl
    · have hai := c_ad h0 hi
      have ti := s_tok_inv hN hs h1 hai.1 hon (by omega)
      have tn : ∀ {j : Nat}, j ≠ 3 → j ≠ 4 → j ≠ 12 → j ≠ 18 + 7 * ad i + 2 → j ≠ 18 + 7 * ad i + 3 → s_tok g (ad i) j = g j := fun a b c d e => s_tok_ne g a b c d e
      have G1 : qG σ1 a (s_tok g (ad i)) := qG_congr A.2.1 (tn (by omega) (by omega) (by omega) (by omega) (by omega)) (tn (by omega) (by omega) (by omega) (by omega) (by omega)) (fun j hj => tn (by omega) (by omega) (by omega) (by omega) (by omega)) hG
      obtain ⟨σ2, qu2, E2, F2, R2, G2, go, m1, m2⟩ := c_vis18 (zLs_fr A.1 hL) (zPl_fr A.1 hP) A.2.2 G1 ti.1 hi (s_tok_4 g (ad i))
      have t1 : s_tok g (ad i) 1 = n32 s := by rw [tn (by omega) (by omega) (by omega) (by omega) (by omega)]; exact h1
      have t9 : s_tok g (ad i) 9 = n32 mv := by rw [tn (by omega) (by omega) (by omega) (by omega) (by omega)]; exact h9
      have tz : s_tok g (ad i) (18 + 7 * ad i + 0) = n32 1 := by rw [tn (by omega) (by omega) (by omega) (by omega) (by omega)]; exact hai.2
      obtain ⟨i1, i2, i3, i4, i5, i6, i7, i8⟩ := s_vis_inv ti.1 hs t1 hai.1 tz m1 m2 (by have := ti.2; omega) (mv := mv) (by omega) t9
      have ev : s_visits g = s_vis (s_tok g (ad i)) (ad i) 101 := by
        unfold s_visits
        have hne : ¬ s_h2 g = nn := by rw [hh, n32_ne (by omega)]; exact not_false
        rw [if_pos h4, if_neg hne, hh, n32_toNat (by omega)]
      rw [ev]
      refine ⟨σ2, qu2, ?_, zFr_t A.1 F2, R2, G2, Or.inl ⟨h4, Or.inr ⟨ad i, hai.1, hh, go⟩⟩, ⟨i1, ⟨s, hs, i2⟩, i3, by have := ti.2; omega, ?_⟩, ?_, ?_⟩
      · unfold f_X8_makeVisit
        rw [if_pos hL.1, e10, h4, F]
        rw [zb_eq, zc_none, E]
        exact E2
      · rw [s_nat_n32 i5 (by omega)]; omega
      · intro j hj
        rcases (show j = 0 ∨ j = 1 ∨ j = 2 by omega) with rfl | rfl | rfl
        · rw [i6]; exact tn (by omega) (by omega) (by omega) (by omega) (by omega)
        · rw [i2, h1]
        · rw [i7]; exact tn (by omega) (by omega) (by omega) (by omega) (by omega)
      · intro y hy
        rw [i8 y hy]; exact tn (by omega) (by omega) (by omega) (by omega) (by omega)
  · -- a holder
    obtain ⟨i, hi, rfl⟩ : ∃ i, i < n ∧ ad i = x := by
      rcases c_is h hx with hz0 | hz1
      · rw [hz0] at hz; exact absurd hz (by decide)
      · exact hz1.2
    have F := c_find1 h hi
    obtain ⟨σ2, qu2, E2, F2, R2, G2, go, m1, m2⟩ := c_vis18 hL hP hR hG hN hi h4
    obtain ⟨i1, i2, i3, i4, i5, i6, i7, i8⟩ := s_vis_inv hN hs h1 hx hz m1 m2 (by omega) (mv := mv) (by omega) h9
    have ev : s_visits g = s_vis g (ad i) 101 := by
      unfold s_visits
      have hne : ¬ g 4 = nn := by rw [h4, n32_ne (by omega)]; exact not_false
      rw [if_neg hne, s_nat_n32 h4 (by omega)]
    rw [ev]
    refine ⟨σ2, qu2, ?_, F2, R2, G2, Or.inr ⟨ad i, h4, go⟩, ⟨i1, ⟨s, hs, i2⟩, i3, by omega, by rw [s_nat_n32 i5 (by omega)]; omega⟩, ?_, i8⟩
    · unfold f_X8_makeVisit
      rw [if_pos hL.1, e10, h4, F]
      exact E2
    · intro j hj
      rcases (show j = 0 ∨ j = 1 ∨ j = 2 by omega) with rfl | rfl | rfl
      · exact i6
      · rw [i2, h1]
      · exact i7
end CLASS
