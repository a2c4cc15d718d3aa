/-! ONLY 942 CELLS OF AN ARRAY COUNT -/
def s_eq (g g' : zG) : Prop := ∀ j, j < 942 → g' j = g j
theorem s_eq_nat {g g' : zG} (h : s_eq g g') {j : Nat} (hj : j < 942) : s_nat g' j = s_nat g j := by unfold s_nat; rw [h j hj]
theorem s_eq_ms {g g' : zG} (h : s_eq g g') (h5 : s_nat g 5 ≤ 100) : sMs g g' := ⟨h 5 (by decide), fun m w hm hw => h _ (by omega)⟩
theorem s_num_eq {g g' : zG} (h : s_eq g g') (H : s_num g) : s_num g' := by
  obtain ⟨h5, h52, h6, hgg, hmo, hb, hst, mv, hmv, h9, h7⟩ := H
  have e3 := s_eq_nat h (j := 3) (by decide)
  have e5 := s_eq_nat h (j := 5) (by decide)
  refine ⟨by rw [e5]; exact h5, by rw [e5, h 5 (by decide)]; exact h52, by rw [h 6 (by decide)]; exact h6, by rw [h 2 (by decide)]; exact hgg, ?_, by rw [e3]; exact hb, ?_, mv, hmv, by rw [h 9 (by decide)]; exact h9, by rw [h 7 (by decide)]; exact h7⟩
  · refine ⟨by rw [e3, h 3 (by decide)]; exact hmo.1, fun m hm => ?_⟩
    rw [e5] at hm
    have := hmo.2 m hm
    rw [e3, h _ (by omega), h _ (by omega)]
    exact this
  · exact s_sta_congr (fun j _ _ => h j (by omega)) hst
theorem s_hol_eq {g g' : zG} (h : s_eq g g') (H : s_hol g) : s_hol g' := by
  rcases H with h4 | ⟨x, hx, h4, hz⟩
  · exact Or.inl (by rw [h 4 (by decide)]; exact h4)
  · exact Or.inr ⟨x, hx, by rw [h 4 (by decide)]; exact h4, by rw [h _ (by omega)]; exact hz⟩
theorem s_inv_eq {g g' : zG} {B V : Nat} (h : s_eq g g') (H : s_inv g B V) : s_inv g' B V := by
  obtain ⟨hN, hs, ho, hb, hv⟩ := H
  exact ⟨s_num_eq h hN, by rw [h 1 (by decide)]; exact hs, s_hol_eq h ho, by rw [s_eq_nat h (by decide)]; exact hb, by rw [s_eq_nat h (by decide)]; exact hv⟩
theorem zLn_eq {σ : zSt} {a : Nat} {g g' : zG} (h : s_eq g g') (hN : s_num g) (H : zLn σ a g) : zLn σ a g' := by
  obtain ⟨h5, h52, ⟨z, hz, h6⟩, hgg, hmo, hb, hst, mv, hmv, h9, h7⟩ := hN
  obtain ⟨pl, ad, qu, n, h1, h2, ⟨rL, rW, rM, rN, rC, rA, rS, rQ⟩, hG⟩ := H
  have hm := s_eq_ms h h5
  have n6 : s_nat g 6 = z := s_nat_n32 h6 (by omega)
  have n7 : s_nat g 7 = min mv 40 := s_nat_n32 h7 (by omega)
  refine ⟨pl, ad, qu, n, h1, h2, ⟨?_, rW, qM_congr (σ := σ) rfl rfl hm rM, qN_congr (σ := σ) rfl rfl rfl (h 6 (by decide)) (fun k _ => h _ (by omega)) rN, qC_congr (σ := σ) rfl rfl (fun j _ _ => h j (by omega)) hm rC, qA_congr (fun x _ => h _ (by omega)) rA, ?_, qQ_congr (σ := σ) rfl (fun _ _ => ⟨rfl, rfl⟩) hm rQ⟩, ?_⟩
  · unfold qL
    rw [h 0 (by decide), h 1 (by decide), h 2 (by decide), h 3 (by decide), h 4 (by decide)]
    exact rL
  · intro i hi
    have := (rA.2.1 i hi).1
    rw [h _ (by omega), h _ (by omega), h _ (by omega), h _ (by omega), h _ (by omega), h _ (by omega)]
    exact rS i hi
  · intro i w hi hw
    have e7 := s_eq_nat h (j := 7) (by decide)
    have e9 := s_eq_nat h (j := 9) (by decide)
    rw [e7] at hi ⊢
    rw [e9, h _ (by omega)]
    exact hG i w hi hw
theorem s_cp_eq (f g : zG) : s_eq f (s_cp f g 942) := fun j hj => by unfold s_cp; rw [if_pos hj]
