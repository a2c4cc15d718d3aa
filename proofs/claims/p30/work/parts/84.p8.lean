/-! WHAT IF -/
/-- the first place with P, of n from j on, or the last -/
def s_fst (P : Nat → Bool) : Nat → Nat → Nat
  | 0, j => j
  | n + 1, j => if P j = true then j else s_fst P n (j + 1)
theorem s_fst_p (P : Nat → Bool) : ∀ n j, j ≤ s_fst P n j ∧ s_fst P n j ≤ j + n ∧ (s_fst P n j = j + n ∨ P (s_fst P n j) = true) ∧ ∀ i, j ≤ i → i < s_fst P n j → P i = false
  | 0, j => ⟨Nat.le_refl _, Nat.le_refl _, Or.inl rfl, fun i h1 h2 => by have h3 : i < j := h2; omega⟩
  | n + 1, j => by
    obtain ⟨h1, h2, h3, h4⟩ := s_fst_p P n (j + 1)
    unfold s_fst
    by_cases hp : P j = true
    · rw [if_pos hp]
      exact ⟨Nat.le_refl _, by omega, Or.inr hp, fun i a b => by omega⟩
    · rw [if_neg hp]
      refine ⟨by omega, by omega, ?_, fun i a b => ?_⟩
      · rcases h3 with h3 | h3
        · exact Or.inl (by omega)
        · exact Or.inr h3
      · by_cases hij : i = j
        · rw [hij]; simpa using hp
        · exact h4 i (by omega) b
theorem s_eq_r (g : zG) : s_eq g g := fun _ _ => rfl
theorem s_eq_s {g g' : zG} (h : s_eq g g') : s_eq g' g := fun j hj => (h j hj).symm
theorem s_eq_t {g g' g'' : zG} (h : s_eq g g') (h2 : s_eq g' g'') : s_eq g g'' := fun j hj => (h2 j hj).trans (h j hj)
theorem s_eq_gu {g g' : zG} (h : s_eq g g') (k : Nat) (v : Int32) : s_eq (gu g k v) (gu g' k v) := fun j hj => by
  unfold gu
  split
  · rfl
  · exact h j hj
theorem s_cp_cp (f A X : zG) : s_cp (s_cp f A 942) X 942 = s_cp f X 942 := by
  funext j
  unfold s_cp
  by_cases h : j < 942
  · rw [if_pos h, if_pos h, if_pos h]
  · rw [if_neg h, if_neg h]
theorem s_cp_s (g f A : zG) (h : s_eq g f) (X : zG) : s_cp f X 942 = s_cp g X 942 := by
  funext j
  unfold s_cp
  by_cases hj : j < 942
  · rw [if_pos hj, if_pos hj, h j hj]
  · rw [if_neg hj, if_neg hj]
section TOP
variable {σ : zSt} {b k tl : Nat} {g g' : zG} {gs : Nat → zG} {tx : Nat → Int32} {B V : Nat}
theorem s_I_eq (h : s_eq g g') (H : s_I g B V) : s_I g' B V := by
  have q5 := (s_I_5 H).1
  refine s_I_mk H (h 3 (by decide)) (h 5 (by decide)) (by rw [h 6 (by decide)]; exact s_I_6 H) (by rw [h 2 (by decide)]; exact s_I_2 H) (by rw [h 1 (by decide)]; exact s_I_1 H) (h 7 (by decide)) (h 9 (by decide)) (h 10 (by decide)) (fun m w hm hw => h _ (by omega)) (s_sta_congr (fun j _ _ => h j (by omega)) (s_I_sta H)) (s_hol_eq h (s_I_hol H)) ?_ (fun x hx h0 => by rw [h _ (by omega)]; exact h0)
  rcases s_I_hon H with h4 | ⟨x, hx, h4, hz⟩
  · exact Or.inl (by rw [h 4 (by decide)]; exact h4)
  · exact Or.inr ⟨x, hx, by rw [h 4 (by decide)]; exact h4, by rw [h _ (by omega)]; exact hz⟩
theorem zC_eq (h : s_eq g g') (hN : s_num g) (H : zC σ b g k gs tl tx) : zC σ b g' k gs tl tx := by
  obtain ⟨t, hl, hb, hs, h4, ht⟩ := H
  exact ⟨t, zLn_eq h hN hl, hb, hs, h4, ht⟩
/-- the class: a line for trials is made one with the line -/
theorem zC_copy (h : zC σ b g k gs tl tx) (hN : s_num g) : ∃ σ1, f_X2_copyFrom σ (b + 20) (b + 1) = some σ1 ∧ zFr (b + 20) σ σ1 ∧ zLn σ1 (b + 20) g ∧ zC σ1 b g k gs tl tx := by
  obtain ⟨σ1, E, F, L⟩ := zLn_copy h.2.2.1 h.2.1 (by omega) hN
  exact ⟨σ1, E, F, L, zC_trial (zFw_of F) (zLn_bl L) h⟩
end TOP
