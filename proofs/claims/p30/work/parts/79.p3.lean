section TOP
variable {σ : zSt} {b k tl : Nat} {g : zG} {gs : Nat → zG} {tx : Nat → Int32} {B V : Nat}
theorem s_nn_ne {m : Nat} (hm : m < 2147483648) : ¬ n32 m = nn := by rw [n32_ne hm]; exact not_false
/-- how many stations stand before an address -/
theorem s_rank {ad : Nat → Nat} {n : Nat} (H : qA ad n g) : ∀ m, m ≤ 32 → ∃ j, j ≤ n ∧ s_cnt (s_is g) m = j ∧ (∀ i, i < j → ad i < m) ∧ ∀ i, j ≤ i → i < n → m ≤ ad i := by
  intro m
  induction m with
  | zero => intro _; exact ⟨0, Nat.zero_le _, rfl, fun i hi => by omega, fun i _ _ => Nat.zero_le _⟩
  | succ m ih =>
    intro hm
    obtain ⟨j, hj, e, a1, a2⟩ := ih (by omega)
    have es : s_cnt (s_is g) (m + 1) = s_cnt (s_is g) m + (if s_is g m = true then 1 else 0) := rfl
    rcases H.2.2.2 m (by omega) with h0 | ⟨h0, i, hi, hik⟩
    · have e3 : s_is g m = false := by unfold s_is; rw [h0]; rfl
      refine ⟨j, hj, by rw [es, e3, e]; rfl, fun i hi => by have := a1 i hi; omega, fun i h h' => ?_⟩
      have h5 := a2 i h h'
      rcases Nat.lt_or_ge m (ad i) with h4 | h4
      · omega
      · have e6 : ad i = m := by omega
        have h7 := (H.2.1 i h').2
        rw [e6, h0] at h7
        exact absurd h7 (by decide)
    · have e3 : s_is g m = true := by unfold s_is; rw [h0]; rfl
      have hij : i = j := by
        rcases Nat.lt_trichotomy i j with h | h | h
        · have := a1 i h; omega
        · exact h
        · have := H.2.2.1 j i h hi
          have := a2 j (Nat.le_refl _) (by omega)
          omega
      subst hij
      refine ⟨i + 1, by omega, by rw [es, e3, e]; rfl, fun i' hi' => ?_, fun i' h h' => ?_⟩
      · rcases Nat.lt_or_ge i' i with h | h
        · have := a1 i' h; omega
        · have : i' = i := by omega
          subst this; omega
      · have := H.2.2.1 i i' (by omega) h'
        omega
end TOP
