/-! WHAT HOLDS OF A LINE, behind the other calls -/
section CALLS
variable {g g' : zG}
/-- a call that leaves the counts, the log and the stations' fields alone -/
theorem k_K_mk (H : k_K g) (h3 : g' 3 = g 3) (h7 : g' 7 = g 7) (h8 : g' 8 = g 8) (h9 : g' 9 = g 9) (h10 : g' 10 = g 10) (h12 : g' 12 = g 12) (h15 : g' 15 = g 15) (hl : ∀ j, 782 ≤ j → g' j = g j)
    (hst : ∀ x, x < 32 → g' (18 + 7 * x + 0) = n32 1 → (g (18 + 7 * x + 0) = n32 1 ∧ g' (18 + 7 * x + 5) = g (18 + 7 * x + 5) ∧ g' (18 + 7 * x + 6) = g (18 + 7 * x + 6)) ∨ (g' (18 + 7 * x + 5) = n32 0 ∧ g' (18 + 7 * x + 6) = nn))
    (hS : k_S g' 32 = k_S g 32) (hh : k_h g') (hn : k_n g') : k_K g' := by
  obtain ⟨kv, kh, ks, ⟨⟨w0, w1, w2, w3⟩, c1, c2, l0, b1, b2, b3⟩, kl, kn⟩ := H
  have e3 : s_nat g' 3 = s_nat g 3 := by unfold s_nat; rw [h3]
  have e9 : s_nat g' 9 = s_nat g 9 := by unfold s_nat; rw [h9]
  have e10 : s_nat g' 10 = s_nat g 10 := by unfold s_nat; rw [h10]
  have e15 : s_nat g' 15 = s_nat g 15 := by unfold s_nat; rw [h15]
  refine ⟨fun x hx hz => ?_, hh, ?_, ⟨⟨w0, by rw [h15]; exact w1, by omega, by omega⟩, by omega, by rw [h10, e10]; exact c2, l0, by rw [h12]; exact b1, b2, by omega⟩, k_l_congr h7 h8 (by omega) hl kl, hn⟩
  · rcases hst x hx hz with ⟨a, b, c⟩ | ⟨b, c⟩
    · obtain ⟨v, v1, v2, v3⟩ := kv x hx a
      rw [b, c, e9, e3]
      exact ⟨v, v1, v2, v3⟩
    · exact ⟨0, Nat.zero_le _, b, Or.inl ⟨rfl, c⟩⟩
  · show k_S g' 32 = s_nat g' 9
    rw [hS, e9]; exact ks
theorem k_P_le (h12 : g' 12 = g 12) : k_P g' ≤ k_P g + 1 := by
  unfold k_P s_nat
  rw [h12]
  split <;> split <;> omega
theorem k_P_eq (h12 : g' 12 = g 12) (h4 : g' 4 = g 4) : k_P g' = k_P g := by
  unfold k_P s_nat
  rw [h12, h4]
theorem k_h_congr (H : k_h g) (h4 : g' 4 = g 4) (hr : ∀ x, x < 32 → s_ring g x = true → s_ring g' x = true) : k_h g' := by
  rcases H with h | ⟨x, hx, h, r⟩
  · exact Or.inl (by rw [h4]; exact h)
  · exact Or.inr ⟨x, hx, by rw [h4]; exact h, hr x hx r⟩
theorem k_adds (H : k_K g) {x : Nat} (hx : x < 32) (hz : ¬ g (18 + 7 * x + 0) = n32 1) : k_K (s_adds g x) ∧ k_P (s_adds g x) = k_P g := by
  have ne : ∀ {j : Nat}, (j < 18 + 7 * x ∨ 18 + 7 * x + 7 ≤ j) → s_adds g x j = g j := fun h => s_adds_ne g x h
  have f0 : s_adds g x (18 + 7 * x + 0) = n32 1 := by unfold s_adds; rw [gu_ne _ _ (by omega), gu_ne _ _ (by omega), gu_ne _ _ (by omega), gu_ne _ _ (by omega), gu_ne _ _ (by omega), gu_ne _ _ (by omega), gu_same]
  have f5 : s_adds g x (18 + 7 * x + 5) = n32 0 := by unfold s_adds; rw [gu_ne _ _ (by omega), gu_same]
  have f6 : s_adds g x (18 + 7 * x + 6) = nn := by unfold s_adds; rw [gu_same]
  refine ⟨k_K_mk H (ne (by omega)) (ne (by omega)) (ne (by omega)) (ne (by omega)) (ne (by omega)) (ne (by omega)) (ne (by omega)) (fun j hj => ne (by omega)) (fun y hy hy0 => ?_) ?_ (k_h_congr H.2.1 (ne (by omega)) (fun y hy hr => ?_)) (fun h0 => ?_), k_P_eq (ne (by omega)) (ne (by omega))⟩
  · by_cases hyx : y = x
    · subst hyx; exact Or.inr ⟨f5, f6⟩
    · rw [ne (by omega)] at hy0
      exact Or.inl ⟨hy0, ne (by omega), ne (by omega)⟩
  · have key : ∀ k, k_S (s_adds g x) k = k_S g k := by
      intro k
      induction k with
      | zero => rfl
      | succ k ih =>
        unfold k_S
        rw [ih]
        by_cases hk : k = x
        · subst hk
          have n5 : s_nat (s_adds g k) (18 + 7 * k + 5) = 0 := s_nat_n32 f5 (by omega)
          rw [f0, if_pos rfl, if_neg hz, n5]
        · rw [ne (by omega)]
          unfold s_nat
          rw [ne (by omega)]
    exact key 32
  · have hyx : y ≠ x := by
      intro h
      subst h
      simp only [s_ring, Bool.and_eq_true, decide_eq_true_eq] at hr
      exact hz hr.1.1
    rw [s_ring_3 (g := g) (ne (by omega)) (ne (by omega)) (ne (by omega))]
    exact hr
  · rw [ne (by omega)] at h0 ⊢
    exact H.2.2.2.2.2 h0
theorem k_gives (H : k_K g) {q : Nat} (hq : q < 100) (x l u : Int32) : k_K (s_gives g q x l u) ∧ k_P (s_gives g q x l u) = k_P g := by
  have ne : ∀ {j : Nat}, j ≠ 5 → (j < 242 ∨ 742 ≤ j) → s_gives g q x l u j = g j := fun a b => s_gives_ne g q x l u a (by omega)
  refine ⟨k_K_mk H (ne (by omega) (by omega)) (ne (by omega) (by omega)) (ne (by omega) (by omega)) (ne (by omega) (by omega)) (ne (by omega) (by omega)) (ne (by omega) (by omega)) (ne (by omega) (by omega)) (fun j hj => ne (by omega) (by omega)) (fun y hy hy0 => ?_) (k_S_congr 32 (fun y hy => ⟨ne (by omega) (by omega), ne (by omega) (by omega)⟩)) (k_h_congr H.2.1 (ne (by omega) (by omega)) (fun y hy hr => ?_)) (fun h0 => ?_), k_P_eq (ne (by omega) (by omega)) (ne (by omega) (by omega))⟩
  · rw [ne (by omega) (by omega)] at hy0
    exact Or.inl ⟨hy0, ne (by omega) (by omega), ne (by omega) (by omega)⟩
  · rw [s_ring_3 (g := g) (ne (by omega) (by omega)) (ne (by omega) (by omega)) (ne (by omega) (by omega))]
    exact hr
  · rw [ne (by omega) (by omega)] at h0 ⊢
    exact H.2.2.2.2.2 h0
theorem k_an (H : k_K g) {z : Nat} (hz : z < 20) (f t : Int32) : k_K (s_an g z f t) ∧ k_P (s_an g z f t) = k_P g := by
  have ne : ∀ {j : Nat}, j ≠ 6 → (j < 742 ∨ 782 ≤ j) → s_an g z f t j = g j := fun a b => s_an_ne g z f t a (by omega) (by omega)
  refine ⟨k_K_mk H (ne (by omega) (by omega)) (ne (by omega) (by omega)) (ne (by omega) (by omega)) (ne (by omega) (by omega)) (ne (by omega) (by omega)) (ne (by omega) (by omega)) (ne (by omega) (by omega)) (fun j hj => ne (by omega) (by omega)) (fun y hy hy0 => ?_) (k_S_congr 32 (fun y hy => ⟨ne (by omega) (by omega), ne (by omega) (by omega)⟩)) (k_h_congr H.2.1 (ne (by omega) (by omega)) (fun y hy hr => ?_)) (fun h0 => ?_), k_P_eq (ne (by omega) (by omega)) (ne (by omega) (by omega))⟩
  · rw [ne (by omega) (by omega)] at hy0
    exact Or.inl ⟨hy0, ne (by omega) (by omega), ne (by omega) (by omega)⟩
  · rw [s_ring_3 (g := g) (ne (by omega) (by omega)) (ne (by omega) (by omega)) (ne (by omega) (by omega))]
    exact hr
  · exfalso
    have e : s_an g z f t 6 = n32 (z + 1) := by unfold s_an; exact gu_same _ _ _
    rw [e, n32_eq (by omega) (by omega)] at h0
    omega
theorem k_lose (H : k_K g) : k_K (gu g 4 nn) ∧ k_P (gu g 4 nn) ≤ k_P g + 1 := by
  have ne : ∀ {j : Nat}, j ≠ 4 → gu g 4 nn j = g j := fun a => gu_ne _ _ a
  refine ⟨k_K_mk H (ne (by omega)) (ne (by omega)) (ne (by omega)) (ne (by omega)) (ne (by omega)) (ne (by omega)) (ne (by omega)) (fun j hj => ne (by omega)) (fun y hy hy0 => ?_) (k_S_congr 32 (fun y hy => ⟨ne (by omega), ne (by omega)⟩)) (Or.inl (gu_same _ _ _)) (fun h0 => ?_), k_P_le (ne (by omega))⟩
  · rw [ne (by omega)] at hy0
    exact Or.inl ⟨hy0, ne (by omega), ne (by omega)⟩
  · rw [ne (by omega)] at h0 ⊢
    exact H.2.2.2.2.2 h0
theorem k_top (H : k_K g) (x y z : Int32) : k_K (gu (gu (gu g 0 x) 1 y) 2 z) ∧ k_P (gu (gu (gu g 0 x) 1 y) 2 z) = k_P g := by
  have ne : ∀ {j : Nat}, 2 < j → gu (gu (gu g 0 x) 1 y) 2 z j = g j := fun a => by rw [gu_ne _ _ (by omega), gu_ne _ _ (by omega), gu_ne _ _ (by omega)]
  refine ⟨k_K_mk H (ne (by omega)) (ne (by omega)) (ne (by omega)) (ne (by omega)) (ne (by omega)) (ne (by omega)) (ne (by omega)) (fun j hj => ne (by omega)) (fun y hy hy0 => ?_) (k_S_congr 32 (fun y hy => ⟨ne (by omega), ne (by omega)⟩)) (k_h_congr H.2.1 (ne (by omega)) (fun y hy hr => ?_)) (fun h0 => ?_), k_P_eq (ne (by omega)) (ne (by omega))⟩
  · rw [ne (by omega)] at hy0
    exact Or.inl ⟨hy0, ne (by omega), ne (by omega)⟩
  · rw [s_ring_3 (g := g) (ne (by omega)) (ne (by omega)) (ne (by omega))]
    exact hr
  · rw [ne (by omega)] at h0 ⊢
    exact H.2.2.2.2.2 h0
theorem k_sw (H : k_K g) {x : Nat} (hx : x < 32) (on : Bool) : k_K (s_sw g x on) ∧ k_P (s_sw g x on) ≤ k_P g + 1 := by
  have ne : ∀ {j : Nat}, j ≠ 4 → j ≠ 18 + 7 * x + 1 → j ≠ 18 + 7 * x + 2 → s_sw g x on j = g j := fun a b c => by
    unfold s_sw
    split
    · rw [gu_ne _ _ b]
    · split
      · rw [gu_ne _ _ a, gu_ne _ _ c, gu_ne _ _ b]
      · rw [gu_ne _ _ c, gu_ne _ _ b]
  refine ⟨k_K_mk H (ne (by omega) (by omega) (by omega)) (ne (by omega) (by omega) (by omega)) (ne (by omega) (by omega) (by omega)) (ne (by omega) (by omega) (by omega)) (ne (by omega) (by omega) (by omega)) (ne (by omega) (by omega) (by omega)) (ne (by omega) (by omega) (by omega)) (fun j hj => ne (by omega) (by omega) (by omega)) (fun y hy hy0 => ?_) (k_S_congr 32 (fun y hy => ⟨ne (by omega) (by omega) (by omega), ne (by omega) (by omega) (by omega)⟩)) ?_ (fun h0 => ?_), k_P_le (ne (by omega) (by omega) (by omega))⟩
  · rw [ne (by omega) (by omega) (by omega)] at hy0
    exact Or.inl ⟨hy0, ne (by omega) (by omega) (by omega), ne (by omega) (by omega) (by omega)⟩
  · rcases H.2.1 with h | ⟨y, hy, h, r⟩
    · left
      unfold s_sw
      split
      · rw [gu_ne _ _ (by omega)]; exact h
      · split
        · exact gu_same _ _ _
        · rw [gu_ne _ _ (by omega), gu_ne _ _ (by omega)]; exact h
    · by_cases hyx : y = x
      · subst hyx
        unfold s_sw
        by_cases ho : on = true
        · rw [if_pos ho]
          right
          refine ⟨y, hy, by rw [gu_ne _ _ (by omega)]; exact h, ?_⟩
          simp only [s_ring, Bool.and_eq_true, decide_eq_true_eq] at r ⊢
          exact ⟨⟨by rw [gu_ne _ _ (by omega)]; exact r.1.1, gu_same _ _ _⟩, by rw [gu_ne _ _ (by omega)]; exact r.2⟩
        · rw [if_neg ho, if_pos h]
          exact Or.inl (gu_same _ _ _)
      · right
        have e4 : s_sw g x on 4 = g 4 := by
          unfold s_sw
          split
          · rw [gu_ne _ _ (by omega)]
          · rw [if_neg (by rw [h, n32_eq (by omega) (by omega)]; exact hyx), gu_ne _ _ (by omega), gu_ne _ _ (by omega)]
        refine ⟨y, hy, e4.trans h, ?_⟩
        rw [s_ring_3 (g := g) (ne (by omega) (by omega) (by omega)) (ne (by omega) (by omega) (by omega)) (ne (by omega) (by omega) (by omega))]
        exact r
  · rw [ne (by omega) (by omega) (by omega)] at h0 ⊢
    exact H.2.2.2.2.2 h0
/-- the time is bounded -/
theorem k_time (H : k_K g) {V P : Nat} (hV : s_nat g 9 ≤ V) (hP : k_P g ≤ P) : s_nat g 3 ≤ 2000 + 777 * V + 1360 * P := by
  obtain ⟨_, _, _, ⟨⟨w0, w1, w2, w3⟩, c1, c2, l0, b1, b2, b3⟩, _, _⟩ := H
  have n12 : s_nat g 12 = l0 := s_nat_n32 b1 (by omega)
  have n15 : s_nat g 15 ≤ 2000 := by
    by_cases hw : w0 < 2147483648
    · rw [s_nat_n32 w1 hw]; omega
    · omega
  have : l0 ≤ P := by unfold k_P at hP; omega
  have m1 := Nat.mul_le_mul_left 777 hV
  have m2 := Nat.mul_le_mul_left 1360 this
  omega
end CALLS
