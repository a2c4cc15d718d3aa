/-! WHAT IS SAID AT REST stays behind the calls -/
section REST
variable {g g' : zG} {B V : Nat}
theorem s_I_mk (H : s_I g B V) (h3 : g' 3 = g 3) (h5 : g' 5 = g 5) (h6 : ∃ z, z ≤ 20 ∧ g' 6 = n32 z) (h2 : ∃ gg, 1 ≤ gg ∧ gg ≤ 20 ∧ g' 2 = n32 gg) (h1 : ∃ s, s ≤ 20 ∧ g' 1 = n32 s) (h7 : g' 7 = g 7) (h9 : g' 9 = g 9) (h10 : g' 10 = g 10) (hm : ∀ m w, m < s_nat g 5 → w < 5 → g' (242 + 5 * m + w) = g (242 + 5 * m + w)) (hst : s_sta g') (hol : s_hol g') (hon : s_hon g') (hz : ∀ x, x < 32 → g (18 + 7 * x + 0) = n32 1 → g' (18 + 7 * x + 0) = n32 1) : s_I g' B V := by
  obtain ⟨⟨⟨a5, a52, _, _, hmo, hb, _, mv, hmv, a9, a7⟩, _, _, hB, hV⟩, _, hd, hw⟩ := H
  have n5 : s_nat g' 5 = s_nat g 5 := by unfold s_nat; rw [h5]
  have n3 : s_nat g' 3 = s_nat g 3 := by unfold s_nat; rw [h3]
  have n9 : s_nat g' 9 = s_nat g 9 := by unfold s_nat; rw [h9]
  refine ⟨⟨⟨by rw [n5]; exact a5, by rw [n5, h5]; exact a52, h6, h2, s_mo_t (d := 0) hmo (by rw [h3]; exact hmo.1) (by omega) h5 (fun m hm' => ⟨hm m 0 hm' (by decide), hm m 3 hm' (by decide)⟩), by rw [n3]; exact hb, hst, mv, hmv, by rw [h9]; exact a9, by rw [h7]; exact a7⟩, h1, hol, by rw [n3]; exact hB, by rw [n9]; exact hV⟩, hon, s_ds_congr h10 h5 (fun m hm' => hm m 4 hm' (by decide)) hd, ?_⟩
  intro m hm'
  rw [n5] at hm'
  obtain ⟨y, hy, e1, e2⟩ := hw m hm'
  exact ⟨y, hy, by rw [hm m 2 hm' (by decide)]; exact e1, hz y hy e2⟩
theorem s_I_1 (H : s_I g B V) : ∃ s, s ≤ 20 ∧ g 1 = n32 s := H.1.2.1
theorem s_I_2 (H : s_I g B V) : ∃ gg, 1 ≤ gg ∧ gg ≤ 20 ∧ g 2 = n32 gg := H.1.1.2.2.2.1
theorem s_I_6 (H : s_I g B V) : ∃ z, z ≤ 20 ∧ g 6 = n32 z := H.1.1.2.2.1
theorem s_I_sta (H : s_I g B V) : s_sta g := H.1.1.2.2.2.2.2.2.1
theorem s_I_hol (H : s_I g B V) : s_hol g := H.1.2.2.1
theorem s_I_hon (H : s_I g B V) : s_hon g := H.2.1
theorem s_I_num (H : s_I g B V) : s_num g := H.1.1
theorem s_I_5 (H : s_I g B V) : s_nat g 5 ≤ 100 ∧ g 5 = n32 (s_nat g 5) := ⟨H.1.1.1, H.1.1.2.1⟩
theorem s_I_sw (H : s_I g B V) {x : Nat} (hx : x < 32) (hz : g (18 + 7 * x + 0) = n32 1) (on : Bool) : s_I (s_sw g x on) B V := by
  have st := s_I_sta H
  have sx := st x hx hz
  have h4n : ∀ y, y < 32 → g 4 = n32 y → ¬ g 4 = n32 x → y ≠ x := fun y hy he hn hyx => hn (by rw [← hyx]; exact he)
  unfold s_sw
  cases on with
  | true =>
    rw [if_pos rfl]
    refine s_I_mk H (gu_ne _ _ (by omega)) (gu_ne _ _ (by omega)) (by rw [gu_ne _ _ (by omega)]; exact s_I_6 H) (by rw [gu_ne _ _ (by omega)]; exact s_I_2 H) (by rw [gu_ne _ _ (by omega)]; exact s_I_1 H) (gu_ne _ _ (by omega)) (gu_ne _ _ (by omega)) (gu_ne _ _ (by omega)) (fun m w _ _ => gu_ne _ _ (by omega)) (fun y hy h0 => ?_) ?_ ?_ (fun y hy h0 => by rw [gu_ne _ _ (by omega)]; exact h0)
    · rw [gu_ne _ _ (by omega)] at h0
      have := st y hy h0
      by_cases hyx : y = x
      · subst hyx
        simp (disch := omega) only [gu_ne, gu_same]
        exact ⟨Or.inr trivial, this.2.1, fun _ => trivial, this.2.2.2⟩
      · simp (disch := omega) only [gu_ne]
        exact this
    · rcases s_I_hol H with h | ⟨y, hy, h1, h2⟩
      · exact Or.inl (by rw [gu_ne _ _ (by omega)]; exact h)
      · exact Or.inr ⟨y, hy, by rw [gu_ne _ _ (by omega)]; exact h1, by rw [gu_ne _ _ (by omega)]; exact h2⟩
    · rcases s_I_hon H with h | ⟨y, hy, h1, h2⟩
      · exact Or.inl (by rw [gu_ne _ _ (by omega)]; exact h)
      · refine Or.inr ⟨y, hy, by rw [gu_ne _ _ (by omega)]; exact h1, ?_⟩
        by_cases hyx : y = x
        · subst hyx; rw [gu_same]
        · rw [gu_ne _ _ (by omega)]; exact h2
  | false =>
    have sta2 : s_sta (gu (gu g (18 + 7 * x + 1) (n32 0)) (18 + 7 * x + 2) (n32 0)) := by
      intro y hy h0
      rw [gu_ne _ _ (by omega), gu_ne _ _ (by omega)] at h0
      have := st y hy h0
      by_cases hyx : y = x
      · subst hyx
        simp (disch := omega) only [gu_ne, gu_same]
        exact ⟨Or.inl trivial, Or.inl trivial, fun he => absurd he (by decide), this.2.2.2⟩
      · simp (disch := omega) only [gu_ne]
        exact this
    by_cases h4 : g 4 = n32 x
    · rw [if_neg (by decide), if_pos h4]
      have nn' : ∀ {j : Nat}, j ≠ 4 → j ≠ 18 + 7 * x + 2 → j ≠ 18 + 7 * x + 1 → gu (gu (gu g (18 + 7 * x + 1) (n32 0)) (18 + 7 * x + 2) (n32 0)) 4 nn j = g j := fun a b c => by rw [gu_ne _ _ a, gu_ne _ _ b, gu_ne _ _ c]
      exact s_I_mk H (nn' (by omega) (by omega) (by omega)) (nn' (by omega) (by omega) (by omega)) (by rw [nn' (by omega) (by omega) (by omega)]; exact s_I_6 H) (by rw [nn' (by omega) (by omega) (by omega)]; exact s_I_2 H) (by rw [nn' (by omega) (by omega) (by omega)]; exact s_I_1 H) (nn' (by omega) (by omega) (by omega)) (nn' (by omega) (by omega) (by omega)) (nn' (by omega) (by omega) (by omega)) (fun m w _ _ => nn' (by omega) (by omega) (by omega)) (s_sta_gu4 sta2) (Or.inl (gu_same _ _ _)) (Or.inl (gu_same _ _ _)) (fun y hy h0 => by rw [nn' (by omega) (by omega) (by omega)]; exact h0)
    · rw [if_neg (by decide), if_neg h4]
      have nn' : ∀ {j : Nat}, j ≠ 18 + 7 * x + 2 → j ≠ 18 + 7 * x + 1 → gu (gu g (18 + 7 * x + 1) (n32 0)) (18 + 7 * x + 2) (n32 0) j = g j := fun b c => by rw [gu_ne _ _ b, gu_ne _ _ c]
      refine s_I_mk H (nn' (by omega) (by omega)) (nn' (by omega) (by omega)) (by rw [nn' (by omega) (by omega)]; exact s_I_6 H) (by rw [nn' (by omega) (by omega)]; exact s_I_2 H) (by rw [nn' (by omega) (by omega)]; exact s_I_1 H) (nn' (by omega) (by omega)) (nn' (by omega) (by omega)) (nn' (by omega) (by omega)) (fun m w _ _ => nn' (by omega) (by omega)) sta2 ?_ ?_ (fun y hy h0 => by rw [nn' (by omega) (by omega)]; exact h0)
      · rcases s_I_hol H with h | ⟨y, hy, h1, h2⟩
        · exact Or.inl (by rw [nn' (by omega) (by omega)]; exact h)
        · exact Or.inr ⟨y, hy, by rw [nn' (by omega) (by omega)]; exact h1, by rw [nn' (by omega) (by omega)]; exact h2⟩
      · rcases s_I_hon H with h | ⟨y, hy, h1, h2⟩
        · exact Or.inl (by rw [nn' (by omega) (by omega)]; exact h)
        · have := h4n y hy h1 h4
          exact Or.inr ⟨y, hy, by rw [nn' (by omega) (by omega)]; exact h1, by rw [nn' (by omega) (by omega)]; exact h2⟩
theorem s_I_lose (H : s_I g B V) : s_I (gu g 4 nn) B V :=
  s_I_mk H (gu_ne _ _ (by omega)) (gu_ne _ _ (by omega)) (by rw [gu_ne _ _ (by omega)]; exact s_I_6 H) (by rw [gu_ne _ _ (by omega)]; exact s_I_2 H) (by rw [gu_ne _ _ (by omega)]; exact s_I_1 H) (gu_ne _ _ (by omega)) (gu_ne _ _ (by omega)) (gu_ne _ _ (by omega)) (fun m w _ _ => gu_ne _ _ (by omega)) (s_sta_gu4 (s_I_sta H)) (Or.inl (gu_same _ _ _)) (Or.inl (gu_same _ _ _)) (fun y hy h0 => by rw [gu_ne _ _ (by omega)]; exact h0)
theorem s_hol_gu (H : s_hol g) (h : ∀ j, 3 < j → g' j = g j) : s_hol g' := by
  rcases H with a | ⟨y, hy, h1, h2⟩
  · exact Or.inl (by rw [h _ (by omega)]; exact a)
  · exact Or.inr ⟨y, hy, by rw [h _ (by omega)]; exact h1, by rw [h _ (by omega)]; exact h2⟩
theorem s_hon_gu (H : s_hon g) (h : ∀ j, 3 < j → g' j = g j) : s_hon g' := by
  rcases H with a | ⟨y, hy, h1, h2⟩
  · exact Or.inl (by rw [h _ (by omega)]; exact a)
  · exact Or.inr ⟨y, hy, by rw [h _ (by omega)]; exact h1, by rw [h _ (by omega)]; exact h2⟩
theorem s_I_top (H : s_I g B V) (h : ∀ j, 2 < j → g' j = g j) (h1 : ∃ s, s ≤ 20 ∧ g' 1 = n32 s) (h2 : ∃ gg, 1 ≤ gg ∧ gg ≤ 20 ∧ g' 2 = n32 gg) : s_I g' B V :=
  s_I_mk H (h _ (by omega)) (h _ (by omega)) (by rw [h _ (by omega)]; exact s_I_6 H) h2 h1 (h _ (by omega)) (h _ (by omega)) (h _ (by omega)) (fun m w _ _ => h _ (by omega)) (s_sta_congr (fun j _ _ => h j (by omega)) (s_I_sta H)) (s_hol_gu (s_I_hol H) (fun j hj => h j (by omega))) (s_hon_gu (s_I_hon H) (fun j hj => h j (by omega))) (fun y hy h0 => by rw [h _ (by omega)]; exact h0)
theorem s_I_an (H : s_I g B V) {z : Nat} (hz : z < 20) (f t : Int32) : s_I (s_an g z f t) B V := by
  have sn : ∀ {j : Nat}, j ≠ 6 → j < 742 → s_an g z f t j = g j := fun a b => s_an_ne g z f t a (by omega) (by omega)
  have q5 := (s_I_5 H).1
  have sta' : s_sta (s_an g z f t) := s_sta_congr (fun j _ _ => sn (by omega) (by omega)) (s_I_sta H)
  refine s_I_mk H (sn (by omega) (by omega)) (sn (by omega) (by omega)) ⟨z + 1, by omega, gu_same _ _ _⟩ (by rw [sn (by omega) (by omega)]; exact s_I_2 H) (by rw [sn (by omega) (by omega)]; exact s_I_1 H) (sn (by omega) (by omega)) (sn (by omega) (by omega)) (sn (by omega) (by omega)) (fun m w _ _ => sn (by omega) (by omega)) sta' ?_ ?_ (fun y hy h0 => by rw [sn (by omega) (by omega)]; exact h0)
  · rcases s_I_hol H with h | ⟨y, hy, h1, h2⟩
    · exact Or.inl (by rw [sn (by omega) (by omega)]; exact h)
    · exact Or.inr ⟨y, hy, by rw [sn (by omega) (by omega)]; exact h1, by rw [sn (by omega) (by omega)]; exact h2⟩
  · rcases s_I_hon H with h | ⟨y, hy, h1, h2⟩
    · exact Or.inl (by rw [sn (by omega) (by omega)]; exact h)
    · exact Or.inr ⟨y, hy, by rw [sn (by omega) (by omega)]; exact h1, by rw [sn (by omega) (by omega)]; exact h2⟩
theorem s_I_adds (H : s_I g B V) {x : Nat} (hx : x < 32) (hz : ¬ g (18 + 7 * x + 0) = n32 1) : s_I (s_adds g x) B V := by
  have sn : ∀ {j : Nat}, (j < 18 + 7 * x ∨ 18 + 7 * x + 7 ≤ j) → s_adds g x j = g j := fun h => s_adds_ne g x h
  have hne : ∀ y, y < 32 → g (18 + 7 * y + 0) = n32 1 → y ≠ x := fun y hy h0 he => hz (by rw [← he]; exact h0)
  have q5 := (s_I_5 H).1
  refine s_I_mk H (sn (by omega)) (sn (by omega)) (by rw [sn (by omega)]; exact s_I_6 H) (by rw [sn (by omega)]; exact s_I_2 H) (by rw [sn (by omega)]; exact s_I_1 H) (sn (by omega)) (sn (by omega)) (sn (by omega)) (fun m w _ _ => sn (by omega)) (fun y hy h0 => ?_) ?_ ?_ (fun y hy h0 => by have := hne y hy h0; rw [sn (by omega)]; exact h0)
  · by_cases hyx : y = x
    · subst hyx
      unfold s_adds
      simp (disch := omega) only [gu_ne, gu_same]
      exact ⟨Or.inr trivial, Or.inl trivial, fun _ => trivial, ⟨y, hy, rfl⟩, ⟨y, hy, rfl⟩⟩
    · rw [sn (by omega)] at h0
      rw [sn (by omega), sn (by omega), sn (by omega), sn (by omega)]
      exact s_I_sta H y hy h0
  · rcases s_I_hol H with h | ⟨y, hy, h1, h2⟩
    · exact Or.inl (by rw [sn (by omega)]; exact h)
    · have := hne y hy h2
      exact Or.inr ⟨y, hy, by rw [sn (by omega)]; exact h1, by rw [sn (by omega)]; exact h2⟩
  · rcases s_I_hon H with h | ⟨y, hy, h1, h2⟩
    · exact Or.inl (by rw [sn (by omega)]; exact h)
    · rcases s_I_hol H with h | ⟨y', hy', h1', h2'⟩
      · rw [h] at h1
        have h3 : n32 y = nn := h1.symm
        rw [n32_ne (by omega)] at h3
        exact h3.elim
      · rw [h1', n32_eq (by omega) (by omega)] at h1
        subst h1
        have := hne y' hy' h2'
        exact Or.inr ⟨y', hy, by rw [sn (by omega)]; exact h1', by rw [sn (by omega)]; exact h2⟩
theorem s_I_gives (H : s_I g B V) {q x l : Nat} (h5 : g 5 = n32 q) (hq : q < 100) (hx : x < 32) (hz : g (18 + 7 * x + 0) = n32 1) (hl1 : 1 ≤ l) (hl2 : l ≤ 20) (U : Int32) : s_I (s_gives g q (n32 x) (n32 l) U) B V := by
  have sn : ∀ {j : Nat}, j ≠ 5 → (j < 242 + 5 * q ∨ 242 + 5 * q + 5 ≤ j) → s_gives g q (n32 x) (n32 l) U j = g j := fun a b => s_gives_ne _ _ _ _ _ a b
  have nq : s_nat g 5 = q := s_nat_n32 h5 (by omega)
  have n5 := s_gives_n5 (g := g) (x := x) (L := n32 l) (U := U) hq
  have g5 := s_gives_5 g q (n32 x) (n32 l) U
  obtain ⟨g0, g1, g2, g3, g4⟩ := s_gives_q g q (n32 x) (n32 l) U
  have st := s_I_sta H
  have ho := s_I_hol H
  have hon := s_I_hon H
  have h6 := s_I_6 H
  have h2 := s_I_2 H
  have h1 := s_I_1 H
  obtain ⟨⟨⟨a5, a52, _, _, hmo, hb, _, mv, hmv, a9, a7⟩, _, _, hB, hV⟩, _, hd, hw⟩ := H
  have e3 : s_gives g q (n32 x) (n32 l) U 3 = g 3 := sn (by omega) (by omega)
  have n3 : s_nat (s_gives g q (n32 x) (n32 l) U) 3 = s_nat g 3 := by unfold s_nat; rw [e3]
  have n9 : s_nat (s_gives g q (n32 x) (n32 l) U) 9 = s_nat g 9 := by unfold s_nat; rw [sn (by omega) (by omega)]
  refine ⟨⟨⟨by omega, by rw [n5]; exact g5, by rw [sn (by omega) (by omega)]; exact h6, by rw [sn (by omega) (by omega)]; exact h2, ⟨by rw [n3, e3]; exact hmo.1, fun m hm => ?_⟩, by rw [n3]; exact hb, s_sta_congr (fun j _ _ => sn (by omega) (by omega)) st, mv, hmv, by rw [sn (by omega) (by omega)]; exact a9, by rw [sn (by omega) (by omega)]; exact a7⟩, by rw [sn (by omega) (by omega)]; exact h1, ?_, by rw [n3]; exact hB, by rw [n9]; exact hV⟩, ?_, ?_, fun m hm => ?_⟩
  · rw [n5] at hm
    rw [n3]
    by_cases hmq : m = q
    · subst hmq
      exact ⟨⟨l, hl1, hl2, g0⟩, s_nat g 3, Nat.le_refl _, by rw [g3]; exact hmo.1⟩
    · rw [sn (by omega) (by omega), sn (by omega) (by omega)]
      exact hmo.2 m (by omega)
  · rcases ho with h | ⟨y, hy, h1, h2⟩
    · exact Or.inl (by rw [sn (by omega) (by omega)]; exact h)
    · exact Or.inr ⟨y, hy, by rw [sn (by omega) (by omega)]; exact h1, by rw [sn (by omega) (by omega)]; exact h2⟩
  · rcases hon with h | ⟨y, hy, h1, h2⟩
    · exact Or.inl (by rw [sn (by omega) (by omega)]; exact h)
    · exact Or.inr ⟨y, hy, by rw [sn (by omega) (by omega)]; exact h1, by rw [sn (by omega) (by omega)]; exact h2⟩
  · unfold s_ds
    rw [n5, sn (by omega) (by omega)]
    have hd2 : g 10 = n32 (s_cnt (s_done g) (s_nat g 5)) := hd
    have e1 : s_cnt (s_done (s_gives g q (n32 x) (n32 l) U)) (q + 1) = s_cnt (s_done (s_gives g q (n32 x) (n32 l) U)) q + (if s_done (s_gives g q (n32 x) (n32 l) U) q = true then 1 else 0) := rfl
    have e2 : s_done (s_gives g q (n32 x) (n32 l) U) q = false := by unfold s_done; rw [g4]; rfl
    rw [e1, e2, s_cnt_congr (P := s_done g) q (fun m hm => by unfold s_done; rw [sn (by omega) (by omega)]), hd2, nq]
    rfl
  · rw [n5] at hm
    by_cases hmq : m = q
    · subst hmq
      exact ⟨x, hx, g2, by rw [sn (by omega) (by omega)]; exact hz⟩
    · obtain ⟨y, hy, e1, e2⟩ := hw m (by omega)
      exact ⟨y, hy, by rw [sn (by omega) (by omega)]; exact e1, by rw [sn (by omega) (by omega)]; exact e2⟩
end REST
