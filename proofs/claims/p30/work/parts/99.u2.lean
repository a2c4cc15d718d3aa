/-! TWO LINES, STEP BY STEP: what a visit leaves alone -/
section SAME
variable {g : zG}
theorem w_vis_ne (hN : s_num g) {h : Nat} (hh : h < 32) (hz : g (18 + 7 * h + 0) = n32 1) : (∀ j, (j < 3 ∨ j = 6) → s_vis g h 101 j = g j) ∧ ∀ x, x < 32 → s_vis g h 101 (18 + 7 * x + 0) = g (18 + 7 * x + 0) := by
  obtain ⟨h5, h52, ⟨z, hz6, h6⟩, _, _, _, hst, _⟩ := hN
  have ob := s_ok_begin (show s_ok g from ⟨⟨z, hz6, h6⟩, ⟨_, h5, h52⟩⟩) h
  have st := hst h hh hz
  obtain ⟨nx, hnx, e3⟩ := st.2.2.2.1
  obtain ⟨gp, hgp, e4⟩ := st.2.2.2.2
  have lg : ∀ j, j ≠ 7 → j ≠ 8 → j ≠ 9 → j ≠ 3 → j ≠ 11 → j ≠ 10 → j ≠ 15 → j < 242 → j ≠ 18 + 7 * h + 5 → j ≠ 18 + 7 * h + 6 → s_logged g h 101 (s_nat g 7) j = g j := by
    intro j a0 a1 a2 a3 a4 a5 a6 a7 a8 a9
    unfold s_logged
    rw [s_log_ne _ _ _ _ _ _ a0 (by omega)]
    unfold s_mid
    rw [s_all_ne _ _ _ _ _ a3 a4 a5 a6 (Or.inl a7) ob, s_begin_ne _ _ a1 a2 a8 a9]
  have l3 : s_logged g h 101 (s_nat g 7) (18 + 7 * h + 3) = n32 nx := by
    rw [lg _ (by omega) (by omega) (by omega) (by omega) (by omega) (by omega) (by omega) (by omega) (by omega) (by omega)]; exact e3
  have l4 : s_logged g h 101 (s_nat g 7) (18 + 7 * h + 4) = n32 gp := by
    rw [lg _ (by omega) (by omega) (by omega) (by omega) (by omega) (by omega) (by omega) (by omega) (by omega) (by omega)]; exact e4
  refine ⟨fun j hj => ?_, fun x hx => ?_⟩
  · rw [s_vis_ne _ hh hnx hgp l3 (by omega) (by omega) (by omega) (by omega) (by omega) (by omega)]
    exact lg _ (by omega) (by omega) (by omega) (by omega) (by omega) (by omega) (by omega) (by omega) (by omega) (by omega)
  · obtain ⟨ny, hny, ly⟩ := s_polls_next (gp := gp) (s_logged g h 101 (s_nat g 7)) hh hnx l3
    have epl : s_polls (s_logged g h 101 (s_nat g 7)) h nx gp = s_pl (s_logged g h 101 (s_nat g 7)) h := by unfold s_pl; rw [s_nat_n32 l3 (by omega), s_nat_n32 l4 (by omega)]
    have p56 := s_polls_56 (s_logged g h 101 (s_nat g 7)) (h := h) (nx := nx) (gp := gp) (x := x) (w := 0) (by omega)
    rw [epl] at ly p56
    have eps : s_passes (s_pl (s_logged g h 101 (s_nat g 7)) h) h ny = s_ps (s_pl (s_logged g h 101 (s_nat g 7)) h) h := by unfold s_ps; rw [s_nat_n32 ly (by omega)]
    have q56 := s_passes_56 (s_pl (s_logged g h 101 (s_nat g 7)) h) (h := h) (nx := ny) (x := x) (w := 0) (by omega)
    rw [eps] at q56
    show s_ps (s_pl (s_logged g h 101 (s_nat g 7)) h) h (18 + 7 * x + 0) = _
    rw [q56, p56]
    exact lg _ (by omega) (by omega) (by omega) (by omega) (by omega) (by omega) (by omega) (by omega) (by omega) (by omega)
theorem w_visits_ne {B V : Nat} (hI : s_I g B V) (hB : B ≤ 1800000000) : (∀ j, (j < 3 ∨ j = 6) → s_visits g j = g j) ∧ ∀ x, x < 32 → s_visits g (18 + 7 * x + 0) = g (18 + 7 * x + 0) := by
  have hN := s_I_num hI
  obtain ⟨s, hs, h1⟩ := s_I_1 hI
  have b3 := hI.1.2.2.2.1
  unfold s_visits
  by_cases h4 : g 4 = nn
  · rw [if_pos h4]
    rcases s_h2_on g with e | ⟨x, hx, e, hon⟩
    · rw [if_pos e]; exact ⟨fun _ _ => rfl, fun _ _ => rfl⟩
    · have nh : ¬ s_h2 g = nn := by rw [e, n32_ne (by omega)]; exact not_false
      rw [if_neg nh, e, n32_toNat (by omega)]
      simp only [s_isOn, Bool.and_eq_true, decide_eq_true_eq] at hon
      have T := s_tok_inv hN hs h1 hx hon.2 (by omega)
      have tn : ∀ {j : Nat}, j ≠ 3 → j ≠ 4 → j ≠ 12 → j ≠ 18 + 7 * x + 2 → j ≠ 18 + 7 * x + 3 → s_tok g x j = g j := fun a b c d e => s_tok_ne g a b c d e
      obtain ⟨a, b⟩ := w_vis_ne T.1 hx (by rw [tn (by omega) (by omega) (by omega) (by omega) (by omega)]; exact hon.1)
      exact ⟨fun j hj => (a j hj).trans (tn (by omega) (by omega) (by omega) (by omega) (by omega)), fun y hy => (b y hy).trans (tn (by omega) (by omega) (by omega) (by omega) (by omega))⟩
  · rw [if_neg h4]
    rcases s_I_hol hI with e | ⟨x, hx, e, hz⟩
    · exact absurd e h4
    · rw [s_nat_n32 e (by omega)]
      exact w_vis_ne hN hx hz
end SAME
/-! alike lines, behind the other calls -/
section ALK2
variable {g g' : zG}
theorem alk_adds (h : s_alk g g') {x : Nat} (hx : x < 32) : s_alk (s_adds g x) (s_adds g' x) := by
  unfold s_adds
  exact alk_gu (alk_gu (alk_gu (alk_gu (alk_gu (alk_gu (alk_gu h (by omega) (Or.inl (by omega)) _) (by omega) (Or.inl (by omega)) _) (by omega) (Or.inl (by omega)) _) (by omega) (Or.inl (by omega)) _) (by omega) (Or.inl (by omega)) _) (by omega) (Or.inl (by omega)) _) (by omega) (Or.inl (by omega)) _
theorem alk_sw (h : s_alk g g') {x : Nat} (hx : x < 32) (on : Bool) : s_alk (s_sw g x on) (s_sw g' x on) := by
  unfold s_sw
  rw [alk_at h (j := 4) (by omega) (by omega)]
  split
  · exact alk_gu h (by omega) (Or.inl (by omega)) _
  · split
    · exact alk_gu (alk_gu (alk_gu h (by omega) (Or.inl (by omega)) _) (by omega) (Or.inl (by omega)) _) (by omega) (Or.inl (by omega)) _
    · exact alk_gu (alk_gu h (by omega) (Or.inl (by omega)) _) (by omega) (Or.inl (by omega)) _
theorem alk_gives (h : s_alk g g') {q : Nat} (hq : q < 100) (x l u : Int32) : s_alk (s_gives g q x l u) (s_gives g' q x l u) := by
  unfold s_gives
  rw [alk_at h (j := 3) (by omega) (by omega)]
  exact alk_gu (alk_gu (alk_gu (alk_gu (alk_gu (alk_gu h (by omega) (Or.inl (by omega)) _) (by omega) (Or.inl (by omega)) _) (by omega) (Or.inl (by omega)) _) (by omega) (Or.inl (by omega)) _) (by omega) (Or.inl (by omega)) _) (by omega) (Or.inl (by omega)) _
theorem alk_top (h : s_alk g g') (x y z : Int32) : s_alk (gu (gu (gu g 0 x) 1 y) 2 z) (gu (gu (gu g' 0 x) 1 y) 2 z) :=
  alk_gu (alk_gu (alk_gu h (by omega) (Or.inl (by omega)) _) (by omega) (Or.inl (by omega)) _) (by omega) (Or.inl (by omega)) _
theorem s_loud_an {z : Nat} (hz : z < 20) (h6 : g 6 = n32 z) (x y f t : Int32) : s_loud (s_an g z x y) f t = (s_loud g f t || (decide (x ≤ t) && decide (f ≤ y))) := by
  have e6 : s_an g z x y 6 = n32 (z + 1) := by unfold s_an; exact gu_same _ _ _
  unfold s_loud
  rw [e6, h6, n32_toNat (by omega), n32_toNat (by omega)]
  show (_ || (decide (s_an g z x y (742 + 2 * z) ≤ t) && decide (f ≤ s_an g z x y (742 + 2 * z + 1)))) = _
  have c0 : s_an g z x y (742 + 2 * z) = x := by unfold s_an; rw [gu_ne _ _ (by omega), gu_ne _ _ (by omega), gu_same]
  have c1 : s_an g z x y (742 + 2 * z + 1) = y := by unfold s_an; rw [gu_ne _ _ (by omega), gu_same]
  rw [c0, c1]
  congr 1
  refine s_any_congr z (fun k hk => ?_)
  show (decide (s_an g z x y (742 + 2 * k) ≤ t) && decide (f ≤ s_an g z x y (742 + 2 * k + 1))) = _
  rw [s_an_ne _ _ _ _ (by omega) (by omega) (by omega), s_an_ne _ _ _ _ (by omega) (by omega) (by omega)]
theorem alk_an (h : s_alk g g') {z z' : Nat} (hz : z + 1 < 20) (hz' : z' < 20) (h6 : g 6 = n32 z) (h6' : g' 6 = n32 z') (x y : Int32) : s_alk (s_an (s_an g z x y) (z + 1) x y) (s_an g' z' x y) := by
  have e6 : s_an g z x y 6 = n32 (z + 1) := by unfold s_an; exact gu_same _ _ _
  have e62 : s_an (s_an g z x y) (z + 1) x y 6 = n32 (z + 1 + 1) := by unfold s_an; exact gu_same _ _ _
  have e6' : s_an g' z' x y 6 = n32 (z' + 1) := by unfold s_an; exact gu_same _ _ _
  refine ⟨fun j h1 h2 => ?_, by rw [s_nat_n32 e62 (by omega)]; omega, by rw [s_nat_n32 e6' (by omega)]; omega, fun f t => ?_⟩
  · rw [s_an_ne _ _ _ _ h1 (by omega) (by omega), s_an_ne _ _ _ _ h1 (by omega) (by omega), s_an_ne _ _ _ _ h1 (by omega) (by omega)]
    exact h.1 j h1 h2
  · rw [s_loud_an hz' h6', s_loud_an hz e6, s_loud_an (by omega) h6, h.2.2.2]
    generalize s_loud g f t = a
    generalize (decide (x ≤ t) && decide (f ≤ y)) = c
    cases a <;> cases c <;> rfl
/-! how many stations -/
theorem s_ns_congr (h : ∀ x, x < 32 → g' (18 + 7 * x + 0) = g (18 + 7 * x + 0)) : s_ns g' = s_ns g := by
  unfold s_ns
  exact s_cnt_congr 32 (fun x hx => by unfold s_is; rw [h x hx])
theorem s_cnt_up {P P' : Nat → Bool} {m : Nat} (hP : P m = false) (hP' : P' m = true) (he : ∀ k, k ≠ m → P' k = P k) : ∀ k, (k ≤ m → s_cnt P' k = s_cnt P k) ∧ (m < k → s_cnt P' k = s_cnt P k + 1)
  | 0 => ⟨fun _ => rfl, fun h => by omega⟩
  | k + 1 => by
    obtain ⟨a, b⟩ := s_cnt_up hP hP' he k
    unfold s_cnt
    refine ⟨fun h => ?_, fun h => ?_⟩
    · rw [a (by omega), he k (by omega)]
    · by_cases hk : k = m
      · subst hk
        rw [a (Nat.le_refl _), hP, hP']
        rfl
      · rw [b (by omega), he k hk]
        omega
theorem s_ns_adds {x : Nat} (hx : x < 32) (hz : ¬ g (18 + 7 * x + 0) = n32 1) : s_ns (s_adds g x) = s_ns g + 1 := by
  have f0 : s_adds g x (18 + 7 * x + 0) = n32 1 := by unfold s_adds; rw [gu_ne _ _ (by omega), gu_ne _ _ (by omega), gu_ne _ _ (by omega), gu_ne _ _ (by omega), gu_ne _ _ (by omega), gu_ne _ _ (by omega), gu_same]
  unfold s_ns
  refine (s_cnt_up (m := x) (by unfold s_is; exact decide_eq_false hz) (by unfold s_is; exact decide_eq_true f0) (fun k hk => ?_) 32).2 hx
  unfold s_is
  rw [s_adds_ne g x (by omega)]
end ALK2
/-! visits one behind the other -/
theorem s_it_add (g : zG) (a : Nat) : ∀ c, s_it g (a + c) = s_it (s_it g a) c
  | 0 => rfl
  | c + 1 => by
    show s_visits (s_it g (a + c)) = s_visits (s_it (s_it g a) c)
    rw [s_it_add g a c]
theorem w_it {g g' : zG} {V m : Nat} (hA : s_alk g g') (hm : m ≤ 200) (hV : V ≤ 1000000) (hI : ∀ j, j ≤ m → s_I (s_it g j) (900000 + 4200 * j) (V + j)) : ∀ j, j ≤ m → s_alk (s_it g j) (s_it g' j) ∧ s_it g j 6 = g 6 ∧ (∀ x, x < 32 → s_it g j (18 + 7 * x + 0) = g (18 + 7 * x + 0))
  | 0, _ => ⟨hA, rfl, fun _ _ => rfl⟩
  | j + 1, hj => by
    obtain ⟨a, b, c⟩ := w_it hA hm hV hI j (by omega)
    have I := hI j (by omega)
    obtain ⟨n1, n2⟩ := w_visits_ne I (by omega)
    exact ⟨alk_visits a I (by omega), (n1 6 (by omega)).trans b, fun x hx => (n2 x hx).trans (c x hx)⟩
theorem w_itK {g : zG} {V m : Nat} (hK : k_K g) (hP : k_P g ≤ 100000) (hm : m ≤ 200) (hV : V ≤ 1000000) (hI : ∀ j, j ≤ m → s_I (s_it g j) (900000 + 4200 * j) (V + j)) : ∀ j, j ≤ m → k_K (s_it g j) ∧ k_P (s_it g j) ≤ k_P g ∧ ∀ i, i ≤ j → s_nat (s_it g i) 3 ≤ s_nat (s_it g j) 3
  | 0, _ => ⟨hK, Nat.le_refl _, fun i hi => by obtain rfl : i = 0 := by omega
                                               exact Nat.le_refl _⟩
  | j + 1, hj => by
    obtain ⟨a, b, c⟩ := w_itK hK hP hm hV hI j (by omega)
    have I := hI j (by omega)
    obtain ⟨n1, n2, n3⟩ := k_visits I (by omega) (by omega) a (by omega)
    refine ⟨n1, Nat.le_trans n2 b, fun i hi => ?_⟩
    by_cases e : i = j + 1
    · subst e; exact Nat.le_refl _
    · exact Nat.le_trans (c i (by omega)) n3
