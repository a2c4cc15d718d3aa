/-! THE SEARCHES OF ALIKE LINES -/
theorem s_fst_congr {P P' : Nat → Bool} : ∀ n lo, (∀ j, lo ≤ j → j < lo + n → P' j = P j) → s_fst P' n lo = s_fst P n lo
  | 0, _, _ => rfl
  | n + 1, lo, h => by
    unfold s_fst
    rw [h lo (Nat.le_refl _) (by omega), s_fst_congr n (lo + 1) (fun j h1 h2 => h j (by omega) (by omega))]
section SEARCH
variable {g g' : zG}
theorem alk_compl (h : s_alk g g') : ∀ k, k ≤ 32 → s_compl g' k = s_compl g k
  | 0, _ => rfl
  | k + 1, hk => by
    unfold s_compl
    rw [alk_compl h k (by omega), alk_at h (j := 18 + 7 * k + 0) (by omega) (by omega), alk_at h (j := 18 + 7 * k + 1) (by omega) (by omega), alk_at h (j := 18 + 7 * k + 2) (by omega) (by omega)]
theorem alk_len (h : s_alk g g') (h5 : s_nat g 5 ≤ 100) (x : Nat) : s_len g' x = s_len g x := by
  unfold s_len
  rw [alk_nat h (j := 5) (by omega) (by omega), s_cnt_congr (P := s_wt g (n32 x)) (P' := s_wt g' (n32 x)) _ (fun m hm => by
    unfold s_wt
    rw [alk_at h (j := 242 + 5 * m + 2) (by omega) (by omega), alk_at h (j := 242 + 5 * m + 4) (by omega) (by omega)])]
theorem alk_wtn (h : s_alk g g') (h5 : s_nat g 5 ≤ 100) : ∀ k, k ≤ 32 → s_wtn g' k = s_wtn g k
  | 0, _ => rfl
  | k + 1, hk => by
    unfold s_wtn
    rw [alk_wtn h h5 k (by omega), alk_isOn h (by omega), alk_len h h5]
theorem alk_it {m : Nat} (hA : s_alk g g') (hI : ∀ j, j ≤ m → ∃ B V, B ≤ 1800000000 ∧ s_I (s_it g j) B V) : ∀ j, j ≤ m → s_alk (s_it g j) (s_it g' j)
  | 0, _ => hA
  | j + 1, hj => by
    obtain ⟨B, V, hB, I⟩ := hI j (by omega)
    exact alk_visits (alk_it hA hI j (by omega)) I hB
theorem alk_ca (hA : s_alk g g') (hI : ∀ j, j ≤ 300 → ∃ B V, B ≤ 1800000000 ∧ s_I (s_it g j) B V) : s_ca g' = s_ca g := by
  have T := alk_it hA hI
  have e : s_cj g' = s_cj g := s_fst_congr 300 0 (fun j _ hj => alk_compl (T j (by omega)) 32 (Nat.le_refl _))
  have l := (s_fst_p (fun j => s_compl (s_it g j) 32) 300 0).2.1
  have l' : s_cj g ≤ 300 := by
    show s_fst (fun j => s_compl (s_it g j) 32) 300 0 ≤ 300
    omega
  unfold s_ca
  rw [e, alk_compl (T _ l') 32 (Nat.le_refl _)]
theorem alk_wa (hA : s_alk g g') (hI : ∀ j, j ≤ 300 → ∃ B V, B ≤ 1800000000 ∧ s_I (s_it g j) B V) {m : Nat} (hm : m < 100) : s_wa g' m = s_wa g m := by
  have T := alk_it hA hI
  have e : s_wj g' m = s_wj g m := s_fst_congr 300 0 (fun j _ hj => by rw [alk_at (T j (by omega)) (by omega) (by omega)])
  have l := (s_fst_p (fun j => !decide (s_it g j (242 + 5 * m + 4) = nn)) 300 0).2.1
  have l' : s_wj g m ≤ 300 := by
    show s_fst (fun j => !decide (s_it g j (242 + 5 * m + 4) = nn)) 300 0 ≤ 300
    omega
  unfold s_wa
  rw [e, alk_at (T _ l') (by omega) (by omega)]
theorem alk_lb (hA : s_alk g g') {vis i : Nat} (hI : ∀ j, j ≤ vis → ∃ B V, B ≤ 1800000000 ∧ s_I (s_it (gu g 0 (n32 (20 * (i + 1)))) j) B V) : s_lb g' vis i = s_lb g vis i := by
  have T := alk_it (alk_gu hA (k := 0) (by omega) (Or.inl (by omega)) (n32 (20 * (i + 1)))) hI
  have W : ∀ j, j ≤ vis → s_wtn (s_it (gu g' 0 (n32 (20 * (i + 1)))) j) 32 = s_wtn (s_it (gu g 0 (n32 (20 * (i + 1)))) j) 32 := fun j hj => by
    obtain ⟨B, V, hB, I⟩ := hI j hj
    exact alk_wtn (T j hj) (s_I_5 I).1 32 (Nat.le_refl _)
  have e : s_lj (gu g' 0 (n32 (20 * (i + 1)))) vis = s_lj (gu g 0 (n32 (20 * (i + 1)))) vis := s_fst_congr vis 0 (fun j _ hj => by rw [W j (by omega)])
  have l := (s_fst_p (fun j => !decide (0 < s_wtn (s_it (gu g 0 (n32 (20 * (i + 1)))) j) 32)) vis 0).2.1
  have l' : s_lj (gu g 0 (n32 (20 * (i + 1)))) vis ≤ vis := by
    show s_fst (fun j => !decide (0 < s_wtn (s_it (gu g 0 (n32 (20 * (i + 1)))) j) 32)) vis 0 ≤ vis
    omega
  unfold s_lb s_lx
  rw [e, W _ l']
theorem alk_la (hA : s_alk g g') {vis : Nat} (hI : ∀ i, i < 20 → ∀ j, j ≤ vis → ∃ B V, B ≤ 1800000000 ∧ s_I (s_it (gu g 0 (n32 (20 * (i + 1)))) j) B V) : s_la g' vis = s_la g vis := by
  have e : s_fst (s_lb g' vis) 20 0 = s_fst (s_lb g vis) 20 0 := s_fst_congr 20 0 (fun j _ hj => alk_lb hA (hI j (by omega)))
  unfold s_la
  rw [e]
theorem w_la_ok (g : zG) (vis : Nat) : s_la g vis = nn ∨ ∃ J, J < 20 ∧ s_la g vis = n32 (20 * (J + 1)) := by
  unfold s_la
  have l := (s_fst_p (s_lb g vis) 20 0).2.1
  by_cases h : s_fst (s_lb g vis) 20 0 = 20
  · rw [if_pos h]; exact Or.inl rfl
  · rw [if_neg h]; exact Or.inr ⟨_, by omega, rfl⟩
end SEARCH
/-! the digest speaks of one order only -/
section DIGEST
variable {g : zG} {x : Nat}
theorem s_prec_as {m m' : Nat} (h : s_prec g m m') (h' : s_prec g m' m) : False := by
  unfold s_prec at h h'
  rw [Int32.lt_iff_toInt_lt] at h h'
  rcases h with h | ⟨h, k⟩
  · rcases h' with h' | ⟨h', k'⟩
    · omega
    · rw [h'] at h; omega
  · rcases h' with h' | ⟨h', k'⟩
    · rw [h] at h'; omega
    · omega
theorem s_qok_le {f f' : Nat → Nat} (H : s_qok g x f) (H' : s_qok g x f') {j : Nat} (hj : j < s_len g x) (ih : ∀ i, i < j → f i = f' i) : ∃ i, j ≤ i ∧ i < s_len g x ∧ f' i = f j := by
  obtain ⟨a, b⟩ := H.1 j hj
  obtain ⟨i, hi, e⟩ := H'.2.2 (f j) a b
  refine ⟨i, ?_, hi, e⟩
  rcases Nat.lt_or_ge i j with h | h
  · exfalso
    rw [← ih i h] at e
    have p := H.2.1 i j h hj
    rw [e] at p
    exact s_prec_as p p
  · exact h
theorem s_qok_eq {f f' : Nat → Nat} (H : s_qok g x f) (H' : s_qok g x f') : ∀ n j, j < n → j < s_len g x → f j = f' j := by
  intro n
  induction n with
  | zero => intro j h; omega
  | succ n ihn =>
    intro j hjn hj
    have ih : ∀ i, i < j → f i = f' i := fun i hi => ihn i (by omega) (by omega)
    obtain ⟨i, h1, h2, h3⟩ := s_qok_le H H' hj ih
    obtain ⟨i', h1', h2', h3'⟩ := s_qok_le H' H hj (fun k hk => (ih k hk).symm)
    rcases Nat.eq_or_lt_of_le h1 with e | l
    · subst e; exact h3.symm
    · exfalso
      have p := H'.2.1 j i l h2
      rw [h3] at p
      rcases Nat.eq_or_lt_of_le h1' with e' | l'
      · subst e'
        rw [h3'] at p
        exact s_prec_as p p
      · have p' := H.2.1 j i' l' h2'
        rw [h3'] at p'
        exact s_prec_as p p'
theorem s_hs_congr {F F' : Nat → Int64} {h : Int64} : ∀ k, (∀ j, j < k → F' j = F j) → s_hs F' h k = s_hs F h k
  | 0, _ => rfl
  | k + 1, H => by
    unfold s_hs
    rw [s_hs_congr k (fun j hj => H j (by omega)), H k (by omega)]
theorem s_hst_qu {qu qu' : Nat → Nat → Nat} (H : s_qok g x (qu x)) (H' : s_qok g x (qu' x)) (b : Int64) : s_hst g qu' x b = s_hst g qu x b := by
  unfold s_hst
  generalize s_hs (fun w => (s_stv g x w (s_nat g 5)).toInt64) (31 * b + (n32 x).toInt64) 7 = c
  exact s_hs_congr _ (fun j hj => by rw [s_qok_eq H H' (j + 1) j (by omega) hj])
theorem s_fA_congr {β : Type} {P : Nat → Bool} {F F' : Nat → β → β} {b : β} : ∀ k, (∀ x, x < k → P x = true → ∀ c, F' x c = F x c) → s_fA P F' b k = s_fA P F b k
  | 0, _ => rfl
  | k + 1, H => by
    unfold s_fA
    rw [s_fA_congr k (fun x hx => H x (by omega))]
    by_cases hp : P k = true
    · rw [if_pos hp, if_pos hp, H k (by omega) hp]
    · rw [if_neg hp, if_neg hp]
theorem s_hall_e (g : zG) (qu : Nat → Nat → Nat) (h : Int64) : ∃ N c, N = 32 ∧ s_hall g qu h = s_hmes g (s_fA (s_is g) (s_hst g qu) c N) ∧ c = s_hs (fun w => (s_set g w).toInt64) h 9 := ⟨32, _, rfl, rfl, rfl⟩
theorem s_hall_qu {qu qu' : Nat → Nat → Nat} (H : ∀ x, x < 32 → s_is g x = true → s_qok g x (qu x)) (H' : ∀ x, x < 32 → s_is g x = true → s_qok g x (qu' x)) (h : Int64) : s_hall g qu' h = s_hall g qu h := by
  obtain ⟨N, c, hN, e, hc⟩ := s_hall_e g qu h
  obtain ⟨N', c', hN', e', hc'⟩ := s_hall_e g qu' h
  rw [e, e', hc, hc', hN, hN']
  rw [← hc]
  rw [← hN]
  exact congrArg (s_hmes g) (s_fA_congr N (fun x hx hp d => s_hst_qu (H x (by omega) hp) (H' x (by omega) hp) d))
end DIGEST
