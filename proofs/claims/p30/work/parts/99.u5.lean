/-! TWO OBJECTS ARE ALIKE -/
section ALIKE
variable {σ : zSt} {b V P : Nat} {g g' : zG}
theorem w_7 (hI : s_I g 2000000 V) : g 7 = n32 (s_nat g 7) ∧ s_nat g 7 ≤ 40 := by
  obtain ⟨_, _, _, _, _, _, _, mv, hmv, h9, h7⟩ := s_I_num hI
  have e := s_nat_n32 h7 (by omega)
  rw [e]
  exact ⟨h7, by omega⟩
theorem alk_stv (h : s_alk g g') (h5 : s_nat g 5 ≤ 100) {x w : Nat} (hx : x < 32) (hw : w < 7) : s_stv g' x w (s_nat g' 5) = s_stv g x w (s_nat g 5) := by
  rw [alk_nat h (j := 5) (by omega) (by omega)]
  unfold s_stv
  rw [alk_at h (j := 18 + 7 * x + (1 + w)) (by omega) (by omega), alk_at h (j := 18 + 7 * x + w) (by omega) (by omega), s_cnt_congr (P := s_wt g (n32 x)) (P' := s_wt g' (n32 x)) _ (fun m hm => by
    unfold s_wt
    rw [alk_at h (j := 242 + 5 * m + 2) (by omega) (by omega), alk_at h (j := 242 + 5 * m + 4) (by omega) (by omega)])]
theorem alk_most (h : s_alk g g') : ∀ k, k ≤ 100 → s_most g' k = s_most g k
  | 0, _ => rfl
  | k + 1, hk => by
    unfold s_most
    rw [alk_most h k (by omega), alk_at h (j := 242 + 5 * k + 4) (by omega) (by omega)]
theorem alk_sumw (h : s_alk g g') : ∀ k, k ≤ 100 → s_sumw g' k = s_sumw g k
  | 0, _ => rfl
  | k + 1, hk => by
    unfold s_sumw
    rw [alk_sumw h k (by omega), alk_at h (j := 242 + 5 * k + 4) (by omega) (by omega)]
theorem alk_wm (h : s_alk g g') (h5 : s_nat g 5 ≤ 100) (w : Bool) : s_wm g' w = s_wm g w := by
  unfold s_wm
  rw [alk_nat h (j := 5) (by omega) (by omega), alk_at h (j := 10) (by omega) (by omega), alk_most h _ h5, alk_sumw h _ h5]
theorem alk_us (h : s_alk g g') : s_us g' = s_us g := by
  unfold s_us
  rw [alk_at h (j := 3) (by omega) (by omega), alk_at h (j := 15) (by omega) (by omega)]
theorem w_wm_ne (g : zG) (w : Bool) : FP.Core.val64 (s_wm g w) ≠ .nan := by
  unfold s_wm
  by_cases h : g 10 = n32 0
  · rw [if_pos h]; exact fq_ne fq_0
  · rw [if_neg h]
    cases w with
    | true => rw [if_pos rfl]; exact fq_ne (FP.Core.i2d_int _)
    | false => rw [if_neg (by decide)]; exact fq_nb (n_divL _ h)
theorem w_us_ne (g : zG) : FP.Core.val64 (s_us g) ≠ .nan := by
  unfold s_us
  by_cases h : g 3 = n32 0
  · rw [if_pos h]; exact fq_ne fq_0
  · rw [if_neg h]; exact fq_nb (n_divI _ h)
theorem w_al_247 (Q : w_Q σ b g g' V P) : f_L_areAlike_247 σ b (b + 118) (1 : Int32) = some 1 := by
  obtain ⟨Z, Z', I, I', A, _⟩ := Q
  have o1 := w_ob Z
  have o2 := w_ob Z'
  obtain ⟨kk, gs, C⟩ := Z
  obtain ⟨kk', gs', C'⟩ := Z'
  have h5 := (s_I_5 I).1
  have l1 := o_logged C I
  have l2 := o_logged C' I'
  rw [alk_at A (j := 7) (by omega) (by omega)] at l2
  have w1 : f_X9_waits σ b (1 : Int32) = some (s_wm g true) := o_waits C I true
  have w2 : f_X9_waits σ (b + 118) (1 : Int32) = some (s_wm g true) := by rw [← alk_wm A h5 true]; exact o_waits C' I' true
  have m1 : f_X9_waits σ b (0 : Int32) = some (s_wm g false) := o_waits C I false
  have m2 : f_X9_waits σ (b + 118) (0 : Int32) = some (s_wm g false) := by rw [← alk_wm A h5 false]; exact o_waits C' I' false
  have u1 := o_use C I
  have u2 := o_use C' I'
  rw [alk_us A] at u2
  have n10 : ¬ (1 : Int32) = 0 := by decide
  have c1 := fq_self (w_wm_ne g true)
  have c2 := fq_self (w_wm_ne g false)
  have c3 := fq_self (w_us_ne g)
  simp only [f_L_areAlike_247, ↓zl_eq, ↓zb_eq, ↓zb2_eq, ↓zc_some, ↓zc_none, ↓zb_pre, ↓zb2_pre, ↓zc_pre, ↓zex_eq, ↓reduceIte, Option.isSome_some, Option.isSome_none, Option.getD_some, n10, o1, o2, l1, l2, w1, w2, c1, m1, m2, c2, u1, u2, c3, f_L_areAlike_307, w_b1]
theorem w_al_202 (Q : w_Q σ b g g' V P) {i : Nat} (hi : i < s_nat g 7) : f_L_areAlike_202 σ b (b + 118) (n32 i) (1 : Int32) (0 : Int32) = some (.inl (1, n32 (i + 1))) := by
  obtain ⟨Z, Z', I, I', A, _⟩ := Q
  have o1 := w_ob Z
  have o2 := w_ob Z'
  obtain ⟨kk, gs, C⟩ := Z
  obtain ⟨kk', gs', C'⟩ := Z'
  have n10 : ¬ (1 : Int32) = 0 := by decide
  have h7 := (w_7 I).2
  unfold f_L_areAlike_202
  refine zloop_go (S := Int32 × Int32) (fun k => ((1 : Int32), n32 k)) _ 4 (fun k hk => ?_) ?_ (by unfold zN; omega)
  · show b_L_areAlike_202 σ b (b + 118) (n32 i) 1 (n32 k) = some (.inl (1, n32 (k + 1)))
    have t : ¬ (4 : Int32) ≤ n32 k := fun h => by
      have := (n32_le (a := 4) (b := k) (by omega) (by omega)).1 h
      omega
    have v1 := o_visit C I (i := i) (w := k) hi hk
    have v2 := o_visit C' I' (i := i) (w := k) (by rw [alk_nat A (by omega) (by omega)]; exact hi) hk
    rw [A.1 (782 + 4 * i + k) (by omega) (by omega)] at v2
    have e : n32 k + (1 : Int32) = n32 (k + 1) := n32_add k 1
    simp only [b_L_areAlike_202, ↓zl_eq, ↓zb_eq, ↓zb2_eq, ↓zc_some, ↓zc_none, ↓zb_pre, ↓zb2_pre, ↓zc_pre, ↓zex_eq, ↓reduceIte, Option.isSome_some, Option.isSome_none, Option.getD_some, t, n10, o1, v1, o2, v2, f_L_areAlike_234, e]
  · have t : (4 : Int32) ≤ n32 4 := by decide
    have e : n32 i + (1 : Int32) = n32 (i + 1) := n32_add i 1
    show b_L_areAlike_202 σ b (b + 118) (n32 i) 1 (n32 4) = _
    simp only [b_L_areAlike_202, ↓zl_eq, ↓zb_eq, ↓zb2_eq, ↓zc_some, ↓zc_none, ↓zb_pre, ↓zb2_pre, ↓zc_pre, ↓zex_eq, ↓reduceIte, Option.isSome_some, Option.isSome_none, Option.getD_some, t, e]
theorem w_al_187 (Q : w_Q σ b g g' V P) : f_L_areAlike_187 σ b (b + 118) (1 : Int32) (0 : Int32) = some 1 := by
  have Q0 := Q
  obtain ⟨Z, Z', I, I', A, _⟩ := Q
  have o1 := w_ob Z
  have o2 := w_ob Z'
  obtain ⟨kk, gs, C⟩ := Z
  have n10 : ¬ (1 : Int32) = 0 := by decide
  obtain ⟨e7, h7⟩ := w_7 I
  have l1 := o_logged C I
  rw [e7] at l1
  unfold f_L_areAlike_187
  refine zloop_go (S := Int32 × Int32) (fun k => ((1 : Int32), n32 k)) _ (s_nat g 7) (fun k hk => ?_) ?_ (by unfold zN; omega)
  · show b_L_areAlike_187 σ b (b + 118) 1 (n32 k) = some (.inl (1, n32 (k + 1)))
    have t : ¬ n32 (s_nat g 7) ≤ n32 k := fun h => by
      have := (n32_le (by omega) (by omega)).1 h
      omega
    have R := w_al_202 Q0 hk
    simp only [b_L_areAlike_187, ↓zl_eq, ↓zb_eq, ↓zb2_eq, ↓zc_some, ↓zc_none, ↓zb_pre, ↓zb2_pre, ↓zc_pre, ↓zex_eq, ↓reduceIte, Option.isSome_some, Option.isSome_none, Option.getD_some, o1, l1, t, n10, R]
  · have t : n32 (s_nat g 7) ≤ n32 (s_nat g 7) := (n32_le (by omega) (by omega)).2 (Nat.le_refl _)
    have R := w_al_247 Q0
    show b_L_areAlike_187 σ b (b + 118) 1 (n32 (s_nat g 7)) = _
    simp only [b_L_areAlike_187, ↓zl_eq, ↓zb_eq, ↓zb2_eq, ↓zc_some, ↓zc_none, ↓zb_pre, ↓zb2_pre, ↓zc_pre, ↓zex_eq, ↓reduceIte, Option.isSome_some, Option.isSome_none, Option.getD_some, o1, l1, t, R]
theorem w_al_137 (Q : w_Q σ b g g' V P) {i y : Nat} (hy : y < 32) (hz : g (18 + 7 * y + 0) = n32 1) (hi : i < 100) : f_L_areAlike_137 σ b (b + 118) (n32 i) (n32 y) (1 : Int32) (0 : Int32) = some (.inl (1, n32 (i + 1))) := by
  obtain ⟨Z, Z', I, I', A, _⟩ := Q
  have o1 := w_ob Z
  have o2 := w_ob Z'
  obtain ⟨kk, gs, C⟩ := Z
  obtain ⟨kk', gs', C'⟩ := Z'
  have n10 : ¬ (1 : Int32) = 0 := by decide
  have h5 := (s_I_5 I).1
  have hz' : g' (18 + 7 * y + 0) = n32 1 := by rw [alk_at A (by omega) (by omega)]; exact hz
  unfold f_L_areAlike_137
  refine zloop_go (S := Int32 × Int32) (fun k => ((1 : Int32), n32 k)) _ 7 (fun k hk => ?_) ?_ (by unfold zN; omega)
  · show b_L_areAlike_137 σ b (b + 118) (n32 i) (n32 y) 1 (n32 k) = some (.inl (1, n32 (k + 1)))
    have t : ¬ (7 : Int32) ≤ n32 k := fun h => by
      have := (n32_le (a := 7) (b := k) (by omega) (by omega)).1 h
      omega
    have v1 := o_station C I hy hz hk
    have v2 := o_station C' I' hy hz' hk
    rw [alk_stv A h5 hy hk] at v2
    have e : n32 k + (1 : Int32) = n32 (k + 1) := n32_add k 1
    simp only [b_L_areAlike_137, ↓zl_eq, ↓zb_eq, ↓zb2_eq, ↓zc_some, ↓zc_none, ↓zb_pre, ↓zb2_pre, ↓zc_pre, ↓zex_eq, ↓reduceIte, Option.isSome_some, Option.isSome_none, Option.getD_some, t, n10, o1, v1, o2, v2, f_L_areAlike_172, e]
  · have t : (7 : Int32) ≤ n32 7 := by decide
    have e : n32 i + (1 : Int32) = n32 (i + 1) := n32_add i 1
    show b_L_areAlike_137 σ b (b + 118) (n32 i) (n32 y) 1 (n32 7) = _
    simp only [b_L_areAlike_137, ↓zl_eq, ↓zb_eq, ↓zb2_eq, ↓zc_some, ↓zc_none, ↓zb_pre, ↓zb2_pre, ↓zc_pre, ↓zex_eq, ↓reduceIte, Option.isSome_some, Option.isSome_none, Option.getD_some, t, e]
theorem w_al_118 (Q : w_Q σ b g g' V P) : f_L_areAlike_118 σ b (b + 118) (1 : Int32) (0 : Int32) = some 1 := by
  have Q0 := Q
  obtain ⟨Z, Z', I, I', A, _⟩ := Q
  have o1 := w_ob Z
  obtain ⟨kk, gs, C⟩ := Z
  obtain ⟨ad, n, hA, S3, hat⟩ := o_addr C I
  have S3' : f_X9_setting σ b (3 : Int32) = some (n32 n) := by
    have := o_setting C I (w := 3) (by omega)
    rw [S3] at this
    exact this
  have hn8 := hA.1
  unfold f_L_areAlike_118
  refine zloop_go (S := Int32 × Int32) (fun k => ((1 : Int32), n32 k)) _ n (fun k hk => ?_) ?_ (by unfold zN; omega)
  · show b_L_areAlike_118 σ b (b + 118) 1 (n32 k) = some (.inl (1, n32 (k + 1)))
    have t : ¬ n32 n ≤ n32 k := fun h => by
      have := (n32_le (by omega) (by omega)).1 h
      omega
    have a := hat k hk
    obtain ⟨hy, hz⟩ := hA.2.1 k hk
    have R := w_al_137 Q0 hy hz (i := k) (by omega)
    simp only [b_L_areAlike_118, ↓zl_eq, ↓zb_eq, ↓zb2_eq, ↓zc_some, ↓zc_none, ↓zb_pre, ↓zb2_pre, ↓zc_pre, ↓zex_eq, ↓reduceIte, Option.isSome_some, Option.isSome_none, Option.getD_some, o1, S3', t, a, R]
  · have t : n32 n ≤ n32 n := (n32_le (by omega) (by omega)).2 (Nat.le_refl _)
    have R := w_al_187 Q0
    show b_L_areAlike_118 σ b (b + 118) 1 (n32 n) = _
    simp only [b_L_areAlike_118, ↓zl_eq, ↓zb_eq, ↓zb2_eq, ↓zc_some, ↓zc_none, ↓zb_pre, ↓zb2_pre, ↓zc_pre, ↓zex_eq, ↓reduceIte, Option.isSome_some, Option.isSome_none, Option.getD_some, o1, S3', t, R]
theorem w_al_81 (Q : w_Q σ b g g' V P) : f_L_areAlike_81 σ b (b + 118) (1 : Int32) (0 : Int32) = some 1 := by
  have Q0 := Q
  obtain ⟨Z, Z', I, I', A, _⟩ := Q
  have o1 := w_ob Z
  have o2 := w_ob Z'
  obtain ⟨kk, gs, C⟩ := Z
  obtain ⟨kk', gs', C'⟩ := Z'
  have n10 : ¬ (1 : Int32) = 0 := by decide
  unfold f_L_areAlike_81
  refine zloop_go (S := Int32 × Int32) (fun k => ((1 : Int32), n32 k)) _ 7 (fun k hk => ?_) ?_ (by unfold zN; omega)
  · show b_L_areAlike_81 σ b (b + 118) 1 (n32 k) = some (.inl (1, n32 (k + 1)))
    have t : ¬ (7 : Int32) ≤ n32 k := fun h => by
      have := (n32_le (a := 7) (b := k) (by omega) (by omega)).1 h
      omega
    have v1 := o_count C I hk
    have v2 := o_count C' I' hk
    rw [alk_at A (j := 9 + k) (by omega) (by omega)] at v2
    have e : n32 k + (1 : Int32) = n32 (k + 1) := n32_add k 1
    simp only [b_L_areAlike_81, ↓zl_eq, ↓zb_eq, ↓zb2_eq, ↓zc_some, ↓zc_none, ↓zb_pre, ↓zb2_pre, ↓zc_pre, ↓zex_eq, ↓reduceIte, Option.isSome_some, Option.isSome_none, Option.getD_some, t, n10, o1, v1, o2, v2, f_L_areAlike_109, e]
  · have t : (7 : Int32) ≤ n32 7 := by decide
    have R := w_al_118 Q0
    show b_L_areAlike_81 σ b (b + 118) 1 (n32 7) = _
    simp only [b_L_areAlike_81, ↓zl_eq, ↓zb_eq, ↓zb2_eq, ↓zc_some, ↓zc_none, ↓zb_pre, ↓zb2_pre, ↓zc_pre, ↓zex_eq, ↓reduceIte, Option.isSome_some, Option.isSome_none, Option.getD_some, t, R]
theorem w_alike (Q : w_Q σ b g g' V P) : f_L_areAlike σ b (b + 118) = some 1 := by
  have Q0 := Q
  obtain ⟨Z, Z', I, I', A, ⟨z, hz0, z6', z6⟩, K, hP⟩ := Q
  have o1 := w_ob Z
  have o2 := w_ob Z'
  obtain ⟨kk, gs, C⟩ := Z
  obtain ⟨kk', gs', C'⟩ := Z'
  have a4 : f_X9_setting σ b (4 : Int32) = some (s_set g 4) := o_setting C I (w := 4) (by omega)
  have b4 : f_X9_setting σ (b + 118) (4 : Int32) = some (s_set g 4) := by
    have : s_set g' 4 = s_set g 4 := by
      show n32 (s_cnt (s_ring g') 32) = n32 (s_cnt (s_ring g) 32)
      rw [s_cnt_congr (P := s_ring g) (P' := s_ring g') 32 (fun x hx => alk_ring A hx)]
    rw [← this]
    exact o_setting C' I' (w := 4) (by omega)
  have a6 : f_X9_setting σ b (6 : Int32) = some (g 3) := o_setting C I (w := 6) (by omega)
  have b6 : f_X9_setting σ (b + 118) (6 : Int32) = some (g 3) := by rw [← alk_at A (j := 3) (by omega) (by omega)]; exact o_setting C' I' (w := 6) (by omega)
  have a7 : f_X9_setting σ b (7 : Int32) = some (g 4) := o_setting C I (w := 7) (by omega)
  have b7 : f_X9_setting σ (b + 118) (7 : Int32) = some (g 4) := by rw [← alk_at A (j := 4) (by omega) (by omega)]; exact o_setting C' I' (w := 7) (by omega)
  have a8 : f_X9_setting σ b (8 : Int32) = some (g 5) := o_setting C I (w := 8) (by omega)
  have b8 : f_X9_setting σ (b + 118) (8 : Int32) = some (g 5) := by rw [← alk_at A (j := 5) (by omega) (by omega)]; exact o_setting C' I' (w := 8) (by omega)
  have a5 : f_X9_setting σ b (5 : Int32) = some (n32 (2 * z)) := by rw [← z6]; exact o_setting C I (w := 5) (by omega)
  have b5 : f_X9_setting σ (b + 118) (5 : Int32) = some (n32 z) := by rw [← z6']; exact o_setting C' I' (w := 5) (by omega)
  have e : (2 : Int32) * n32 z = n32 (2 * z) := n32_mul 2 z
  have R := w_al_81 Q0
  simp only [f_L_areAlike, ↓zl_eq, ↓zb_eq, ↓zb2_eq, ↓zc_some, ↓zc_none, ↓zb_pre, ↓zb2_pre, ↓zc_pre, ↓zex_eq, ↓reduceIte, Option.isSome_some, Option.isSome_none, Option.getD_some, o1, o2, a4, b4, a6, b6, a7, b7, a8, b8, a5, b5, e, f_L_areAlike_78, R]
end ALIKE
