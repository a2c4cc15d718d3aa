section SOUND
variable {σ : zSt} {b k tl : Nat} {g : zG} {gs : Nat → zG} {tx : Nat → Int32} {V : Nat}
theorem w_mean (hI : s_I g 2000000 V) : ¬ (0 < (Op.cmpValue (FP.dcmp (s_wm g false) (s_wm g true)) .g)) := by
  apply fq_g
  unfold s_wm
  by_cases h : g 10 = n32 0
  · rw [if_pos h, if_pos h]
    exact fq_cmp fq_0 fq_0 (Nat.le_refl _)
  · rw [if_neg h, if_neg h, if_neg (by decide), if_pos rfl]
    obtain ⟨h5, _⟩ := s_I_5 hI
    have ds : g 10 = n32 (s_cnt (s_done g) (s_nat g 5)) := hI.2.2.1
    have cl := s_cnt_le (s_done g) (s_nat g 5)
    obtain ⟨a, c, d, e⟩ := w_sumw g (s_nat g 5) h5
    rw [ds] at h ⊢
    generalize s_nat g 5 = q at *
    generalize s_cnt (s_done g) q = cd at *
    have cpos : 0 < cd := Nat.pos_of_ne_zero (fun h0 => h (by rw [h0]))
    have hm := FP.Core.i2d_int (s_most g q)
    have em : (s_most g q).toInt = (((s_most g q).toInt.toNat : Nat) : Int) := by omega
    rw [em] at hm e
    refine fq_any (FP.Core.l2d_int (a := s_sumw g q) (by omega)) (fq_n (by omega)) hm cpos ?_
    rw [Int.natCast_mul]
    exact e
theorem w_useN (hI : s_I g 2000000 V) (hK : k_K g) : ¬ (0 < (Op.cmpValue (FP.dcmp (s_us g) FP.dconst1) .g)) := by
  apply fq_g
  unfold s_us
  obtain ⟨e3, b3⟩ := s_I_3 hI
  obtain ⟨⟨w, w1, w2, w3⟩, _⟩ := hK.2.2.2.1
  by_cases h : g 3 = n32 0
  · rw [if_pos h]
    exact fq_cmp fq_0 fq_1 (by omega)
  · rw [if_neg h, w1]
    rw [e3] at h ⊢
    have t0 : 0 < s_nat g 3 := Nat.pos_of_ne_zero (fun h0 => h (by rw [h0]))
    exact fq_le (fq_n (by omega)) (fq_n (by omega)) fq_1 t0 (by omega)
theorem w_so_307 (C : zC σ b g k gs tl tx) (hI : s_I g 2000000 V) : f_L_isSound_307 σ b = some 1 := by
  have o1 := C.1.1
  have w1 : f_X9_waits σ b (1 : Int32) = some (s_wm g true) := o_waits C hI true
  have m1 : f_X9_waits σ b (0 : Int32) = some (s_wm g false) := o_waits C hI false
  have t := w_mean hI
  simp only [f_L_isSound_307, ↓zl_eq, ↓zb_eq, ↓zb2_eq, ↓zc_some, ↓zc_none, ↓zb_pre, ↓zb2_pre, ↓zc_pre, ↓zex_eq, ↓reduceIte, Option.isSome_some, Option.isSome_none, Option.getD_some, o1, w1, m1, t, f_L_isSound_326, w_b1]
theorem w_so_212 (C : zC σ b g k gs tl tx) (hI : s_I g 2000000 V) (hK : k_K g) : f_L_isSound_212 σ b (1 : Int32) (0 : Int32) = some 1 := by
  have o1 := C.1.1
  obtain ⟨e7, h7⟩ := w_7 hI
  have l1 := o_logged C hI
  rw [e7] at l1
  have n10 : ¬ (1 : Int32) = 0 := by decide
  have G := o_great C hI
  obtain ⟨kl1, kl2⟩ := hK.2.2.2.2.1
  have t3 := (s_I_3 hI).2
  unfold f_L_isSound_212
  refine zloop_go (S := Int32 × Int32) (fun i => ((1 : Int32), n32 i)) _ (s_nat g 7) (fun i hi => ?_) ?_ (by unfold zN; omega)
  · show b_L_isSound_212 σ b 1 (n32 i) = some (.inl (1, n32 (i + 1)))
    have t : ¬ n32 (s_nat g 7) ≤ n32 i := fun h => by
      have := (n32_le (by omega) (by omega)).1 h
      omega
    have v2 : f_X9_visit σ b (n32 i) (2 : Int32) = some (g (782 + 4 * i + 2)) := o_visit C hI hi (w := 2) (by omega)
    have v3 : f_X9_visit σ b (n32 i) (3 : Int32) = some (g (782 + 4 * i + 3)) := o_visit C hI hi (w := 3) (by omega)
    have v0 : f_X9_visit σ b (n32 i) (0 : Int32) = some (g (782 + 4 * i + 0)) := o_visit C hI hi (w := 0) (by omega)
    obtain ⟨q1, q2, tt, q3, q4⟩ := kl1 i hi
    have c1 : ¬ g 8 < g (782 + 4 * i + 2) := fun h => by
      rw [Int32.lt_iff_toInt_lt] at h
      rw [Int32.le_iff_toInt_le] at q1
      omega
    have c2 : ¬ (100 : Int32) < g (782 + 4 * i + 3) := fun h => by
      have q2' : g (782 + 4 * i + 3) ≤ (100 : Int32) := q2
      rw [Int32.lt_iff_toInt_lt] at h
      rw [Int32.le_iff_toInt_le] at q2'
      omega
    have e : n32 i + (1 : Int32) = n32 (i + 1) := n32_add i 1
    by_cases hi0 : i = 0
    · have c3 : n32 i = (0 : Int32) := by rw [hi0]; rfl
      have z : ∀ l5, f_L_isSound_275 σ b l5 = some (.inl ((1 : Int32), l5 + (1 : Int32))) := fun l5 => rfl
      unfold b_L_isSound_212
      rw [if_pos o1, l1, zb_eq, if_neg t, if_neg n10, v2, zb_eq, G, zb_eq, if_neg c1, v3, zb_eq, if_neg c2, if_pos c3, z, e]
    · have c3 : ¬ n32 i = (0 : Int32) := fun h => hi0 ((n32_eq (by omega) (by omega)).1 (show n32 i = n32 0 from h))
      have z : ∀ l5, f_L_isSound_275 σ b l5 = some (.inl ((1 : Int32), l5 + (1 : Int32))) := fun l5 => rfl
      have d : n32 i - (1 : Int32) = n32 (i - 1) := n32_sub (a := i) (b := 1) (by omega)
      have u0 : f_X9_visit σ b (n32 (i - 1)) (0 : Int32) = some (g (782 + 4 * (i - 1) + 0)) := o_visit C hI (by omega) (w := 0) (by omega)
      obtain ⟨_, _, tu, q5, q6⟩ := kl1 (i - 1) (by omega)
      have lt := kl2 (i - 1) (by omega)
      rw [show i - 1 + 1 = i by omega] at lt
      have c4 : ¬ g (782 + 4 * i + 0) ≤ g (782 + 4 * (i - 1) + 0) := fun h => by
        rw [s_nat_n32 q6 (by omega), s_nat_n32 q4 (by omega)] at lt
        rw [q4, q6, n32_le (by omega) (by omega)] at h
        omega
      unfold b_L_isSound_212
      rw [if_pos o1, l1, zb_eq, if_neg t, if_neg n10, v2, zb_eq, G, zb_eq, if_neg c1, v3, zb_eq, if_neg c2, if_neg c3, v0, zb_eq, d, u0, zb_eq, if_neg c4, z, e]
  · have t : n32 (s_nat g 7) ≤ n32 (s_nat g 7) := (n32_le (by omega) (by omega)).2 (Nat.le_refl _)
    have R := w_so_307 C hI
    obtain ⟨z, hz, z6⟩ := s_I_6 hI
    have S5 : f_X9_setting σ b (5 : Int32) = some (n32 z) := by rw [← z6]; exact o_setting C hI (w := 5) (by omega)
    have C2 : f_X9_count σ b (2 : Int32) = some (g 11) := o_count C hI (w := 2) (by omega)
    show b_L_isSound_212 σ b 1 (n32 (s_nat g 7)) = _
    unfold b_L_isSound_212
    rw [if_pos o1, l1, zb_eq, if_pos t, if_neg n10, S5, zb_eq]
    by_cases hz0 : z = 0
    · subst hz0
      have c : ¬ (0 : Int32) < n32 0 := by decide
      have e11 : g 11 = (0 : Int32) := hK.2.2.2.2.2 z6
      rw [if_neg c, C2, zb_eq, if_pos e11, R]
      rfl
    · have c : (0 : Int32) < n32 z := (n32_lt (a := 0) (by omega) (by omega)).2 (by omega)
      rw [if_pos c, R]
      rfl
theorem w_so_160 (C : zC σ b g k gs tl tx) (hI : s_I g 2000000 V) (hK : k_K g) {w s : Nat} (hw : n32 w + g 10 = g 5) (hs : n32 s = g 9) : f_L_isSound_160 σ b (n32 w) (n32 s) = some 1 := by
  have o1 := C.1.1
  have C1 : f_X9_count σ b (1 : Int32) = some (g 10) := o_count C hI (w := 1) (by omega)
  have S8 : f_X9_setting σ b (8 : Int32) = some (g 5) := o_setting C hI (w := 8) (by omega)
  have C0 : f_X9_count σ b (0 : Int32) = some (g 9) := o_count C hI (w := 0) (by omega)
  obtain ⟨e7, h7⟩ := w_7 hI
  have l1 := o_logged C hI
  rw [e7] at l1
  have t : ¬ (40 : Int32) < n32 (s_nat g 7) := fun h => by
    have := (n32_lt (a := 40) (by omega) (by omega)).1 h
    omega
  have U := o_use C hI
  have u := w_useN hI hK
  have R := w_so_212 C hI hK
  unfold f_L_isSound_160 f_L_isSound_208
  rw [if_pos o1, C1, zb_eq, S8, zb_eq, if_pos hw, C0, zb_eq, if_pos hs, l1, zb_eq, if_neg t, U, zb_eq, if_neg u, R]
theorem w_so_69 (C : zC σ b g k gs tl tx) (hI : s_I g 2000000 V) (hK : k_K g) {y : Nat} (hy : y < 32) (hz : g (18 + 7 * y + 0) = n32 1) (l1 l2 l4 : Int32) : f_L_isSound_69 σ b l1 l2 l4 (n32 y) = some (.inl (l1, l2, (1 : Int32), l4 + (1 : Int32))) := by
  have o1 := C.1.1
  have s1 : f_X9_station σ b (n32 y) (1 : Int32) = some (g (18 + 7 * y + 2)) := o_station C hI hy hz (w := 1) (by omega)
  have s0 : f_X9_station σ b (n32 y) (0 : Int32) = some (g (18 + 7 * y + 1)) := o_station C hI hy hz (w := 0) (by omega)
  have s5 : f_X9_station σ b (n32 y) (5 : Int32) = some (g (18 + 7 * y + 5)) := o_station C hI hy hz (w := 5) (by omega)
  have s6 : f_X9_station σ b (n32 y) (6 : Int32) = some (g (18 + 7 * y + 6)) := o_station C hI hy hz (w := 6) (by omega)
  obtain ⟨a1, a2, a3, _⟩ := s_I_sta hI y hy hz
  have c1 : ¬ g (18 + 7 * y + 1) < g (18 + 7 * y + 2) := by
    rcases a2 with e | e
    · rcases a1 with f | f <;> rw [e, f] <;> decide
    · rw [e, a3 e]; decide
  have n9 := hI.1.2.2.2.2
  have t3 := (s_I_3 hI).2
  obtain ⟨v, v1, v2, v3⟩ := hK.1 y hy hz
  have mv9 : s_nat g 9 ≤ 2000000000 := by
    obtain ⟨_, _, _, _, _, _, _, mv, hmv, h9, h7⟩ := s_I_num hI
    rw [s_nat_n32 h9 (by omega)]; exact hmv
  unfold f_L_isSound_69 f_L_isSound_101 f_L_isSound_117 f_L_isSound_125
  rw [if_pos o1, s1, zb_eq, s0, zb_eq, if_neg c1, s5, zb_eq, v2]
  rcases v3 with ⟨v3, e6⟩ | ⟨v3, tt, v4, e6⟩
  · subst v3
    have c2 : n32 0 ≤ (0 : Int32) := by decide
    have c3 : nn < (0 : Int32) := by decide
    rw [if_pos c2, if_pos o1, s6, zb_eq, e6, if_pos c3, if_pos rfl]
  · have c2 : ¬ n32 v ≤ (0 : Int32) := fun h => by
      have := (n32_le (b := 0) (by omega) (by omega)).1 h
      omega
    have c3 : ¬ n32 tt < (0 : Int32) := fun h => by
      have := (n32_lt (b := 0) (by omega) (by omega)).1 h
      omega
    rw [if_neg c2, if_pos o1, s6, zb_eq, e6, if_neg c3, if_pos rfl]
theorem w_sound (C : zC σ b g k gs tl tx) (hI : s_I g 2000000 V) (hK : k_K g) : f_L_isSound σ b = some 1 := by
  have o1 := C.1.1
  obtain ⟨ad, n, hA, S3, hat⟩ := o_addr C hI
  have S3' : f_X9_setting σ b (3 : Int32) = some (n32 n) := by
    have := o_setting C hI (w := 3) (by omega)
    rw [S3] at this
    exact this
  have hn8 := hA.1
  have n10 : ¬ (1 : Int32) = 0 := by decide
  have h5 := (s_I_5 hI).1
  unfold f_L_isSound f_L_isSound_9
  refine zloop_go (S := Int32 × Int32 × Int32 × Int32) (fun j => (n32 (s_fI ad (fun x c => c + s_cnt (s_wt g (n32 x)) (s_nat g 5)) 0 j), n32 (s_fI ad (fun x c => c + s_nat g (18 + 7 * x + 5)) 0 j), (1 : Int32), n32 j)) _ n (fun j hj => ?_) ?_ (by unfold zN; omega)
  · show b_L_isSound_9 σ b (n32 (s_fI ad (fun x c => c + s_cnt (s_wt g (n32 x)) (s_nat g 5)) 0 j)) (n32 (s_fI ad (fun x c => c + s_nat g (18 + 7 * x + 5)) 0 j)) 1 (n32 j) = some (.inl (n32 (s_fI ad (fun x c => c + s_cnt (s_wt g (n32 x)) (s_nat g 5)) 0 j + s_cnt (s_wt g (n32 (ad j))) (s_nat g 5)), n32 (s_fI ad (fun x c => c + s_nat g (18 + 7 * x + 5)) 0 j + s_nat g (18 + 7 * ad j + 5)), 1, n32 (j + 1)))
    have t : ¬ n32 n ≤ n32 j := fun h => by
      have := (n32_le (by omega) (by omega)).1 h
      omega
    have a := hat j hj
    obtain ⟨hy, hz⟩ := hA.2.1 j hj
    have s4 : f_X9_station σ b (n32 (ad j)) (4 : Int32) = some (n32 (s_cnt (s_wt g (n32 (ad j))) (s_nat g 5))) := o_station C hI hy hz (w := 4) (by omega)
    have mv9 : s_nat g 9 ≤ 2000000000 := by
      obtain ⟨_, _, _, _, _, _, _, mv, hmv, h9, h7⟩ := s_I_num hI
      rw [s_nat_n32 h9 (by omega)]; exact hmv
    have s5 : f_X9_station σ b (n32 (ad j)) (5 : Int32) = some (n32 (s_nat g (18 + 7 * ad j + 5))) := by
      have q : f_X9_station σ b (n32 (ad j)) (5 : Int32) = some (g (18 + 7 * ad j + 5)) := o_station C hI hy hz (w := 5) (by omega)
      obtain ⟨v, v1, v2, v3⟩ := hK.1 (ad j) hy hz
      rw [q, s_nat_n32 v2 (by omega), v2]
    have R := fun l1 l2 => w_so_69 C hI hK hy hz l1 l2 (n32 j)
    have e : n32 j + (1 : Int32) = n32 (j + 1) := n32_add j 1
    rw [e] at R
    unfold b_L_isSound_9
    rw [if_pos o1, S3', zb_eq, if_neg t, a, zb_eq, s4, zb_eq, zl_eq, s5, zb_eq, zl_eq, if_neg n10, n32_add, n32_add]
    by_cases hj0 : j = 0
    · have c3 : n32 j = (0 : Int32) := by rw [hj0]; rfl
      rw [if_pos c3, R]
    · have c3 : ¬ n32 j = (0 : Int32) := fun h => hj0 ((n32_eq (by omega) (by omega)).1 (show n32 j = n32 0 from h))
      have d : n32 j - (1 : Int32) = n32 (j - 1) := n32_sub (a := j) (b := 1) (by omega)
      have a' := hat (j - 1) (by omega)
      have lt := hA.2.2.1 (j - 1) j (by omega) hj
      have c4 : ¬ n32 (ad j) ≤ n32 (ad (j - 1)) := fun h => by
        have := (n32_le (by omega) (by omega)).1 h
        omega
      rw [if_neg c3, d, a', zb_eq, if_neg c4, R]
  · have t : n32 n ≤ n32 n := (n32_le (by omega) (by omega)).2 (Nat.le_refl _)
    have W := w_given hI.2.2.2 h5 (s_nat g 5) (Nat.le_refl _)
    rw [← w_S_fA, s_fold_A hA] at W
    have hw : n32 (s_fI ad (fun x c => c + s_cnt (s_wt g (n32 x)) (s_nat g 5)) 0 n) + g 10 = g 5 := by
      have ds : g 10 = n32 (s_cnt (s_done g) (s_nat g 5)) := hI.2.2.1
      rw [ds, n32_add, W]
      exact (s_I_5 hI).2.symm
    have S := w_S_kS g 32
    rw [← w_S_fA, s_fold_A hA] at S
    have hs : n32 (s_fI ad (fun x c => c + s_nat g (18 + 7 * x + 5)) 0 n) = g 9 := by
      obtain ⟨_, _, _, _, _, _, _, mv, hmv, h9, h7⟩ := s_I_num hI
      have ks : k_S g 32 = s_nat g 9 := hK.2.2.1
      rw [S, ks, s_nat_n32 h9 (by omega), h9]
    have R := w_so_160 C hI hK hw hs
    have S7 : f_X9_setting σ b (7 : Int32) = some (g 4) := o_setting C hI (w := 7) (by omega)
    show b_L_isSound_9 σ b (n32 (s_fI ad (fun x c => c + s_cnt (s_wt g (n32 x)) (s_nat g 5)) 0 n)) (n32 (s_fI ad (fun x c => c + s_nat g (18 + 7 * x + 5)) 0 n)) 1 (n32 n) = _
    unfold b_L_isSound_9
    rw [if_pos o1, S3', zb_eq, if_pos t, S7, zb_eq, if_neg n10]
    rcases hK.2.1 with e | ⟨x, hx, e, hr⟩
    · have c : nn < (0 : Int32) := by decide
      rw [e, if_pos c, R]
      rfl
    · have c : ¬ n32 x < (0 : Int32) := fun h => by
        have := (n32_lt (b := 0) (by omega) (by omega)).1 h
        omega
      simp only [s_ring, Bool.and_eq_true, decide_eq_true_eq] at hr
      have s1 : f_X9_station σ b (n32 x) (1 : Int32) = some (1 : Int32) := by
        have : f_X9_station σ b (n32 x) (1 : Int32) = some (g (18 + 7 * x + 2)) := o_station C hI hx hr.1.1 (w := 1) (by omega)
        rw [this, hr.2]; rfl
      rw [e, if_neg c, s1, zb_eq, if_pos rfl, R]
      rfl
end SOUND
