/-! THE LAW'S END -/
section LAW30
variable {σ : zSt} {b V P : Nat} {g g' : zG} {xs : Nat → Int32} {L : Nat}
theorem w_cmp (x : Int64) : lg_cmp x x = 0 := by
  unfold lg_cmp
  rw [if_neg (show ¬ x > x from fun h => by
    have : x < x := h
    rw [Int64.lt_iff_toInt_lt] at this
    omega), if_pos rfl]
theorem w_303 {D D' : Int64} (o : z_ob σ b 8 = true) (e : f_X9_digest σ b = some D') (h : D' = D ∨ D' = D - (1 : Int64)) : f_L_law_303 xs L σ b D (1 : Int32) = some 1 := by
  have n10 : ¬ (1 : Int32) = 0 := by decide
  unfold f_L_law_303 f_L_law_330 f_L_law_335
  rw [if_neg n10, if_pos o, e, zb_eq]
  by_cases hc : lg_cmp D' D = 0
  · rw [if_pos hc]; rfl
  · rw [if_neg hc, zb_eq]
    rcases h with h | h
    · exact absurd (by rw [h]; exact w_cmp D) hc
    · rw [if_pos (by rw [h]; exact w_cmp _)]; rfl
theorem w_264 {k : Nat} {gs : Nat → zG} (C : zC σ b g k gs 0 w_tx) (I : s_I g 2000000 V) (hV : V ≤ 944) (K : k_K g) (hP : k_P g ≤ P) (hp : P ≤ 17) {v : Nat} (hv : v ≤ 100) : f_L_law_264 xs L σ b (n32 v) (1 : Int32) = some 1 := by
  have n10 : ¬ (1 : Int32) = 0 := by decide
  have ht := w_time I K hP (by omega) (by omega)
  have o1 := C.1.1
  obtain ⟨k0, hk4⟩ := zC_k4 C
  obtain ⟨qu, hq, ED⟩ := o_digest C I
  obtain ⟨⟨s1, E1, C1, O1⟩, RI⟩ := o_run C I (by omega) (m := v) (by omega) (by omega)
  have Iv := RI v (Nat.le_refl _)
  obtain ⟨Kv, Pv, _⟩ := w_itK K (by omega) (m := v) (by omega) (by omega) RI v (Nat.le_refl _)
  have tv : s_nat (s_it g v) 3 ≤ 1000000 := by
    have := k_time Kv (V := V + v) Iv.1.2.2.2.2 (Nat.le_trans Pv hP)
    omega
  have I2 : s_I (s_it g v) 2000000 (V + v) := s_I_low Iv (by omega)
  have c1 : ¬ s_it g v 3 < (0 : Int32) := fun h => by
    rw [(s_I_3 I2).1] at h
    have := (n32_lt (b := 0) (by omega) (by omega)).1 h
    omega
  have S := w_sound C1 I2 Kv
  have o2 := C1.1.1
  have key : ∃ k1, s_pk k = k1 + 1 ∧ s_pg k gs g k1 = g ∧ (k1 = k ∨ (k = 4 ∧ k1 = 3)) := by
    by_cases h4 : k = 4
    · subst h4
      exact ⟨3, by unfold s_pk; rw [if_pos rfl], by unfold s_pg; rw [if_pos rfl]; exact if_pos rfl, Or.inr ⟨rfl, rfl⟩⟩
    · exact ⟨k, by unfold s_pk; rw [if_neg h4], by unfold s_pg; rw [if_neg h4]; exact if_pos rfl, Or.inl rfl⟩
  obtain ⟨k1, ek, eg, hk⟩ := key
  rw [ek] at C1
  obtain ⟨s2, E2, C2, O2⟩ := o_undo C1 I2
  rw [eg] at C2
  have c2 : ¬ n32 k1 < (0 : Int32) := fun h => by
    have := (n32_lt (b := 0) (by omega) (by omega)).1 h
    omega
  obtain ⟨qu', hq', ED'⟩ := o_digest C2 I
  rw [s_hall_qu hq hq'] at ED'
  have R : f_L_law_303 xs L s2 b (31 * s_hall g qu (31 * 3169 + (n32 0).toInt64) + (n32 k).toInt64) (1 : Int32) = some 1 := by
    refine w_303 C2.1.1 ED' ?_
    generalize 31 * s_hall g qu (31 * 3169 + (n32 0).toInt64) = X
    rcases hk with h | ⟨h, h'⟩
    · rw [h]; exact Or.inl rfl
    · right
      rw [h, h', Int64.sub_eq_add_neg, Int64.add_assoc]
      congr 1
  unfold f_L_law_264
  rw [if_pos o1, ED, zb_eq, if_neg n10, E1, zb2_eq, if_neg c1, S, zb_eq, if_neg n10, if_pos o2, E2, zb2_eq, if_neg c2]
  exact R
theorem w_211 {k : Nat} {gs : Nat → zG} (C : zC σ b g k gs 0 w_tx) (I : s_I g 2000000 V) (hV : V ≤ 944) (K : k_K g) (hP : k_P g ≤ P) (hp : P ≤ 17) {v : Nat} (hv : v ≤ 100) : f_L_law_211 xs L σ b (1 : Int32) (n32 v) = some 1 := by
  have n10 : ¬ (1 : Int32) = 0 := by decide
  have ht := w_time I K hP (by omega) (by omega)
  have o1 := C.1.1
  obtain ⟨s1, E1, C1, O1⟩ := o_least C I (by omega) (by omega) hv
  have R := w_264 (xs := xs) (L := L) C1 I hV K hP hp hv
  have key : f_L_law_225 xs L s1 b (1 : Int32) (n32 v) (s_la g v) = some 1 := by
    unfold f_L_law_225 f_L_law_259
    rw [if_neg n10]
    rcases w_la_ok g v with e | ⟨J, hJ, e⟩
    · rw [e, if_pos (by decide), R]
    · have c1 : ¬ n32 (20 * (J + 1)) < (0 : Int32) := fun h => by
        have := (n32_lt (b := 0) (by omega) (by omega)).1 h
        omega
      have c2 : ¬ n32 (20 * (J + 1)) < (20 : Int32) := fun h => by
        have := (n32_lt (b := 20) (by omega) (by omega)).1 h
        omega
      have c3 : ¬ (400 : Int32) < n32 (20 * (J + 1)) := fun h => by
        have := (n32_lt (a := 400) (by omega) (by omega)).1 h
        omega
      have c4 : n32 (20 * (J + 1)) - n32 (20 * (J + 1)) / (20 : Int32) * (20 : Int32) = 0 := by
        have : n32 (20 * (J + 1)) - n32 (20 * (J + 1)) / n32 20 * n32 20 = n32 (20 * (J + 1) % 20) := n32_mod (by omega) (by omega)
        rw [Nat.mul_mod_right] at this
        exact this
      rw [e, if_neg c1, if_neg c2, if_neg c3, if_pos c4, R]
  unfold f_L_law_211
  rw [if_neg n10, if_pos o1, E1, zb2_eq, key]
theorem w_chain (Z : w_Z σ b g) (I : s_I g 2000000 V) (hV : V ≤ 1000000) : ∀ j, j ≤ 300 → ∃ B V, B ≤ 1800000000 ∧ s_I (s_it g j) B V := by
  obtain ⟨k, gs, C⟩ := Z
  obtain ⟨st, _, h⟩ := c_chain C.2.1 I 300 (by omega) (by omega)
  exact fun j hj => ⟨_, _, by omega, (h j hj).2.2.1⟩
theorem w_133 (hL : L < 2147483648) (Q : w_Q σ b g g' V P) (hw : k_w g) (hV : V ≤ 944) (hp : P ≤ 17) {v : Nat} (hv : v ≤ 100) : ∃ r, f_L_law_133 xs L b (b + 118) (n32 v) σ (1 : Int32) (0 : Int32) = some r ∧ r = 1 := by
  have n10 : ¬ (1 : Int32) = 0 := by decide
  unfold f_L_law_133
  refine zloop_inv (Inv := fun k (t : zSt × Int32 × Int32) => t.2.2 = n32 k ∧ t.2.1 = 1 ∧ w_Q t.1 b g g' V P) (Post := fun (r : Int32) => r = 1) 5 (fun k t hk hi => ?_) (by unfold zN; omega) ⟨rfl, rfl, Q⟩
  obtain ⟨s, l3, l5⟩ := t
  obtain ⟨h1, h2, Q⟩ := hi
  obtain rfl : l5 = n32 k := h1
  obtain rfl : l3 = 1 := h2
  replace Q : w_Q s b g g' V P := Q
  show (∃ r, b_L_law_133 xs L b (b + 118) (n32 v) s 1 (n32 k) = some (.inr r) ∧ r = 1) ∨ (k < 5 ∧ ∃ t, b_L_law_133 xs L b (b + 118) (n32 v) s 1 (n32 k) = some (.inl t) ∧ _)
  have Q0 := Q
  obtain ⟨Z, Z', I, I', A, zz, K, hP⟩ := Q
  have ht := w_time I K hP (by omega) (by omega)
  have CH := w_chain Z I (by omega)
  have o1 := w_ob Z
  obtain ⟨kk, gs, C⟩ := Z
  have S8 : f_X9_setting s b (8 : Int32) = some (n32 (s_nat g 5)) := by rw [← (s_I_5 I).2]; exact o_setting C I (w := 8) (by omega)
  have q5 := (s_I_5 I).1
  have E := w_211 (xs := xs) (L := L) C I hV K hP hp hv
  by_cases c1 : s_nat g 5 ≤ k
  · left
    have t : n32 (s_nat g 5) ≤ n32 k := (n32_le (by omega) (by omega)).2 c1
    refine ⟨1, ?_, rfl⟩
    unfold b_L_law_133
    rw [if_pos o1, S8, zb_eq, if_pos t, E]; rfl
  · have t : ¬ n32 (s_nat g 5) ≤ n32 k := fun h => c1 ((n32_le (by omega) (by omega)).1 h)
    by_cases c2 : k = 5
    · left
      subst c2
      have t2 : (5 : Int32) ≤ n32 5 := by decide
      refine ⟨1, ?_, rfl⟩
      unfold b_L_law_133
      rw [if_pos o1, S8, zb_eq, if_neg t, if_neg n10, if_pos t2, E]; rfl
    · right
      refine ⟨by omega, ?_⟩
      have t2 : ¬ (5 : Int32) ≤ n32 k := fun h => by
        have := (n32_le (a := 5) (by omega) (by omega)).1 h
        omega
      have A31 : (31 : Int32) + n32 k = n32 (31 + k) := n32_add 31 k
      have CC : f_L_cell xs L s (n32 (31 + k)) = some (w_cell xs L (31 + k)) := w_L_cell xs hL s (by omega)
      generalize w_cell xs L (31 + k) = c at CC
      have U := w_UP (σ := s) (v := c) (n := s_nat g 5) (by omega) (by omega)
      have lm := w_up_lt c (n := s_nat g 5) (by omega)
      generalize w_up c (s_nat g 5) = m at U lm
      have M : f_X9_message s b (n32 m) (4 : Int32) = some (g (242 + 5 * m + 4)) := o_message C I lm (w := 4) (by omega)
      have e1 : n32 k + (1 : Int32) = n32 (k + 1) := n32_add k 1
      rcases hw m lm with e | ⟨w, hw1, e⟩
      · have c3 : ¬ (0 : Int32) ≤ nn := by decide
        have e' : g' (242 + 5 * m + 4) = nn := by rw [alk_at A (by omega) (by omega)]; exact e
        obtain ⟨s1, E1, Y, Y'⟩ := w_l Z' (o_waitOf C I (by omega) (by omega) lm e)
        have o2 := w_ob Y'
        obtain ⟨kk', gs', C'⟩ := Y'
        have n5' : s_nat g' 5 = s_nat g 5 := alk_nat A (by omega) (by omega)
        have n3' : s_nat g' 3 = s_nat g 3 := alk_nat A (by omega) (by omega)
        obtain ⟨s2, E2, W, W'⟩ := w_r Y (o_waitOf C' I' (by omega) (by omega) (by omega) e')
        rw [alk_wa A CH (by omega)] at E2
        refine ⟨(s2, (1 : Int32), n32 (k + 1)), ?_, rfl, rfl, W, W', I, I', A, zz, K, hP⟩
        unfold b_L_law_133
        rw [if_pos o1, S8, zb_eq, if_neg t, if_neg n10, if_neg t2, A31, CC, zb_eq, zb_eq, U, zb_eq, M, zb_eq, e, if_neg c3, E1, zb2_eq, if_pos o2, E2, zb2_eq, if_pos rfl]
        rw [← e1]
        rfl
      · have c3 : (0 : Int32) ≤ n32 w := (n32_le (a := 0) (by omega) hw1).2 (Nat.zero_le _)
        refine ⟨(s, (1 : Int32), n32 (k + 1)), ?_, rfl, rfl, Q0⟩
        unfold b_L_law_133
        rw [if_pos o1, S8, zb_eq, if_neg t, if_neg n10, if_neg t2, A31, CC, zb_eq, zb_eq, U, zb_eq, M, zb_eq, e, if_pos c3]
        rw [← e1]
        rfl
theorem w_81 (hL : L < 2147483648) (Q : w_Q σ b g g' V P) (hw : k_w g) (hV : V ≤ 944) (hp : P ≤ 17) : f_L_law_81 xs L σ b (b + 118) (1 : Int32) = some 1 := by
  have n10 : ¬ (1 : Int32) = 0 := by decide
  obtain ⟨Z, Z', I, I', A, zz, K, hP⟩ := Q
  have ht := w_time I K hP (by omega) (by omega)
  have n3' : s_nat g' 3 = s_nat g 3 := alk_nat A (by omega) (by omega)
  have CH := w_chain Z I (by omega)
  have o1 := w_ob Z
  have C30 : f_L_cell xs L σ (30 : Int32) = some (w_cell xs L 30) := w_L_cell xs hL σ (k := 30) (by omega)
  generalize w_cell xs L 30 = c at C30
  have U : f_L_up σ c (100 : Int32) = some (n32 (w_up c 100)) := w_UP (n := 100) (by omega) (by omega)
  have lv := w_up_lt c (n := 100) (by omega)
  generalize w_up c 100 = v at U lv
  obtain ⟨kk, gs, C⟩ := Z
  have LB : ∀ i, i < 20 → ∀ j, j ≤ v → ∃ B V, B ≤ 1800000000 ∧ s_I (s_it (gu g 0 (n32 (20 * (i + 1)))) j) B V := fun i hi j hj => by
    obtain ⟨_, _, _, _, lf⟩ := c_sendsAll C (s_I_low I (B' := 900000) (by omega)) (by omega) (vis := v) (by omega) (20 * (i + 1))
    exact ⟨_, _, by omega, lf.2 j hj⟩
  obtain ⟨s1, E1, Y, Y'⟩ := w_l Z' (o_complete C I (by omega) (by omega))
  have o2 := w_ob Y'
  obtain ⟨kk', gs', C'⟩ := Y'
  obtain ⟨s2, E2, X, X'⟩ := w_r Y (o_complete C' I' (by omega) (by omega))
  rw [alk_ca A CH] at E2
  have o3 := w_ob X
  obtain ⟨k3, gs3, C3⟩ := X
  obtain ⟨s3, E3, W, W'⟩ := w_l X' (o_least C3 I (by omega) (by omega) (vis := v) (by omega))
  have o4 := w_ob W'
  obtain ⟨k4, gs4, C4⟩ := W'
  obtain ⟨s4, E4, T, T'⟩ := w_r W (o_least C4 I' (by omega) (by omega) (vis := v) (by omega))
  rw [alk_la A LB] at E4
  obtain ⟨r, R, hr⟩ := w_133 (xs := xs) hL (⟨T, T', I, I', A, zz, K, hP⟩ : w_Q s4 b g g' V P) hw hV hp (v := v) (by omega)
  rw [hr] at R
  unfold f_L_law_81
  rw [C30, zb_eq, U, zb_eq, if_neg n10, if_pos o1, E1, zb2_eq, if_pos o2, E2, zb2_eq, if_pos rfl, if_pos o3, E3, zb2_eq, if_pos o4, E4, zb2_eq, if_pos rfl]
  exact R
theorem w_26 (hL : L < 2147483648) (Q : w_Q σ b g g' 0 1) (hn : w_N g) : ∃ r, f_L_law_26 xs L b (b + 118) σ (1 : Int32) (0 : Int32) = some r ∧ r = 1 := by
  have n10 : ¬ (1 : Int32) = 0 := by decide
  unfold f_L_law_26
  refine zloop_inv (Inv := fun k (t : zSt × Int32 × Int32) => t.2.2 = n32 k ∧ t.2.1 = 1 ∧ ∃ g g', w_Q t.1 b g g' (59 * k) (1 + k) ∧ w_N g) (Post := fun (r : Int32) => r = 1) 16 (fun k t hk hi => ?_) (by unfold zN; omega) ⟨rfl, rfl, g, g', Q, hn⟩
  obtain ⟨s, l3, l5⟩ := t
  obtain ⟨h1, h2, g, g', Q, hn⟩ := hi
  obtain rfl : l5 = n32 k := h1
  obtain rfl : l3 = 1 := h2
  replace Q : w_Q s b g g' (59 * k) (1 + k) := Q
  show (∃ r, b_L_law_26 xs L b (b + 118) s 1 (n32 k) = some (.inr r) ∧ r = 1) ∨ (k < 16 ∧ ∃ t, b_L_law_26 xs L b (b + 118) s 1 (n32 k) = some (.inl t) ∧ _)
  by_cases hk16 : k = 16
  · left
    have t : (16 : Int32) ≤ n32 k := by rw [hk16]; decide
    have R := w_81 (xs := xs) hL Q hn.2 (by omega) (by omega)
    refine ⟨1, ?_, rfl⟩
    unfold b_L_law_26
    rw [if_pos t, R]; rfl
  · right
    refine ⟨by omega, ?_⟩
    have t : ¬ (16 : Int32) ≤ n32 k := fun h => by
      have := (n32_le (a := 16) (by omega) (by omega)).1 h
      omega
    have A10 : (10 : Int32) + n32 k = n32 (10 + k) := n32_add 10 k
    have CC : f_L_cell xs L s (n32 (10 + k)) = some (w_cell xs L (10 + k)) := w_L_cell xs hL s (by omega)
    generalize w_cell xs L (10 + k) = c at CC
    obtain ⟨s1, h, h', E, Q1, n1⟩ := w_step Q hn (by omega) (by omega) c
    have AL := w_alike Q1
    have SO : f_L_isSound s1 b = some 1 := by
      obtain ⟨kk, gs, C⟩ := Q1.1
      exact w_sound C Q1.2.2.1 Q1.2.2.2.2.2.2.1
    have e1 : n32 k + (1 : Int32) = n32 (k + 1) := n32_add k 1
    refine ⟨(s1, (1 : Int32), n32 (k + 1)), ?_, rfl, rfl, h, h', w_Q_w Q1 (by omega) (by omega), n1⟩
    unfold b_L_law_26
    rw [if_neg t, if_neg n10, A10, CC, zb_eq, E, zb2_eq, if_neg n10, AL, zb_eq, if_neg n10, SO, zb_eq, if_neg n10]
    rw [← e1]
    rfl
theorem w_nw_eq (t : zSh) {lo hi : Nat} (h : hi ≤ z_nx σ) : zEq lo hi σ (z_nw σ t) := fun q h1 h2 =>
  ⟨by rw [z_sh_nw, if_neg (by omega)], I_nwo _ (by omega), J_nwo _ (by omega), funext fun j => R_nwo _ (by omega) j⟩
/-- the law's run -/
theorem w_law (hL : L < 2147483648) (σ : zSt) : f_L_law xs L σ = some 1 := by
  obtain ⟨s1, E1, n1, C1, _⟩ := i_busF (σ := z_nw σ (.inl 8)) (b := z_nx σ) (z_ob_nwn 8) (z_nx_nw σ (.inl 8)) (by rw [z_I_nw, if_pos rfl]) (fun _ => s_g0) w_tx
  have n2 : z_nx (z_nw s1 (.inl 8)) = z_nx σ + 118 + 1 := by rw [z_nx_nw, n1]
  have o2 : z_ob (z_nw s1 (.inl 8)) (z_nx σ + 118) 8 = true := by rw [← n1]; exact z_ob_nwn 8
  have i2 : z_I (z_nw s1 (.inl 8)) (z_nx σ + 118) 4 = 0 := by rw [z_I_nw, if_pos n1.symm]
  obtain ⟨s2, E2, n3, C2, F2⟩ := i_busF o2 n2 i2 (fun _ => s_g0) w_tx
  have Z1 : w_Z s2 (z_nx σ) s_g0 := ⟨_, _, zC_reg (zEq_t (w_nw_eq (.inl 8) (by omega)) (F2 _)) C1⟩
  have I0 : s_I s_g0 2000000 0 := s_I_w s_I_g0 (by omega) (Nat.le_refl _)
  have n6 : s_nat s_g0 6 = 0 := s_g0_n (by omega)
  have Q0 : w_Q s2 (z_nx σ) s_g0 s_g0 0 1 := ⟨Z1, ⟨_, _, C2⟩, I0, I0, ⟨fun _ _ _ => rfl, by omega, by omega, fun _ _ => rfl⟩, ⟨0, by omega, s_g0_hi (by omega), s_g0_hi (by omega)⟩, k_K_g0.1, by rw [k_K_g0.2]; exact Nat.le_refl _⟩
  obtain ⟨s3, g, g', E3, Q, n⟩ := w_adds (xs := xs) hL Q0
  obtain ⟨r, E4, hr⟩ := w_26 (xs := xs) hL Q n
  rw [hr] at E4
  unfold f_L_law
  rw [zl_eq, E1, zb_eq, zl_eq, n1, E2, zb_eq, E3, zb2_eq]
  exact E4
end LAW30
