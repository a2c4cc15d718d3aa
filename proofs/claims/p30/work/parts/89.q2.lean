section NEW
variable {σ : zSt}
/-- the messages are made, and named -/
theorem u_msg {A j : Nat} (hA : A < z_nx σ) : ∃ σ1 σ', f_X3_init (z_nw σ (.inl 3)) (z_nx σ) = some σ1 ∧ (∀ q, q < z_nx σ → z_ob σ1 q = z_ob σ q) ∧ z_pR σ1 A j (some (z_nx σ)) = σ' ∧ zU (z_nx σ) A j σ σ' ∧ z_nx σ' = z_nx σ + 3 ∧ z_R σ' A j = some (z_nx σ) ∧ z_sh σ' (z_nx σ) = some (.inl 3) ∧ z_sh σ' (z_nx σ + 1) = some (.inl 7) ∧ z_sh σ' (z_nx σ + 2) = some (.inr (0, 600)) ∧ z_R σ' (z_nx σ) 0 = some (z_nx σ + 1) ∧ z_R σ' (z_nx σ + 1) 1 = some (z_nx σ + 2) ∧ z_I σ' (z_nx σ + 1) 0 = n32 6 ∧ z_I σ' (z_nx σ) 1 = 0 := by
  have e1 : z_nx (z_nw σ (.inl 3)) = z_nx σ + 1 := rfl
  obtain ⟨s1, s2, E, O, P, U, n2, r2, h7, h0, r1, i0⟩ := u_tab (σ := z_nw σ (.inl 3)) (A := z_nx σ) (j := 0) (n := 100) (w := 6) (k := 600) (by rw [e1]; omega) (by decide) (by decide) (by decide)
  rw [e1] at E O P U n2 r2 h7 h0 r1 i0
  obtain ⟨U1, U2, U3, U4, U5, U6, U7⟩ := U
  have o3 : z_ob s1 (z_nx σ) 3 = true := by rw [O _ (by omega)]; exact z_ob_nwn 3
  refine ⟨s2, _, ?_, fun q h => ?_, rfl, zU_of (fun q h => ?_) (fun q h => ?_) (fun q h => ?_) (fun q i h hd => ?_), n2, ?_, ?_, ?_, ?_, ?_, ?_, ?_, ?_⟩
  · simp only [f_X3_init, ↓zl_eq, ↓zb_eq, ↓zb2_eq, ↓zc_some, ↓zc_none, ↓zb_pre, ↓zb2_pre, ↓zc_pre, ↓zex_eq, ↓reduceIte, Option.isSome_some, Option.isSome_none, Option.getD_some, n32_lit, e1, E, o3, P]
  · rw [U1 _ (by omega), z_ob_nwo _ h]
  · rw [z_sh_pR, U7 _ (by omega), z_sh_nw, if_neg (by omega)]
  · rw [z_I_pR, U4 _ (by omega), I_nwo _ h]
  · rw [z_J_pR, U5 _ (by omega), J_nwo _ h]
  · rw [z_R_pR, if_neg (by omega), U6 _ _ (by omega) (by omega), R_nwo _ h]
  · rw [z_R_pR, if_pos ⟨rfl, rfl⟩]
  · rw [z_sh_pR, U7 _ (by omega), z_sh_nw, if_pos rfl]
  · rw [z_sh_pR]; exact h7
  · rw [z_sh_pR]; exact h0
  · rw [z_R_pR, if_neg (by omega)]; exact r2
  · rw [z_R_pR, if_neg (by omega)]; exact r1
  · rw [z_I_pR]; exact i0
  · rw [z_I_pR, U4 _ (by omega), z_I_nw, if_pos rfl]
/-- the noises are made, and named -/
theorem u_noi {A j : Nat} (hA : A < z_nx σ) : ∃ σ1 σ', f_X4_init (z_nw σ (.inl 4)) (z_nx σ) = some σ1 ∧ (∀ q, q < z_nx σ → z_ob σ1 q = z_ob σ q) ∧ z_pR σ1 A j (some (z_nx σ)) = σ' ∧ zU (z_nx σ) A j σ σ' ∧ z_nx σ' = z_nx σ + 3 ∧ z_R σ' A j = some (z_nx σ) ∧ z_sh σ' (z_nx σ) = some (.inl 4) ∧ z_sh σ' (z_nx σ + 1) = some (.inr (0, 20)) ∧ z_sh σ' (z_nx σ + 2) = some (.inr (0, 20)) ∧ z_R σ' (z_nx σ) 0 = some (z_nx σ + 1) ∧ z_R σ' (z_nx σ) 1 = some (z_nx σ + 2) ∧ z_I σ' (z_nx σ) 2 = 0 := by
  have e1 : z_nx (z_nw σ (.inl 4)) = z_nx σ + 1 := rfl
  obtain ⟨s1, P1, U, n1, r1, h1, _, _⟩ := u_one (σ := z_nw σ (.inl 4)) (A := z_nx σ) (j := 0) (.inr (0, 20)) (by rw [e1]; omega)
  rw [e1] at P1 U n1 r1 h1
  obtain ⟨s2, P2, W, n2, r2, h2, _, _⟩ := u_one (σ := s1) (A := z_nx σ) (j := 1) (.inr (0, 20)) (by omega)
  have e2 : z_nx s1 = z_nx σ + 2 := n1
  rw [e2] at P2 W n2 r2 h2
  have o0 : z_ob (z_nw σ (.inl 4)) (z_nx σ) 4 = true := z_ob_nwn 4
  have o1 : z_ob (z_nw (z_nw σ (.inl 4)) (.inr (0, 20))) (z_nx σ) 4 = true := by rw [z_ob_nwo _ (by rw [e1]; omega)]; exact o0
  have o2 : z_ob (z_nw s1 (.inr (0, 20))) (z_nx σ) 4 = true := by rw [z_ob_nwo _ (by omega), U.1 _ (by omega)]; exact o0
  obtain ⟨U1, U2, U3, U4, U5, U6, U7⟩ := U
  obtain ⟨W1, W2, W3, W4, W5, W6, W7⟩ := W
  refine ⟨s2, _, ?_, fun q h => ?_, rfl, zU_of (fun q h => ?_) (fun q h => ?_) (fun q h => ?_) (fun q i h hd => ?_), n2, ?_, ?_, ?_, ?_, ?_, ?_, ?_⟩
  · simp only [f_X4_init, ↓zl_eq, ↓zb_eq, ↓zb2_eq, ↓zc_some, ↓zc_none, ↓zb_pre, ↓zb2_pre, ↓zc_pre, ↓zex_eq, ↓reduceIte, Option.isSome_some, Option.isSome_none, Option.getD_some, o1, e1, P1, o2, e2, P2]
  · rw [W1 _ (by omega), U1 _ (by omega), z_ob_nwo _ h]
  · rw [z_sh_pR, W7 _ (by omega), U7 _ (by omega), z_sh_nw, if_neg (by omega)]
  · rw [z_I_pR, W4 _ (by omega), U4 _ (by omega), I_nwo _ h]
  · rw [z_J_pR, W5 _ (by omega), U5 _ (by omega), J_nwo _ h]
  · rw [z_R_pR, if_neg (by omega), W6 _ _ (by omega) (by omega), U6 _ _ (by omega) (by omega), R_nwo _ h]
  · rw [z_R_pR, if_pos ⟨rfl, rfl⟩]
  · rw [z_sh_pR, W7 _ (by omega), U7 _ (by omega), z_sh_nw, if_pos rfl]
  · rw [z_sh_pR, W7 _ (by omega)]; exact h1
  · rw [z_sh_pR]; exact h2
  · rw [z_R_pR, if_neg (by omega), W6 _ _ (by omega) (by omega)]; exact r1
  · rw [z_R_pR, if_neg (by omega)]; exact r2
  · rw [z_I_pR, W4 _ (by omega), U4 _ (by omega), z_I_nw, if_pos rfl]
/-- the first numbers -/
def s_g0 : zG := gu (gu (gu (gu (fun _ => 0) 0 (n32 60)) 1 (n32 4)) 2 (n32 3)) 4 nn
theorem lt_ad {a d n : Nat} (h : d < n) : a + d < a + n := by omega
theorem lt_a0 {a n : Nat} (h : 0 < n) : a < a + n := by omega
theorem lt_aw {q a n m : Nat} (h : q < a + n) (hm : n ≤ m) : q < a + m := by omega
theorem ne_ad {a d n : Nat} (h : d ≠ n) : a + d ≠ a + n := by omega
theorem ne_a0 {a n : Nat} (h : n ≠ 0) : a + n ≠ a := by omega
theorem s_g0_hi {j : Nat} (h : 5 ≤ j) : s_g0 j = n32 0 := by
  unfold s_g0
  rw [gu_ne _ _ (by omega), gu_ne _ _ (by omega), gu_ne _ _ (by omega), gu_ne _ _ (by omega)]
  rfl
theorem s_g0_n {j : Nat} (h : 5 ≤ j) : s_nat s_g0 j = 0 := s_nat_n32 (s_g0_hi h) (by omega)
/-- a line is made -/
theorem i_line {a : Nat} (o : z_ob σ a 2 = true) (hn : z_nx σ = a + 1) (hI : ∀ j, z_I σ a j = 0) : ∃ σ', f_X2_init σ a = some σ' ∧ zU a a 0 σ σ' ∧ z_nx σ' = a + 19 ∧ zLn σ' a s_g0 := by
  obtain ⟨s1, P1, ⟨O1, A1, L1, I1, J1, R1, S1⟩, n1, r1, h1, _, _⟩ := u_one (σ := σ) (A := a) (j := 0) (.inr (3, 8)) (by omega)
  rw [hn] at P1 O1 A1 L1 I1 J1 R1 S1 n1 r1 h1
  have n1' : z_nx s1 = a + 2 := n1
  obtain ⟨t2, s2, E2, T2, P2, ⟨O2, A2, L2, I2, J2, R2, S2⟩, n2, r2, h2, h2a, h2b, r2a, r2b, i2, i2a⟩ := u_msg (σ := s1) (A := a) (j := 1) (by omega)
  rw [n1'] at E2 T2 P2 O2 A2 L2 I2 J2 R2 S2 n2 r2 h2 h2a h2b r2a r2b i2 i2a
  have n2' : z_nx s2 = a + 5 := n2
  obtain ⟨t3, s3, E3, T3, P3, ⟨O3, A3, L3, I3, J3, R3, S3⟩, n3, r3, h3, h3a, h3b, r3a, r3b, i3⟩ := u_noi (σ := s2) (A := a) (j := 2) (by omega)
  rw [n2'] at E3 T3 P3 O3 A3 L3 I3 J3 R3 S3 n3 r3 h3 h3a h3b r3a r3b i3
  have n3' : z_nx s3 = a + 8 := n3
  obtain ⟨s4, P4, ⟨O4, A4, L4, I4, J4, R4, S4⟩, n4, r4, h4, i4, j4⟩ := u_one (σ := s3) (A := a) (j := 3) (.inl 0) (by omega)
  rw [n3'] at P4 O4 A4 L4 I4 J4 R4 S4 n4 r4 h4 i4 j4
  have n4' : z_nx s4 = a + 9 := n4
  obtain ⟨t5, s5, E5, T5, P5, ⟨O5, A5, L5, I5, J5, R5, S5⟩, n5, r5, h5, h5a, r5a, i5⟩ := u_tab (σ := s4) (A := a) (j := 4) (n := 40) (w := 4) (k := 160) (by omega) (by decide) (by decide) (by decide)
  rw [n4'] at E5 T5 P5 O5 A5 L5 I5 J5 R5 S5 n5 r5 h5 h5a r5a i5
  have n5' : z_nx s5 = a + 11 := n5
  generalize hF : gu (gu (gu (gu (z_I s5 a) 6 (n32 60)) 7 (n32 4)) 8 (n32 3)) 10 nn = F
  generalize hs6 : z_sA s5 a F = s6
  have P6 : z_pI (z_pI (z_pI (z_pI s5 a 6 (n32 60)) a 7 (n32 4)) a 8 (n32 3)) a 10 nn = s6 := by
    rw [z_pI_eq, z_pI_eq, z_pI_eq, z_pI_eq, z_I_sA, z_sA_sA, z_I_sA, z_sA_sA, z_I_sA, z_sA_sA, hF, hs6]
  have n6 : z_nx s6 = a + 11 := by rw [← hs6]; exact n5'
  have O6 : z_ob s6 = z_ob s5 := by rw [← hs6]; rfl
  have A6 : z_ar s6 = z_ar s5 := by rw [← hs6]; rfl
  have L6 : z_ln s6 = z_ln s5 := by rw [← hs6]; rfl
  have R6 : z_R s6 = z_R s5 := by rw [← hs6]; rfl
  have S6 : z_sh s6 = z_sh s5 := by rw [← hs6]; rfl
  have J6 : z_J s6 = z_J s5 := by rw [← hs6]; rfl
  have I6 : ∀ q, q ≠ a → z_I s6 q = z_I s5 q := fun q h => by rw [← hs6]; exact z_I_sAn _ _ _ h
  have I6a : z_I s6 a = F := by rw [← hs6]; exact z_I_sA _ _ _
  have ST : ∀ (s : zSt) (i c : Nat), z_nx s = c → a + 11 ≤ c → z_ob s a 2 = true → z_R s a 0 = some (a + 1) → z_ar s (a + 1) 3 = true → z_ln s (a + 1) = 8 → ∃ s', z_pR (z_nw s (.inl 6)) (a + 1) i (some c) = s' ∧ zU c (a + 1) i s s' ∧ z_nx s' = c + 1 ∧ z_R s' (a + 1) i = some c ∧ z_ob s' c 6 = true ∧ (z_ob (z_nw s (.inl 6)) c 6 = true ∧ z_ar (z_nw s (.inl 6)) (a + 1) 3 = true ∧ z_ln (z_nw s (.inl 6)) (a + 1) = 8) ∧ z_ob s' a 2 = true ∧ z_R s' a 0 = some (a + 1) ∧ z_ar s' (a + 1) 3 = true ∧ z_ln s' (a + 1) = 8 := by
    intro s i c hs hc g1 g2 g3 g4
    obtain ⟨s', p, u, nn1, rr, hh, _, _⟩ := u_one (σ := s) (A := a + 1) (j := i) (.inl 6) (by omega)
    have N := z_ob_nwn (σ := s) 6
    have N2 := z_ar_nwo (σ := s) (.inl 6) (q := a + 1) (by omega)
    have N3 := z_ln_nwo (σ := s) (.inl 6) (q := a + 1) (by omega)
    rw [hs] at p u nn1 rr hh N
    exact ⟨s', p, u, nn1, rr, sh_ob_of hh, ⟨N, by rw [N2]; exact g3, by rw [N3]; exact g4⟩, by rw [u.1 _ (by omega)]; exact g1, by rw [u.2.2.2.2.2.1 _ _ (by omega) (by omega)]; exact g2, by rw [u.2.1 _ (by omega)]; exact g3, by rw [u.2.2.1 _ (by omega)]; exact g4⟩
  have o1 : z_ob s1 a 2 = true := by rw [O1 _ (by omega)]; exact o
  have o2 : z_ob s2 a 2 = true := by rw [O2 _ (by omega)]; exact o1
  have o3 : z_ob s3 a 2 = true := by rw [O3 _ (by omega)]; exact o2
  have o4 : z_ob s4 a 2 = true := by rw [O4 _ (by omega)]; exact o3
  have o5 : z_ob s5 a 2 = true := by rw [O5 _ (by omega)]; exact o4
  have o6 : z_ob s6 a 2 = true := by rw [O6]; exact o5
  have d1 : z_ob (z_nw σ (.inr (3, 8))) a 2 = true := by rw [z_ob_nwo _ (by omega)]; exact o
  have d2 : z_ob t2 a 2 = true := by rw [T2 _ (by omega)]; exact o1
  have d3 : z_ob t3 a 2 = true := by rw [T3 _ (by omega)]; exact o2
  have d4 : z_ob (z_nw s3 (.inl 0)) a 2 = true := by rw [z_ob_nwo _ (by omega)]; exact o3
  have d5 : z_ob t5 a 2 = true := by rw [T5 _ (by omega)]; exact o4
  have a1 : z_ar s6 (a + 1) 3 = true := by rw [A6, A5 _ (by omega), A4 _ (by omega), A3 _ (by omega), A2 _ (by omega)]; exact sh_ar_of h1
  have l1 : z_ln s6 (a + 1) = 8 := by rw [L6, L5 _ (by omega), L4 _ (by omega), L3 _ (by omega), L2 _ (by omega)]; exact sh_ln_of h1
  have ra : z_R s6 a 0 = some (a + 1) := by rw [R6, R5 _ _ (by omega) (by omega), R4 _ _ (by omega) (by omega), R3 _ _ (by omega) (by omega), R2 _ _ (by omega) (by omega)]; exact r1
  obtain ⟨q0, Q0, V0, m0, w0, y0, ⟨b0, c0, e0⟩, f0, g0, x0, z0⟩ := ST s6 0 (a + 11) n6 (by omega) o6 ra a1 l1
  obtain ⟨q1, Q1, V1, m1, w1, y1, ⟨b1, c1, e1⟩, f1, g1, x1, z1⟩ := ST q0 1 (a + 12) m0 (by omega) f0 g0 x0 z0
  obtain ⟨q2, Q2, V2, m2, w2, y2, ⟨b2, c2, e2⟩, f2, g2, x2, z2⟩ := ST q1 2 (a + 13) m1 (by omega) f1 g1 x1 z1
  obtain ⟨q3, Q3, V3, m3, w3, y3, ⟨b3, c3, e3⟩, f3, g3, x3, z3⟩ := ST q2 3 (a + 14) m2 (by omega) f2 g2 x2 z2
  obtain ⟨q4, Q4, V4, m4, w4, y4, ⟨b4, c4, e4⟩, f4, g4, x4, z4⟩ := ST q3 4 (a + 15) m3 (by omega) f3 g3 x3 z3
  obtain ⟨q5, Q5, V5, m5, w5, y5, ⟨b5, c5, e5⟩, f5, g5, x5, z5⟩ := ST q4 5 (a + 16) m4 (by omega) f4 g4 x4 z4
  obtain ⟨q6, Q6, V6, m6, w6, y6, ⟨b6, c6, e6⟩, f6, g6, x6, z6⟩ := ST q5 6 (a + 17) m5 (by omega) f5 g5 x5 z5
  obtain ⟨q7, Q7, V7, m7, w7, y7, ⟨b7, c7, e7⟩, f7, g7, x7, z7⟩ := ST q6 7 (a + 18) m6 (by omega) f6 g6 x6 z6
  have M0 : z_nx q0 = a + 12 := m0
  have M1 : z_nx q1 = a + 13 := m1
  have M2 : z_nx q2 = a + 14 := m2
  have M3 : z_nx q3 = a + 15 := m3
  have M4 : z_nx q4 = a + 16 := m4
  have M5 : z_nx q5 = a + 17 := m5
  have M6 : z_nx q6 = a + 18 := m6
  have M7 : z_nx q7 = a + 19 := m7
  have G0 : (n32 8 ≤ n32 0) = False := by rw [n32_le (by omega) (by omega)]; exact eq_false (by omega)
  have G1 : (n32 8 ≤ n32 1) = False := by rw [n32_le (by omega) (by omega)]; exact eq_false (by omega)
  have G2 : (n32 8 ≤ n32 2) = False := by rw [n32_le (by omega) (by omega)]; exact eq_false (by omega)
  have G3 : (n32 8 ≤ n32 3) = False := by rw [n32_le (by omega) (by omega)]; exact eq_false (by omega)
  have G4 : (n32 8 ≤ n32 4) = False := by rw [n32_le (by omega) (by omega)]; exact eq_false (by omega)
  have G5 : (n32 8 ≤ n32 5) = False := by rw [n32_le (by omega) (by omega)]; exact eq_false (by omega)
  have G6 : (n32 8 ≤ n32 6) = False := by rw [n32_le (by omega) (by omega)]; exact eq_false (by omega)
  have G7 : (n32 8 ≤ n32 7) = False := by rw [n32_le (by omega) (by omega)]; exact eq_false (by omega)
  have G8 : (n32 8 ≤ n32 8) = True := by rw [n32_le (by omega) (by omega)]; exact eq_true (Nat.le_refl 8)
  have EV : f_X2_init σ a = some q7 := by
    simp (disch := omega) only [f_X2_init, f_X0_init, f_X6_init, ↓zl_eq, ↓zb_eq, ↓zb2_eq, ↓zc_some, ↓zc_none, ↓zb_pre, ↓zb2_pre, ↓zc_pre, ↓zex_eq, ↓reduceIte, Option.isSome_some, Option.isSome_none, Option.getD_some, n32_lit, n32_nn2, n32_toNat, n32_ix, ofN_n32, hn, d1, P1, n1', E2, d2, P2, n2', E3, d3, P3, n3', d4, P4, n4', E5, d5, P5, z_ob_pI, o5, P6, o6, ra, a1, l1, n6, Q0, M0, b0, c0, e0, f0, g0, x0, z0, Q1, M1, b1, c1, e1, f1, g1, x1, z1, Q2, M2, b2, c2, e2, f2, g2, x2, z2, Q3, M3, b3, c3, e3, f3, g3, x3, z3, Q4, M4, b4, c4, e4, f4, g4, x4, z4, Q5, M5, b5, c5, e5, f5, g5, x5, z5, Q6, M6, b6, c6, e6, f6, g6, x6, z6, Q7, M7, b7, c7, e7, f7, g7, x7, z7, G0, G1, G2, G3, G4, G5, G6, G7, G8]
  have OV : ∀ q, q < a + 11 → z_ob q7 q = z_ob s5 q := fun q h => by rw [V7.1 _ (lt_aw h (by decide)), V6.1 _ (lt_aw h (by decide)), V5.1 _ (lt_aw h (by decide)), V4.1 _ (lt_aw h (by decide)), V3.1 _ (lt_aw h (by decide)), V2.1 _ (lt_aw h (by decide)), V1.1 _ (lt_aw h (by decide)), V0.1 _ (lt_aw h (by decide)), O6]
  have AV : ∀ q, q < a + 11 → z_ar q7 q = z_ar s5 q := fun q h => by rw [V7.2.1 _ (lt_aw h (by decide)), V6.2.1 _ (lt_aw h (by decide)), V5.2.1 _ (lt_aw h (by decide)), V4.2.1 _ (lt_aw h (by decide)), V3.2.1 _ (lt_aw h (by decide)), V2.2.1 _ (lt_aw h (by decide)), V1.2.1 _ (lt_aw h (by decide)), V0.2.1 _ (lt_aw h (by decide)), A6]
  have LV : ∀ q, q < a + 11 → z_ln q7 q = z_ln s5 q := fun q h => by rw [V7.2.2.1 _ (lt_aw h (by decide)), V6.2.2.1 _ (lt_aw h (by decide)), V5.2.2.1 _ (lt_aw h (by decide)), V4.2.2.1 _ (lt_aw h (by decide)), V3.2.2.1 _ (lt_aw h (by decide)), V2.2.2.1 _ (lt_aw h (by decide)), V1.2.2.1 _ (lt_aw h (by decide)), V0.2.2.1 _ (lt_aw h (by decide)), L6]
  have IV : ∀ q, q < a + 11 → q ≠ a → z_I q7 q = z_I s5 q := fun q h h2 => by rw [V7.2.2.2.1 _ (lt_aw h (by decide)), V6.2.2.2.1 _ (lt_aw h (by decide)), V5.2.2.2.1 _ (lt_aw h (by decide)), V4.2.2.2.1 _ (lt_aw h (by decide)), V3.2.2.2.1 _ (lt_aw h (by decide)), V2.2.2.2.1 _ (lt_aw h (by decide)), V1.2.2.2.1 _ (lt_aw h (by decide)), V0.2.2.2.1 _ (lt_aw h (by decide)), I6 _ h2]
  have IVa : z_I q7 a = F := by rw [V7.2.2.2.1 _ (lt_a0 (by decide)), V6.2.2.2.1 _ (lt_a0 (by decide)), V5.2.2.2.1 _ (lt_a0 (by decide)), V4.2.2.2.1 _ (lt_a0 (by decide)), V3.2.2.2.1 _ (lt_a0 (by decide)), V2.2.2.2.1 _ (lt_a0 (by decide)), V1.2.2.2.1 _ (lt_a0 (by decide)), V0.2.2.2.1 _ (lt_a0 (by decide))]; exact I6a
  have JV : ∀ q, q < a + 11 → z_J q7 q = z_J s5 q := fun q h => by rw [V7.2.2.2.2.1 _ (lt_aw h (by decide)), V6.2.2.2.2.1 _ (lt_aw h (by decide)), V5.2.2.2.2.1 _ (lt_aw h (by decide)), V4.2.2.2.2.1 _ (lt_aw h (by decide)), V3.2.2.2.2.1 _ (lt_aw h (by decide)), V2.2.2.2.2.1 _ (lt_aw h (by decide)), V1.2.2.2.2.1 _ (lt_aw h (by decide)), V0.2.2.2.2.1 _ (lt_aw h (by decide)), J6]
  have SV : ∀ q, q < a + 11 → z_sh q7 q = z_sh s5 q := fun q h => by rw [V7.2.2.2.2.2.2 _ (lt_aw h (by decide)), V6.2.2.2.2.2.2 _ (lt_aw h (by decide)), V5.2.2.2.2.2.2 _ (lt_aw h (by decide)), V4.2.2.2.2.2.2 _ (lt_aw h (by decide)), V3.2.2.2.2.2.2 _ (lt_aw h (by decide)), V2.2.2.2.2.2.2 _ (lt_aw h (by decide)), V1.2.2.2.2.2.2 _ (lt_aw h (by decide)), V0.2.2.2.2.2.2 _ (lt_aw h (by decide)), S6]
  have RV : ∀ q i, q < a + 11 → q ≠ a + 1 → z_R q7 q i = z_R s5 q i := fun q i h h2 => by rw [V7.2.2.2.2.2.1 _ _ (lt_aw h (by decide)) (Or.inl h2), V6.2.2.2.2.2.1 _ _ (lt_aw h (by decide)) (Or.inl h2), V5.2.2.2.2.2.1 _ _ (lt_aw h (by decide)) (Or.inl h2), V4.2.2.2.2.2.1 _ _ (lt_aw h (by decide)) (Or.inl h2), V3.2.2.2.2.2.1 _ _ (lt_aw h (by decide)) (Or.inl h2), V2.2.2.2.2.2.1 _ _ (lt_aw h (by decide)) (Or.inl h2), V1.2.2.2.2.2.1 _ _ (lt_aw h (by decide)) (Or.inl h2), V0.2.2.2.2.2.1 _ _ (lt_aw h (by decide)) (Or.inl h2), R6]
  have I10 : ∀ j, z_I s1 a j = n32 0 := fun j => by rw [I1 _ (lt_a0 (by decide))]; exact hI j
  have I50 : ∀ j, z_I s5 a j = n32 0 := fun j => by rw [I5 _ (lt_a0 (by decide)), I4 _ (lt_a0 (by decide)), I3 _ (lt_a0 (by decide)), I2 _ (lt_a0 (by decide))]; exact I10 j
  have LS : zLs q7 a := ⟨by rw [OV _ (lt_a0 (by decide))]; exact o5,
    by rw [RV _ _ (lt_a0 (by decide)) (Nat.ne_of_lt (lt_a0 (by decide))), R5 _ _ (lt_a0 (by decide)) (Or.inr (by decide)), R4 _ _ (lt_a0 (by decide)) (Or.inr (by decide)), R3 _ _ (lt_a0 (by decide)) (Or.inr (by decide)), R2 _ _ (lt_a0 (by decide)) (Or.inr (by decide))]; exact r1,
    by rw [RV _ _ (lt_a0 (by decide)) (Nat.ne_of_lt (lt_a0 (by decide))), R5 _ _ (lt_a0 (by decide)) (Or.inr (by decide)), R4 _ _ (lt_a0 (by decide)) (Or.inr (by decide)), R3 _ _ (lt_a0 (by decide)) (Or.inr (by decide))]; exact r2,
    by rw [RV _ _ (lt_a0 (by decide)) (Nat.ne_of_lt (lt_a0 (by decide))), R5 _ _ (lt_a0 (by decide)) (Or.inr (by decide)), R4 _ _ (lt_a0 (by decide)) (Or.inr (by decide))]; exact r3,
    by rw [RV _ _ (lt_a0 (by decide)) (Nat.ne_of_lt (lt_a0 (by decide))), R5 _ _ (lt_a0 (by decide)) (Or.inr (by decide))]; exact r4,
    by rw [RV _ _ (lt_a0 (by decide)) (Nat.ne_of_lt (lt_a0 (by decide)))]; exact r5,
    by rw [AV _ (lt_ad (by decide)), A5 _ (lt_ad (by decide)), A4 _ (lt_ad (by decide)), A3 _ (lt_ad (by decide)), A2 _ (lt_ad (by decide))]; exact sh_ar_of h1,
    by rw [LV _ (lt_ad (by decide)), L5 _ (lt_ad (by decide)), L4 _ (lt_ad (by decide)), L3 _ (lt_ad (by decide)), L2 _ (lt_ad (by decide))]; exact sh_ln_of h1,
    by rw [OV _ (lt_ad (by decide)), O5 _ (lt_ad (by decide)), O4 _ (lt_ad (by decide)), O3 _ (lt_ad (by decide))]; exact sh_ob_of h2,
    by rw [RV _ _ (lt_ad (by decide)) (ne_ad (by decide)), R5 _ _ (lt_ad (by decide)) (Or.inl (ne_a0 (by decide))), R4 _ _ (lt_ad (by decide)) (Or.inl (ne_a0 (by decide))), R3 _ _ (lt_ad (by decide)) (Or.inl (ne_a0 (by decide)))]; exact r2a,
    by rw [OV _ (lt_ad (by decide)), O5 _ (lt_ad (by decide)), O4 _ (lt_ad (by decide)), O3 _ (lt_ad (by decide))]; exact sh_ob_of h2a,
    by rw [RV _ _ (lt_ad (by decide)) (ne_ad (by decide)), R5 _ _ (lt_ad (by decide)) (Or.inl (ne_a0 (by decide))), R4 _ _ (lt_ad (by decide)) (Or.inl (ne_a0 (by decide))), R3 _ _ (lt_ad (by decide)) (Or.inl (ne_a0 (by decide)))]; exact r2b,
    by rw [AV _ (lt_ad (by decide)), A5 _ (lt_ad (by decide)), A4 _ (lt_ad (by decide)), A3 _ (lt_ad (by decide))]; exact sh_ar_of h2b,
    by rw [LV _ (lt_ad (by decide)), L5 _ (lt_ad (by decide)), L4 _ (lt_ad (by decide)), L3 _ (lt_ad (by decide))]; exact sh_ln_of h2b,
    by rw [OV _ (lt_ad (by decide)), O5 _ (lt_ad (by decide)), O4 _ (lt_ad (by decide))]; exact sh_ob_of h3,
    by rw [RV _ _ (lt_ad (by decide)) (ne_ad (by decide)), R5 _ _ (lt_ad (by decide)) (Or.inl (ne_a0 (by decide))), R4 _ _ (lt_ad (by decide)) (Or.inl (ne_a0 (by decide)))]; exact r3a,
    by rw [RV _ _ (lt_ad (by decide)) (ne_ad (by decide)), R5 _ _ (lt_ad (by decide)) (Or.inl (ne_a0 (by decide))), R4 _ _ (lt_ad (by decide)) (Or.inl (ne_a0 (by decide)))]; exact r3b,
    by rw [AV _ (lt_ad (by decide)), A5 _ (lt_ad (by decide)), A4 _ (lt_ad (by decide))]; exact sh_ar_of h3a,
    by rw [LV _ (lt_ad (by decide)), L5 _ (lt_ad (by decide)), L4 _ (lt_ad (by decide))]; exact sh_ln_of h3a,
    by rw [AV _ (lt_ad (by decide)), A5 _ (lt_ad (by decide)), A4 _ (lt_ad (by decide))]; exact sh_ar_of h3b,
    by rw [LV _ (lt_ad (by decide)), L5 _ (lt_ad (by decide)), L4 _ (lt_ad (by decide))]; exact sh_ln_of h3b,
    by rw [OV _ (lt_ad (by decide)), O5 _ (lt_ad (by decide))]; exact sh_ob_of h4,
    by rw [OV _ (lt_ad (by decide))]; exact sh_ob_of h5,
    by rw [RV _ _ (lt_ad (by decide)) (ne_ad (by decide))]; exact r5a,
    by rw [AV _ (lt_ad (by decide))]; exact sh_ar_of h5a,
    by rw [LV _ (lt_ad (by decide))]; exact sh_ln_of h5a⟩
  have PL : zPl q7 a (fun i => a + 11 + i) := by
    have pw : ∀ i, i < 8 → z_R q7 (a + 1) i = some (a + 11 + i) ∧ z_ob q7 (a + 11 + i) 6 = true := by
      intro i hi
      rcases (show i = 0 ∨ i = 1 ∨ i = 2 ∨ i = 3 ∨ i = 4 ∨ i = 5 ∨ i = 6 ∨ i = 7 by omega) with rfl | rfl | rfl | rfl | rfl | rfl | rfl | rfl
      · refine ⟨?_, ?_⟩
        · rw [V7.2.2.2.2.2.1 _ _ (lt_ad (by decide)) (Or.inr (by decide)), V6.2.2.2.2.2.1 _ _ (lt_ad (by decide)) (Or.inr (by decide)), V5.2.2.2.2.2.1 _ _ (lt_ad (by decide)) (Or.inr (by decide)), V4.2.2.2.2.2.1 _ _ (lt_ad (by decide)) (Or.inr (by decide)), V3.2.2.2.2.2.1 _ _ (lt_ad (by decide)) (Or.inr (by decide)), V2.2.2.2.2.2.1 _ _ (lt_ad (by decide)) (Or.inr (by decide)), V1.2.2.2.2.2.1 _ _ (lt_ad (by decide)) (Or.inr (by decide))]; exact w0
        · show z_ob q7 (a + 11) 6 = true
          rw [V7.1 _ (lt_ad (by decide)), V6.1 _ (lt_ad (by decide)), V5.1 _ (lt_ad (by decide)), V4.1 _ (lt_ad (by decide)), V3.1 _ (lt_ad (by decide)), V2.1 _ (lt_ad (by decide)), V1.1 _ (lt_ad (by decide))]; exact y0
      · refine ⟨?_, ?_⟩
        · rw [V7.2.2.2.2.2.1 _ _ (lt_ad (by decide)) (Or.inr (by decide)), V6.2.2.2.2.2.1 _ _ (lt_ad (by decide)) (Or.inr (by decide)), V5.2.2.2.2.2.1 _ _ (lt_ad (by decide)) (Or.inr (by decide)), V4.2.2.2.2.2.1 _ _ (lt_ad (by decide)) (Or.inr (by decide)), V3.2.2.2.2.2.1 _ _ (lt_ad (by decide)) (Or.inr (by decide)), V2.2.2.2.2.2.1 _ _ (lt_ad (by decide)) (Or.inr (by decide))]; exact w1
        · show z_ob q7 (a + 12) 6 = true
          rw [V7.1 _ (lt_ad (by decide)), V6.1 _ (lt_ad (by decide)), V5.1 _ (lt_ad (by decide)), V4.1 _ (lt_ad (by decide)), V3.1 _ (lt_ad (by decide)), V2.1 _ (lt_ad (by decide))]; exact y1
      · refine ⟨?_, ?_⟩
        · rw [V7.2.2.2.2.2.1 _ _ (lt_ad (by decide)) (Or.inr (by decide)), V6.2.2.2.2.2.1 _ _ (lt_ad (by decide)) (Or.inr (by decide)), V5.2.2.2.2.2.1 _ _ (lt_ad (by decide)) (Or.inr (by decide)), V4.2.2.2.2.2.1 _ _ (lt_ad (by decide)) (Or.inr (by decide)), V3.2.2.2.2.2.1 _ _ (lt_ad (by decide)) (Or.inr (by decide))]; exact w2
        · show z_ob q7 (a + 13) 6 = true
          rw [V7.1 _ (lt_ad (by decide)), V6.1 _ (lt_ad (by decide)), V5.1 _ (lt_ad (by decide)), V4.1 _ (lt_ad (by decide)), V3.1 _ (lt_ad (by decide))]; exact y2
      · refine ⟨?_, ?_⟩
        · rw [V7.2.2.2.2.2.1 _ _ (lt_ad (by decide)) (Or.inr (by decide)), V6.2.2.2.2.2.1 _ _ (lt_ad (by decide)) (Or.inr (by decide)), V5.2.2.2.2.2.1 _ _ (lt_ad (by decide)) (Or.inr (by decide)), V4.2.2.2.2.2.1 _ _ (lt_ad (by decide)) (Or.inr (by decide))]; exact w3
        · show z_ob q7 (a + 14) 6 = true
          rw [V7.1 _ (lt_ad (by decide)), V6.1 _ (lt_ad (by decide)), V5.1 _ (lt_ad (by decide)), V4.1 _ (lt_ad (by decide))]; exact y3
      · refine ⟨?_, ?_⟩
        · rw [V7.2.2.2.2.2.1 _ _ (lt_ad (by decide)) (Or.inr (by decide)), V6.2.2.2.2.2.1 _ _ (lt_ad (by decide)) (Or.inr (by decide)), V5.2.2.2.2.2.1 _ _ (lt_ad (by decide)) (Or.inr (by decide))]; exact w4
        · show z_ob q7 (a + 15) 6 = true
          rw [V7.1 _ (lt_ad (by decide)), V6.1 _ (lt_ad (by decide)), V5.1 _ (lt_ad (by decide))]; exact y4
      · refine ⟨?_, ?_⟩
        · rw [V7.2.2.2.2.2.1 _ _ (lt_ad (by decide)) (Or.inr (by decide)), V6.2.2.2.2.2.1 _ _ (lt_ad (by decide)) (Or.inr (by decide))]; exact w5
        · show z_ob q7 (a + 16) 6 = true
          rw [V7.1 _ (lt_ad (by decide)), V6.1 _ (lt_ad (by decide))]; exact y5
      · refine ⟨?_, ?_⟩
        · rw [V7.2.2.2.2.2.1 _ _ (lt_ad (by decide)) (Or.inr (by decide))]; exact w6
        · show z_ob q7 (a + 17) 6 = true
          rw [V7.1 _ (lt_ad (by decide))]; exact y6
      · refine ⟨?_, ?_⟩
        · exact w7
        · show z_ob q7 (a + 18) 6 = true
          exact y7
    exact ⟨fun i hi => ⟨(pw i hi).1, (pw i hi).2, Nat.le_add_right _ _, by show a + 11 + i < a + 19; omega⟩, fun i j _ _ h => by have h' : a + 11 + i = a + 11 + j := h; omega⟩
  refine ⟨q7, EV, zU_of (fun q h => ?_) (fun q h => ?_) (fun q h => ?_) (fun q i h hd => ?_), M7, fun i => a + 11 + i, fun _ => 0, fun _ _ => 0, 0, LS, PL, ⟨?_, ⟨?_, ?_⟩, ⟨?_, fun m w hm _ => ?_⟩, ⟨?_, fun k hk => ?_⟩, ⟨fun i hi => ?_, ?_, ?_, ?_⟩, ⟨by omega, fun i hi => by omega, fun i j _ hj => by omega, fun x hx => Or.inl (s_g0_hi (by omega))⟩, fun i hi => by omega, fun i hi => by omega⟩, fun i w hi => ?_⟩
  · rw [SV _ (Nat.lt_of_lt_of_le h (Nat.le_add_right a _)), S5 _ (Nat.lt_of_lt_of_le h (Nat.le_add_right a _)), S4 _ (Nat.lt_of_lt_of_le h (Nat.le_add_right a _)), S3 _ (Nat.lt_of_lt_of_le h (Nat.le_add_right a _)), S2 _ (Nat.lt_of_lt_of_le h (Nat.le_add_right a _)), S1 _ (Nat.lt_of_lt_of_le h (Nat.le_add_right a _))]
  · rw [IV _ (Nat.lt_of_lt_of_le h (Nat.le_add_right a _)) (Nat.ne_of_lt h), I5 _ (Nat.lt_of_lt_of_le h (Nat.le_add_right a _)), I4 _ (Nat.lt_of_lt_of_le h (Nat.le_add_right a _)), I3 _ (Nat.lt_of_lt_of_le h (Nat.le_add_right a _)), I2 _ (Nat.lt_of_lt_of_le h (Nat.le_add_right a _)), I1 _ (Nat.lt_of_lt_of_le h (Nat.le_add_right a _))]
  · rw [JV _ (Nat.lt_of_lt_of_le h (Nat.le_add_right a _)), J5 _ (Nat.lt_of_lt_of_le h (Nat.le_add_right a _)), J4 _ (Nat.lt_of_lt_of_le h (Nat.le_add_right a _)), J3 _ (Nat.lt_of_lt_of_le h (Nat.le_add_right a _)), J2 _ (Nat.lt_of_lt_of_le h (Nat.le_add_right a _)), J1 _ (Nat.lt_of_lt_of_le h (Nat.le_add_right a _))]
  · rw [RV _ _ (Nat.lt_of_lt_of_le h (Nat.le_add_right a _)) (Nat.ne_of_lt (Nat.lt_of_lt_of_le h (Nat.le_add_right a _))), R5 _ _ (Nat.lt_of_lt_of_le h (Nat.le_add_right a _)) (Or.inl (Nat.ne_of_lt h)), R4 _ _ (Nat.lt_of_lt_of_le h (Nat.le_add_right a _)) (Or.inl (Nat.ne_of_lt h)), R3 _ _ (Nat.lt_of_lt_of_le h (Nat.le_add_right a _)) (Or.inl (Nat.ne_of_lt h)), R2 _ _ (Nat.lt_of_lt_of_le h (Nat.le_add_right a _)) (Or.inl (Nat.ne_of_lt h)), R1 _ _ (Nat.lt_of_lt_of_le h (Nat.le_add_right a _)) (Or.inl (Nat.ne_of_lt h))]
  · unfold qL
    rw [IVa, ← hF]
    have f5 : gu (gu (gu (gu (z_I s5 a) 6 (n32 60)) 7 (n32 4)) 8 (n32 3)) 10 nn 5 = n32 0 := I50 5
    have f9 : gu (gu (gu (gu (z_I s5 a) 6 (n32 60)) 7 (n32 4)) 8 (n32 3)) 10 nn 9 = n32 0 := I50 9
    exact ⟨f5, rfl, rfl, rfl, f9, rfl⟩
  · rw [IV _ (lt_ad (by decide)) (ne_a0 (by decide)), I5 _ (lt_ad (by decide)), I4 _ (lt_ad (by decide)), I3 _ (lt_ad (by decide))]; exact i2
  · rw [IV _ (lt_ad (by decide)) (ne_a0 (by decide))]; exact i5
  · rw [IV _ (lt_ad (by decide)) (ne_a0 (by decide)), I5 _ (lt_ad (by decide)), I4 _ (lt_ad (by decide)), I3 _ (lt_ad (by decide))]; exact i2a
  · rw [s_g0_n (by decide)] at hm; omega
  · rw [IV _ (lt_ad (by decide)) (ne_a0 (by decide)), I5 _ (lt_ad (by decide)), I4 _ (lt_ad (by decide))]; exact i3
  · rw [s_g0_n (by decide)] at hk; omega
  · rw [IV _ (lt_ad (by decide)) (ne_a0 (by decide)), I5 _ (lt_ad (by decide)), i4, s_g0_hi (Nat.le_trans (by decide) (Nat.le_add_right 9 i))]; rfl
  · rw [IV _ (lt_ad (by decide)) (ne_a0 (by decide)), I5 _ (lt_ad (by decide)), i4, s_g0_hi (by decide)]; rfl
  · rw [IV _ (lt_ad (by decide)) (ne_a0 (by decide)), I5 _ (lt_ad (by decide)), i4, s_g0_n (by decide)]; rfl
  · rw [JV _ (lt_ad (by decide)), J5 _ (lt_ad (by decide)), j4, s_g0_n (by decide)]; rfl
  · rw [s_g0_n (by decide)] at hi; omega
end NEW
