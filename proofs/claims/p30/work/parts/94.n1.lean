/-! A NEW OBJECT, beside others -/
section NEW
variable {σ : zSt} {b : Nat}
theorem i_busF (o : z_ob σ b 8 = true) (hn : z_nx σ = b + 1) (hI : z_I σ b 4 = 0) (gs : Nat → zG) (tx : Nat → Int32) : ∃ σ', f_X9_init σ b = some σ' ∧ z_nx σ' = b + 118 ∧ zC σ' b s_g0 0 gs 0 tx ∧ ∀ lo, zEq lo b σ σ' := by
  obtain ⟨t1, s1, E1, ⟨T1, T1a, T1l⟩, O1, P1, U1, n1, r1, L1⟩ := u_line (σ := σ) (A := b) (j := 0) hn (by omega)
  have n1' : z_nx s1 = b + 20 := n1
  obtain ⟨t2, s2, E2, ⟨T2, T2a, T2l⟩, O2, P2, U2, n2, r2, L2⟩ := u_line (σ := s1) (A := b) (j := 1) n1' (by omega)
  have n2' : z_nx s2 = b + 39 := n2
  obtain ⟨t3, E3, U3, n3, O3, SV⟩ := i_hist (σ := z_nw s2 (.inl 1)) (q := b + 39) (by rw [← n2']; exact z_ob_nwn 1) (by rw [z_nx_nw, n2']) (by rw [z_I_nw, if_pos n2'.symm]) gs
  have n3' : z_nx t3 = b + 117 := n3
  generalize P3 : z_pR t3 b 2 (some (b + 39)) = s3
  have n3s : z_nx s3 = b + 117 := by rw [← P3]; exact n3'
  obtain ⟨s4, P4, U4, n4, r4, h4, _, _⟩ := u_one (σ := s3) (A := b) (j := 3) (.inr (1, 120)) (by omega)
  rw [n3s] at P4 U4 n4 r4 h4
  have o1 : z_ob s1 b 8 = true := by rw [U1.1 _ (by omega)]; exact o
  have o2 : z_ob s2 b 8 = true := by rw [U2.1 _ (by omega)]; exact o1
  have d1 : z_ob t1 b 8 = true := by rw [T1 _ (by omega)]; exact o
  have d2 : z_ob t2 b 8 = true := by rw [T2 _ (by omega)]; exact o1
  have d3 : z_ob t3 b 8 = true := by rw [U3.1 _ (by omega), z_ob_nwo _ (by omega)]; exact o2
  have o3 : z_ob s3 b 8 = true := by rw [← P3]; exact d3
  have d4 : z_ob (z_nw s3 (.inr (1, 120))) b 8 = true := by rw [z_ob_nwo _ (by omega)]; exact o3
  have o4 : z_ob s4 b 8 = true := by rw [U4.1 _ (by omega)]; exact o3
  have EV : f_X9_init σ b = some s4 := by
    simp only [f_X9_init, ↓zl_eq, ↓zb_eq, ↓zb2_eq, ↓zc_some, ↓zc_none, ↓zb_pre, ↓zb2_pre, ↓zc_pre, ↓zex_eq, ↓reduceIte, Option.isSome_some, Option.isSome_none, Option.getD_some, hn, E1, d1, P1, n1', E2, d2, P2, n2', E3, d3, P3, n3s, d4, P4]
  -- from s2 to s3
  have F23 : ∀ lo hi, hi ≤ b + 39 → b < lo → zEq lo hi s2 s3 := fun lo hi h1 h2 q a1 a2 => by
    rw [← P3]
    refine ⟨?_, ?_, ?_, funext fun i => ?_⟩
    · rw [z_sh_pR, U3.2.2.2.2.2.2 _ (by omega), z_sh_nw, if_neg (by omega)]
    · rw [z_I_pR, U3.2.2.2.1 _ (by omega), I_nwo _ (by omega)]
    · rw [z_J_pR, U3.2.2.2.2.1 _ (by omega), J_nwo _ (by omega)]
    · rw [z_R_pR, if_neg (by omega), U3.2.2.2.2.2.1 _ _ (by omega) (by omega), R_nwo _ (by omega)]
  have F3 : ∀ lo hi, b < lo → zEq lo hi t3 s3 := fun lo hi h2 q a1 a2 => by
    rw [← P3]
    exact ⟨rfl, rfl, rfl, funext fun i => by rw [z_R_pR, if_neg (by omega)]⟩
  have F4 : ∀ lo hi, hi ≤ b + 117 → b < lo → zEq lo hi s3 s4 := fun lo hi h1 h2 => zEq_s (zU_eq U4 h1 (Or.inl h2)) (Nat.le_refl _) (Nat.le_refl _)
  have F12 : ∀ lo hi, hi ≤ b + 20 → b < lo → zEq lo hi s1 s2 := fun lo hi h1 h2 => zU_eq U2 h1 (Or.inl h2)
  have X1 : zLn s4 (b + 1) s_g0 := zLn_reg (zEq_t (F12 _ _ (by omega) (by omega)) (zEq_t (F23 _ _ (by omega) (by omega)) (F4 _ _ (by omega) (by omega)))) L1
  have X2 : zLn s4 (b + 20) s_g0 := zLn_reg (zEq_t (F23 _ _ (by omega) (by omega)) (F4 _ _ (by omega) (by omega))) L2
  have X3 : zSv s4 (b + 39) (fun i => b + 39 + 2 + 19 * i) 0 gs := zSv_reg (zEq_t (F3 _ _ (by omega)) (F4 _ _ (by omega) (by omega))) (fun i hi => zEq_t (F3 _ _ (by show b < b + 39 + 2 + 19 * i; omega)) (F4 _ _ (by show b + 39 + 2 + 19 * i + 19 ≤ b + 117; omega) (by show b < b + 39 + 2 + 19 * i; omega))) SV
  have R3 : ∀ i, i ≠ 2 → z_R s3 b i = z_R s2 b i := fun i hi => by rw [← P3, z_R_pR, if_neg (by omega), U3.2.2.2.2.2.1 _ _ (by omega) (by omega), R_nwo _ (by omega)]
  have i1 : z_I s4 b 4 = n32 0 := by
    rw [U4.2.2.2.1 _ (by omega), ← P3, z_I_pR, U3.2.2.2.1 _ (by omega), I_nwo _ (by omega), U2.2.2.2.1 _ (by omega), U1.2.2.2.1 _ (by omega)]
    exact hI
  have FR : ∀ lo, zEq lo b σ s4 := fun lo q q1 q2 => by
    refine ⟨?_, ?_, ?_, funext fun i => ?_⟩
    · rw [U4.2.2.2.2.2.2 _ (by omega), ← P3, z_sh_pR, U3.2.2.2.2.2.2 _ (by omega), z_sh_nw, if_neg (by omega), U2.2.2.2.2.2.2 _ (by omega), U1.2.2.2.2.2.2 _ (by omega)]
    · rw [U4.2.2.2.1 _ (by omega), ← P3, z_I_pR, U3.2.2.2.1 _ (by omega), I_nwo _ (by omega), U2.2.2.2.1 _ (by omega), U1.2.2.2.1 _ (by omega)]
    · rw [U4.2.2.2.2.1 _ (by omega), ← P3, z_J_pR, U3.2.2.2.2.1 _ (by omega), J_nwo _ (by omega), U2.2.2.2.2.1 _ (by omega), U1.2.2.2.2.1 _ (by omega)]
    · rw [U4.2.2.2.2.2.1 _ _ (by omega) (by omega), ← P3, z_R_pR, if_neg (by omega), U3.2.2.2.2.2.1 _ _ (by omega) (by omega), R_nwo _ (by omega), U2.2.2.2.2.2.1 _ _ (by omega) (by omega), U1.2.2.2.2.2.1 _ _ (by omega) (by omega)]
  refine ⟨s4, EV, n4, ⟨⟨o4, ?_, ?_, ?_, r4, sh_ar_of h4, sh_ln_of h4⟩, X1, zLn_bl X2, ⟨_, X3, fun i hi => ?_⟩, i1, fun j hj => by omega⟩, FR⟩
  · rw [U4.2.2.2.2.2.1 _ _ (by omega) (by omega), R3 _ (by omega), U2.2.2.2.2.2.1 _ _ (by omega) (by omega)]; exact r1
  · rw [U4.2.2.2.2.2.1 _ _ (by omega) (by omega), R3 _ (by omega)]; exact r2
  · rw [U4.2.2.2.2.2.1 _ _ (by omega) (by omega), ← P3, z_R_pR, if_pos ⟨rfl, rfl⟩]
  · show b + 41 ≤ b + 39 + 2 + 19 * i ∧ b + 39 + 2 + 19 * i + 19 ≤ b + 117
    omega
end NEW
