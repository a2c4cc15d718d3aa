section NEW
variable {σ : zSt}
theorem zU_eq {n A j lo hi : Nat} {σ' : zSt} (U : zU n A j σ σ') (h : hi ≤ n) (hA : A < lo ∨ hi ≤ A) : zEq lo hi σ σ' := fun q h1 h2 =>
  ⟨U.2.2.2.2.2.2 q (by omega), U.2.2.2.1 q (by omega), U.2.2.2.2.1 q (by omega), funext fun i => U.2.2.2.2.2.1 q i (by omega) (Or.inl (by omega))⟩
/-- a line is made, and named -/
theorem u_line {A j n : Nat} (hn : z_nx σ = n) (hA : A < n) : ∃ σ1 σ', f_X2_init (z_nw σ (.inl 2)) n = some σ1 ∧ ((∀ q, q < n → z_ob σ1 q = z_ob σ q) ∧ (∀ q, q < n → z_ar σ1 q = z_ar σ q) ∧ ∀ q, q < n → z_ln σ1 q = z_ln σ q) ∧ z_ob σ1 n 2 = true ∧ z_pR σ1 A j (some n) = σ' ∧ zU n A j σ σ' ∧ z_nx σ' = n + 19 ∧ z_R σ' A j = some n ∧ zLn σ' n s_g0 := by
  obtain ⟨σ1, E, ⟨U1, U2, U3, U4, U5, U6, U7⟩, n1, L⟩ := i_line (σ := z_nw σ (.inl 2)) (a := n) (by rw [← hn]; exact z_ob_nwn 2) (by rw [z_nx_nw, hn]) (fun j => by rw [z_I_nw, if_pos hn.symm])
  have S1 : ∀ q, q < n → z_sh σ1 q = z_sh σ q := fun q h => by rw [U7 _ h, z_sh_nw, if_neg (by omega)]
  refine ⟨σ1, _, E, ⟨fun q h => z_ob_at (S1 q h), fun q h => z_ar_at (S1 q h), fun q h => z_ln_at (S1 q h)⟩, L.choose_spec.choose_spec.choose_spec.choose_spec.1.1, rfl, zU_of (fun q h => ?_) (fun q h => ?_) (fun q h => ?_) (fun q i h hd => ?_), n1, ?_, zLn_reg (σ := σ1) (fun q h1 h2 => ⟨rfl, rfl, rfl, ?_⟩) L⟩
  · rw [z_sh_pR]; exact S1 q h
  · rw [z_I_pR, U4 _ h, I_nwo _ (by omega)]
  · rw [z_J_pR, U5 _ h, J_nwo _ (by omega)]
  · rw [z_R_pR, if_neg (by omega), U6 _ _ h (Or.inl (by omega)), R_nwo _ (by omega)]
  · rw [z_R_pR, if_pos ⟨rfl, rfl⟩]
  · funext i; rw [z_R_pR, if_neg (by omega)]
/-- the history is made -/
theorem i_hist {q : Nat} (o : z_ob σ q 1 = true) (hn : z_nx σ = q + 1) (hI : z_I σ q 1 = 0) (gs : Nat → zG) : ∃ σ', f_X1_init σ q = some σ' ∧ zU q q 0 σ σ' ∧ z_nx σ' = q + 78 ∧ z_ob σ' q 1 = true ∧ zSv σ' q (fun i => q + 2 + 19 * i) 0 gs := by
  obtain ⟨s1, P1, U1, n1, r1, h1, _, _⟩ := u_one (σ := σ) (A := q) (j := 0) (.inr (4, 4)) (by omega)
  rw [hn] at P1 U1 n1 r1 h1
  have n1' : z_nx s1 = q + 2 := n1
  obtain ⟨t2, s2, E2, ⟨T2, T2a, T2l⟩, O2, P2, U2, n2, r2, L2⟩ := u_line (σ := s1) (A := q + 1) (j := 0) n1' (by omega)
  have n2' : z_nx s2 = q + 21 := n2
  obtain ⟨t3, s3, E3, ⟨T3, T3a, T3l⟩, O3, P3, U3, n3, r3, L3⟩ := u_line (σ := s2) (A := q + 1) (j := 1) n2' (by omega)
  have n3' : z_nx s3 = q + 40 := n3
  obtain ⟨t4, s4, E4, ⟨T4, T4a, T4l⟩, O4, P4, U4, n4, r4, L4⟩ := u_line (σ := s3) (A := q + 1) (j := 2) n3' (by omega)
  have n4' : z_nx s4 = q + 59 := n4
  obtain ⟨t5, s5, E5, ⟨T5, T5a, T5l⟩, O5, P5, U5, n5, r5, L5⟩ := u_line (σ := s4) (A := q + 1) (j := 3) n4' (by omega)
  have n5' : z_nx s5 = q + 78 := n5
  have o1 : z_ob s1 q 1 = true := by rw [U1.1 _ (by omega)]; exact o
  have o2 : z_ob s2 q 1 = true := by rw [U2.1 _ (by omega)]; exact o1
  have o3 : z_ob s3 q 1 = true := by rw [U3.1 _ (by omega)]; exact o2
  have o4 : z_ob s4 q 1 = true := by rw [U4.1 _ (by omega)]; exact o3
  have o5 : z_ob s5 q 1 = true := by rw [U5.1 _ (by omega)]; exact o4
  have d1 : z_ob (z_nw σ (.inr (4, 4))) q 1 = true := by rw [z_ob_nwo _ (by omega)]; exact o
  have rr2 : z_R s2 q 0 = some (q + 1) := by rw [U2.2.2.2.2.2.1 _ _ (by omega) (by omega)]; exact r1
  have rr3 : z_R s3 q 0 = some (q + 1) := by rw [U3.2.2.2.2.2.1 _ _ (by omega) (by omega)]; exact rr2
  have rr4 : z_R s4 q 0 = some (q + 1) := by rw [U4.2.2.2.2.2.1 _ _ (by omega) (by omega)]; exact rr3
  have rr5 : z_R s5 q 0 = some (q + 1) := by rw [U5.2.2.2.2.2.1 _ _ (by omega) (by omega)]; exact rr4
  have a1 : z_ar s1 (q + 1) 4 = true := sh_ar_of h1
  have a2 : z_ar s2 (q + 1) 4 = true := by rw [U2.2.1 _ (by omega)]; exact a1
  have a3 : z_ar s3 (q + 1) 4 = true := by rw [U3.2.1 _ (by omega)]; exact a2
  have a4 : z_ar s4 (q + 1) 4 = true := by rw [U4.2.1 _ (by omega)]; exact a3
  have a5 : z_ar s5 (q + 1) 4 = true := by rw [U5.2.1 _ (by omega)]; exact a4
  have l1 : z_ln s1 (q + 1) = 4 := sh_ln_of h1
  have l2 : z_ln s2 (q + 1) = 4 := by rw [U2.2.2.1 _ (by omega)]; exact l1
  have l3 : z_ln s3 (q + 1) = 4 := by rw [U3.2.2.1 _ (by omega)]; exact l2
  have l4 : z_ln s4 (q + 1) = 4 := by rw [U4.2.2.1 _ (by omega)]; exact l3
  have l5 : z_ln s5 (q + 1) = 4 := by rw [U5.2.2.1 _ (by omega)]; exact l4
  have b2 : z_ar t2 (q + 1) 4 = true := by rw [T2a _ (by omega)]; exact a1
  have b3 : z_ar t3 (q + 1) 4 = true := by rw [T3a _ (by omega)]; exact a2
  have b4 : z_ar t4 (q + 1) 4 = true := by rw [T4a _ (by omega)]; exact a3
  have b5 : z_ar t5 (q + 1) 4 = true := by rw [T5a _ (by omega)]; exact a4
  have c2 : z_ln t2 (q + 1) = 4 := by rw [T2l _ (by omega)]; exact l1
  have c3 : z_ln t3 (q + 1) = 4 := by rw [T3l _ (by omega)]; exact l2
  have c4 : z_ln t4 (q + 1) = 4 := by rw [T4l _ (by omega)]; exact l3
  have c5 : z_ln t5 (q + 1) = 4 := by rw [T5l _ (by omega)]; exact l4
  have G0 : (n32 4 ≤ n32 0) = False := by rw [n32_le (by omega) (by omega)]; exact eq_false (by omega)
  have G1 : (n32 4 ≤ n32 1) = False := by rw [n32_le (by omega) (by omega)]; exact eq_false (by omega)
  have G2 : (n32 4 ≤ n32 2) = False := by rw [n32_le (by omega) (by omega)]; exact eq_false (by omega)
  have G3 : (n32 4 ≤ n32 3) = False := by rw [n32_le (by omega) (by omega)]; exact eq_false (by omega)
  have G4 : (n32 4 ≤ n32 4) = True := by rw [n32_le (by omega) (by omega)]; exact eq_true (Nat.le_refl 4)
  have EV : f_X1_init σ q = some s5 := by
    simp (disch := omega) only [f_X1_init, ↓zl_eq, ↓zb_eq, ↓zb2_eq, ↓zc_some, ↓zc_none, ↓zb_pre, ↓zb2_pre, ↓zc_pre, ↓zex_eq, ↓reduceIte, Option.isSome_some, Option.isSome_none, Option.getD_some, n32_lit, n32_toNat, n32_ix, ofN_n32, hn, d1, P1, o1, r1, a1, l1, G0, n1', E2, b2, c2, O2, P2, o2, rr2, a2, l2, G1, n2', E3, b3, c3, O3, P3, o3, rr3, a3, l3, G2, n3', E4, b4, c4, O4, P4, o4, rr4, a4, l4, G3, n4', E5, b5, c5, O5, P5, o5, rr5, a5, l5, G4]
  have K3 : zEq (q + 2) (q + 21) s2 s3 := zU_eq U3 (by omega) (by omega)
  have K4 : zEq (q + 2) (q + 40) s3 s4 := zU_eq U4 (by omega) (by omega)
  have K5 : zEq (q + 2) (q + 59) s4 s5 := zU_eq U5 (by omega) (by omega)
  have X2 : zLn s5 (q + 2) s_g0 := zLn_reg (zEq_t K3 (zEq_t (zEq_s K4 (by omega) (by omega)) (zEq_s K5 (by omega) (by omega)))) L2
  have X3 : zLn s5 (q + 21) s_g0 := zLn_reg (zEq_t (zEq_s K4 (by omega) (by omega)) (zEq_s K5 (by omega) (by omega))) L3
  have X4 : zLn s5 (q + 40) s_g0 := zLn_reg (zEq_s K5 (by omega) (by omega)) L4
  have X : ∀ i, i < 4 → zLn s5 (q + 2 + 19 * i) s_g0 ∧ z_R s5 (q + 1) i = some (q + 2 + 19 * i) := by
    intro i hi
    rcases (show i = 0 ∨ i = 1 ∨ i = 2 ∨ i = 3 by omega) with rfl | rfl | rfl | rfl
    · exact ⟨X2, by rw [U5.2.2.2.2.2.1 _ _ (by omega) (by omega), U4.2.2.2.2.2.1 _ _ (by omega) (by omega), U3.2.2.2.2.2.1 _ _ (by omega) (by omega)]; exact r2⟩
    · exact ⟨X3, by rw [U5.2.2.2.2.2.1 _ _ (by omega) (by omega), U4.2.2.2.2.2.1 _ _ (by omega) (by omega)]; exact r3⟩
    · exact ⟨X4, by rw [U5.2.2.2.2.2.1 _ _ (by omega) (by omega)]; exact r4⟩
    · exact ⟨L5, r5⟩
  refine ⟨s5, EV, zU_of (fun x h => ?_) (fun x h => ?_) (fun x h => ?_) (fun x i h hd => ?_), n5', o5, ⟨o5, rr5, a5, l5, fun i hi => ⟨(X i hi).2, (zLn_bl (X i hi).1).1.1⟩⟩, ?_, by omega, fun i hi => by omega, fun i hi => ⟨zLn_bl (X i hi).1, ?_⟩, fun i j hi hj hd => ?_⟩
  · rw [U5.2.2.2.2.2.2 _ (by omega), U4.2.2.2.2.2.2 _ (by omega), U3.2.2.2.2.2.2 _ (by omega), U2.2.2.2.2.2.2 _ (by omega), U1.2.2.2.2.2.2 _ (by omega)]
  · rw [U5.2.2.2.1 _ (by omega), U4.2.2.2.1 _ (by omega), U3.2.2.2.1 _ (by omega), U2.2.2.2.1 _ (by omega), U1.2.2.2.1 _ (by omega)]
  · rw [U5.2.2.2.2.1 _ (by omega), U4.2.2.2.2.1 _ (by omega), U3.2.2.2.2.1 _ (by omega), U2.2.2.2.2.1 _ (by omega), U1.2.2.2.2.1 _ (by omega)]
  · rw [U5.2.2.2.2.2.1 _ _ (by omega) (by omega), U4.2.2.2.2.2.1 _ _ (by omega) (by omega), U3.2.2.2.2.2.1 _ _ (by omega) (by omega), U2.2.2.2.2.2.1 _ _ (by omega) (by omega), U1.2.2.2.2.2.1 _ _ (by omega) (by omega)]
  · rw [U5.2.2.2.1 _ (by omega), U4.2.2.2.1 _ (by omega), U3.2.2.2.1 _ (by omega), U2.2.2.2.1 _ (by omega), U1.2.2.2.1 _ (by omega)]; exact hI
  · show q + 2 ≤ q + 2 + 19 * i; omega
  · show q + 2 + 19 * i + 19 ≤ q + 2 + 19 * j ∨ q + 2 + 19 * j + 19 ≤ q + 2 + 19 * i; omega
end NEW
