/-! THE LAW'S RUN -/
theorem s_I_g0 : s_I s_g0 1740000 0 := by
  have n5 := s_g0_n (j := 5) (by decide)
  have h5 := s_g0_hi (j := 5) (by decide)
  have g3 : s_g0 3 = n32 0 := rfl
  have n3 : s_nat s_g0 3 = 0 := s_nat_n32 g3 (by omega)
  have n9 := s_g0_n (j := 9) (by decide)
  refine ⟨⟨⟨by omega, by rw [n5]; exact h5, ⟨0, by omega, s_g0_hi (by decide)⟩, ⟨3, by omega, by omega, rfl⟩, ⟨by rw [n3]; exact g3, fun m hm => by omega⟩, by omega, fun x hx h1 => ?_, 0, by omega, s_g0_hi (by decide), s_g0_hi (by decide)⟩, ⟨4, by omega, rfl⟩, Or.inl rfl, by omega, by omega⟩, Or.inl rfl, ?_, fun m hm => by omega⟩
  · rw [s_g0_hi (by omega)] at h1
    exact absurd h1 nn01
  · unfold s_ds
    rw [n5]; exact s_g0_hi (by decide)
section LAW
variable {σ : zSt} {b k tl : Nat} {g : zG} {gs : Nat → zG} {tx : Nat → Int32} {B V : Nat} {xs : Nat → Int32} {L : Nat} {l4 : Int32}
/-- a step of the law -/
theorem L_all (h : zW σ b g k gs tl tx B V) (hB : B = 1740000) (hV : V ≤ 1000000) (i1 : z_ix (l4 + (1 : Int32)) L = true) (i2 : z_ix (l4 + (2 : Int32)) L = true) (i3 : z_ix (l4 + (3 : Int32)) L = true) (q1 : z_lim l4 = true) (q2 : ¬ (Int32.ofNat L) - (4 : Int32) < l4) (q3 : z_ix l4 L = true) : zE b B V l4 (b_L_law_23 xs L b (b + 118) (b + 123) σ l4) := by
  unfold b_L_law_23
  rw [if_pos q1, if_neg q2, if_pos q3]
  generalize xs l4.toNatClampNeg &&& (31 : Int32) = x
  by_cases c0 : x = (0 : Int32)
  · rw [if_pos c0]; exact L_160 h hB hV i1
  rw [if_neg c0]
  by_cases c1 : x = (1 : Int32)
  · rw [if_pos c1]; exact L_216 h hB hV i1 i2
  rw [if_neg c1]
  by_cases c2 : x = (2 : Int32)
  · rw [if_pos c2]; exact L_307 h hB hV i1 i2 i3
  rw [if_neg c2]
  by_cases c3 : x = (3 : Int32)
  · rw [if_pos c3]; exact L_387 h hB hV i1 i2 i3
  rw [if_neg c3]
  by_cases c4 : x = (4 : Int32)
  · rw [if_pos c4]; exact L_467 h hB hV i1 i2
  rw [if_neg c4]
  by_cases c5 : x = (5 : Int32)
  · rw [if_pos c5]; exact L_535 h hB hV i1
  rw [if_neg c5]
  by_cases c6 : x = (6 : Int32)
  · rw [if_pos c6]; exact L_591 h
  rw [if_neg c6]
  by_cases c7 : x = (7 : Int32)
  · rw [if_pos c7]; exact L_604 h hB hV i1
  rw [if_neg c7]
  by_cases c8 : x = (8 : Int32)
  · rw [if_pos c8]; exact L_660 h hB hV i1 i2
  rw [if_neg c8]
  by_cases c9 : x = (9 : Int32)
  · rw [if_pos c9]; exact L_728 h hB hV i1
  rw [if_neg c9]
  by_cases c10 : x = (10 : Int32)
  · rw [if_pos c10]; exact L_784 h hB hV i1 i2
  rw [if_neg c10]
  by_cases c11 : x = (11 : Int32)
  · rw [if_pos c11]; exact L_852 h hB hV i1 i2
  rw [if_neg c11]
  by_cases c12 : x = (12 : Int32)
  · rw [if_pos c12]; exact L_920 h hB hV i1
  rw [if_neg c12]
  by_cases c13 : x = (13 : Int32)
  · rw [if_pos c13]; exact L_976 h hB hV i1
  rw [if_neg c13]
  by_cases c14 : x = (14 : Int32)
  · rw [if_pos c14]; exact L_1039 h
  rw [if_neg c14]
  by_cases c15 : x = (15 : Int32)
  · rw [if_pos c15]; exact L_1052 h hB hV i1 i2
  rw [if_neg c15]
  by_cases c16 : x = (16 : Int32)
  · rw [if_pos c16]; exact L_1120 h
  rw [if_neg c16]
  by_cases c17 : x = (17 : Int32)
  · rw [if_pos c17]; exact L_1133 h i1
  rw [if_neg c17]
  by_cases c18 : x = (18 : Int32)
  · rw [if_pos c18]; exact L_1202 h
  rw [if_neg c18]
  by_cases c19 : x = (19 : Int32)
  · rw [if_pos c19]; exact L_1243 h hB hV i1
  rw [if_neg c19]
  by_cases c20 : x = (20 : Int32)
  · rw [if_pos c20]; exact L_1299 h hB hV
  rw [if_neg c20]
  by_cases c21 : x = (21 : Int32)
  · rw [if_pos c21]; exact L_1343 h hB hV i1
  rw [if_neg c21]
  by_cases c22 : x = (22 : Int32)
  · rw [if_pos c22]; exact L_1399 h hB hV i1
  rw [if_neg c22]
  by_cases c23 : x = (23 : Int32)
  · rw [if_pos c23]; exact L_1455 h
  rw [if_neg c23]
  by_cases c24 : x = (24 : Int32)
  · rw [if_pos c24]; exact L_1468 h
  rw [if_neg c24]
  by_cases c25 : x = (25 : Int32)
  · rw [if_pos c25]; exact L_1481 h hB hV
  rw [if_neg c25]
  by_cases c26 : x = (26 : Int32)
  · rw [if_pos c26]; exact L_1525 h
  rw [if_neg c26]
  exact ⟨σ, g, k, gs, tl, tx, rfl, h.1, h.2.1, s_I_w h.2.2.1 (Nat.le_refl _) (by omega), fun i hi => s_I_w (h.2.2.2.1 i hi) (Nat.le_refl _) (by omega), h.2.2.2.2.1, h.2.2.2.2.2.1, h.2.2.2.2.2.2.1, h.2.2.2.2.2.2.2⟩
theorem L_sub {n : Nat} (h : n ≤ 2048) {m : Nat} (hm : m ≤ 2048) : ((Int32.ofNat n) - (4 : Int32) < n32 m) ↔ (n < m + 4) := by
  have e : (Int32.ofNat n - (4 : Int32)).toInt = (n : Int) - 4 := by
    have e1 : (Int32.ofNat n).toInt = n := n32_toInt (by omega)
    have e2 : (4 : Int32).toInt = 4 := rfl
    rw [Int32.toInt_sub, e1, e2]
    apply Int.bmod_eq_of_le <;> omega
  rw [Int32.lt_iff_toInt_lt, e, n32_toInt (by omega)]
  omega
/-- the law's run -/
theorem L_run (hL : L ≤ 2048) : ∀ (d i : Nat) (σ : zSt) (V : Nat) (g : zG) (k : Nat) (gs : Nat → zG) (tl : Nat) (tx : Nat → Int32), zW σ b g k gs tl tx 1740000 V → 4 * i ≤ L → L < 4 * i + 4 * (d + 1) → V + 300 * d ≤ 1000000 → ∀ N, d < N → zloop (fun (t : zSt × Int32) => b_L_law_23 xs L b (b + 118) (b + 123) t.1 t.2) N (σ, n32 (4 * i)) = some (1 : Int32) := by
  intro d
  induction d with
  | zero =>
    intro i σ V g k gs tl tx h hi hd hV N hN
    obtain ⟨N, rfl⟩ : ∃ N', N = N' + 1 := ⟨N - 1, by omega⟩
    refine zloop_r ?_
    show b_L_law_23 xs L b (b + 118) (b + 123) σ (n32 (4 * i)) = _
    have q1 : z_lim (n32 (4 * i)) = true := by
      unfold z_lim
      rw [n32_toNat (by omega)]
      exact decide_eq_true (by omega)
    have q2 : (Int32.ofNat L) - (4 : Int32) < n32 (4 * i) := (L_sub hL (by omega)).2 (by omega)
    unfold b_L_law_23
    rw [if_pos q1, if_pos q2, zex_eq]
  | succ d ih =>
    intro i σ V g k gs tl tx h hi hd hV N hN
    obtain ⟨N, rfl⟩ : ∃ N', N = N' + 1 := ⟨N - 1, by omega⟩
    have q1 : z_lim (n32 (4 * i)) = true := by
      unfold z_lim
      rw [n32_toNat (by omega)]
      exact decide_eq_true (by omega)
    by_cases hc : L < 4 * i + 4
    · refine zloop_r ?_
      show b_L_law_23 xs L b (b + 118) (b + 123) σ (n32 (4 * i)) = _
      have q2 : (Int32.ofNat L) - (4 : Int32) < n32 (4 * i) := (L_sub hL (by omega)).2 hc
      unfold b_L_law_23
      rw [if_pos q1, if_pos q2, zex_eq]
    · have q2 : ¬ (Int32.ofNat L) - (4 : Int32) < n32 (4 * i) := fun hx => hc ((L_sub hL (by omega)).1 hx)
      have ad : ∀ j : Nat, n32 (4 * i) + n32 j = n32 (4 * i + j) := fun j => n32_add _ _
      have i1 : z_ix (n32 (4 * i) + (1 : Int32)) L = true := by
        show z_ix (n32 (4 * i) + n32 1) L = true
        rw [ad]; exact n32_ix (by omega) (by omega)
      have i2 : z_ix (n32 (4 * i) + (2 : Int32)) L = true := by
        show z_ix (n32 (4 * i) + n32 2) L = true
        rw [ad]; exact n32_ix (by omega) (by omega)
      have i3 : z_ix (n32 (4 * i) + (3 : Int32)) L = true := by
        show z_ix (n32 (4 * i) + n32 3) L = true
        rw [ad]; exact n32_ix (by omega) (by omega)
      obtain ⟨σ2, g', k', gs', tl', tx', E, W⟩ := L_all (xs := xs) h rfl (by omega) i1 i2 i3 q1 q2 (n32_ix (by omega) (by omega))
      have e4 : n32 (4 * i) + (4 : Int32) = n32 (4 * (i + 1)) := ad 4
      rw [e4] at E
      refine (zloop_l (t := (σ2, n32 (4 * (i + 1)))) E).trans (ih (i + 1) σ2 (V + 300) g' k' gs' tl' tx' W (by omega) (by omega) (by omega) N (by omega))
/-- THE LAW: from any cells, on any script of at most 2048 numbers -/
theorem L_law (xs : Nat → Int32) {L : Nat} (hL : L ≤ 2048) (σ : zSt) : f_L_law xs L σ = some (1 : Int32) := by
  generalize hb : z_nx σ = b
  have o8 : z_ob (z_nw σ (.inl 8)) b 8 = true := by rw [← hb]; exact z_ob_nwn 8
  have I8 : z_I (z_nw σ (.inl 8)) b 4 = 0 := by rw [z_I_nw, if_pos hb.symm]
  obtain ⟨s4, E9, n4, C4⟩ := i_bus (σ := z_nw σ (.inl 8)) (b := b) o8 (by rw [z_nx_nw, hb]) I8 (fun _ _ => 0) (fun _ => 0)
  have o9 : z_ob (z_nw s4 (.inl 9)) (b + 118) 9 = true := by rw [← n4]; exact z_ob_nwn 9
  obtain ⟨s8, E10, n8, F8, M8⟩ := i_mod (σ := z_nw s4 (.inl 9)) (b := b) o9 (by rw [z_nx_nw, n4]) (fun j => by rw [z_I_nw, if_pos n4.symm]) (fun _ _ => 0) (fun _ => 0)
  have nwE : ∀ (s : zSt) (t : zSh) (lo hi : Nat), hi ≤ z_nx s → zEq lo hi s (z_nw s t) := fun s t lo hi h q h1 h2 =>
    ⟨by rw [z_sh_nw, if_neg (by omega)], I_nwo _ (by omega), J_nwo _ (by omega), funext fun i => R_nwo _ (by omega) i⟩
  have C9 : zC (z_nw s8 (.inr (2, 1))) b s_g0 0 (fun _ _ => 0) 0 (fun _ => 0) := zC_reg (zEq_t (nwE s4 (.inl 9) _ _ (by omega)) (zEq_t F8 (nwE s8 (.inr (2, 1)) _ _ (by omega)))) C4
  have M9 : zM (z_nw s8 (.inr (2, 1))) b s_g0 0 (fun _ _ => 0) 0 (fun _ => 0) := zM_reg (nwE s8 (.inr (2, 1)) _ _ (by omega)) M8
  have S9 : z_sh (z_nw s8 (.inr (2, 1))) (b + 123) = some (.inr (2, 1)) := by rw [z_sh_nw, if_pos n8.symm]
  have O9 : zOut (z_nw s8 (.inr (2, 1))) b := ⟨sh_ar_of S9, sh_ln_of S9, by rw [z_nx_nw, n8]; omega⟩
  have W : zW (z_nw s8 (.inr (2, 1))) b s_g0 0 (fun _ _ => 0) 0 (fun _ => 0) 1740000 0 := ⟨C9, M9, s_I_g0, fun i hi => by omega, by omega, by omega, fun j hj => by omega, O9⟩
  have R := L_run (b := b) (xs := xs) hL 512 0 _ _ _ _ _ _ _ W (by omega) (by omega) (by omega) zN (by unfold zN; omega)
  unfold f_L_law
  rw [zl_eq, hb, E9, zb_eq, zl_eq, n4, E10, zb_eq, zl_eq, n8]
  exact R
end LAW
