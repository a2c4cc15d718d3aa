/-! TWO OBJECTS SIDE BY SIDE -/
theorem s_I_g0 : s_I s_g0 1740000 0 := by
  have n5 := s_g0_n (j := 5) (by decide)
  have h5 := s_g0_hi (j := 5) (by decide)
  have g3 : s_g0 3 = n32 0 := rfl
  have n3 : s_nat s_g0 3 = 0 := s_nat_n32 g3 (by omega)
  have n9 := s_g0_n (j := 9) (by decide)
  refine ⟨⟨⟨by omega, by rw [n5]; exact h5, ⟨0, by omega, s_g0_hi (by decide)⟩, ⟨3, by omega, by omega, rfl⟩, ⟨by rw [n3]; exact g3, fun m hm => by omega⟩, by omega, fun x hx h1 => ?_, 0, by omega, s_g0_hi (by decide), s_g0_hi (by decide)⟩, ⟨4, by omega, rfl⟩, Or.inl rfl, by omega, by omega⟩, Or.inl rfl, ?_, fun m hm => by omega⟩
  · rw [s_g0_hi (by omega)] at h1
    exact absurd h1 nn01
  · unfold s_ds
    rw [n5]; exact s_g0_hi (by decide)
theorem k_S_g0 : ∀ k, k_S s_g0 k = 0
  | 0 => rfl
  | k + 1 => by
    unfold k_S
    rw [k_S_g0 k, s_g0_hi (by omega), if_neg nn01]
theorem k_K_g0 : k_K s_g0 ∧ k_P s_g0 = 1 := by
  have e : ∀ j, 5 ≤ j → s_nat s_g0 j = 0 := fun j h => s_g0_n h
  have n3 : s_nat s_g0 3 = 0 := s_nat_n32 (k := 0) rfl (by omega)
  refine ⟨⟨fun x hx h1 => ?_, Or.inl rfl, ?_, ⟨⟨0, s_g0_hi (by omega), Nat.zero_le _, Nat.zero_le _⟩, by rw [e 10 (by omega)]; omega, by rw [e 10 (by omega)]; exact s_g0_hi (by omega), 0, s_g0_hi (by omega), Nat.zero_le _, by rw [n3]; exact Nat.zero_le _⟩, ⟨fun i hi => ?_, fun i hi => ?_⟩, fun _ => s_g0_hi (by omega)⟩, ?_⟩
  · rw [s_g0_hi (by omega)] at h1
    exact absurd h1 nn01
  · show k_S s_g0 32 = _
    rw [k_S_g0, e 9 (by omega)]
  · rw [e 7 (by omega)] at hi; omega
  · rw [e 7 (by omega)] at hi; omega
  · unfold k_P
    rw [e 12 (by omega), if_pos (show s_g0 4 = nn from rfl)]
def w_tx : Nat → Int32 := fun _ => 0
def w_Z (σ : zSt) (b : Nat) (g : zG) : Prop := ∃ k gs, zC σ b g k gs 0 w_tx
/-- two objects whose lines are alike -/
def w_Q (σ : zSt) (b : Nat) (g g' : zG) (V P : Nat) : Prop := w_Z σ b g ∧ w_Z σ (b + 118) g' ∧ s_I g 2000000 V ∧ s_I g' 2000000 V ∧ s_alk g g' ∧ (∃ z, z ≤ 10 ∧ g' 6 = n32 z ∧ g 6 = n32 (2 * z)) ∧ k_K g ∧ k_P g ≤ P
section PAIR
variable {σ : zSt} {b k : Nat} {g g' g2 : zG} {gs : Nat → zG} {out : Option (Int32 × zSt)} {v : Int32}
theorem w_ob (h : w_Z σ b g) : z_ob σ b 8 = true := by
  obtain ⟨k, gs, C⟩ := h
  exact C.1.1
theorem w_l (h : w_Z σ (b + 118) g') (K : zOk σ b out v g2 k gs 0 w_tx) : ∃ σ1, out = some (v, σ1) ∧ w_Z σ1 b g2 ∧ w_Z σ1 (b + 118) g' := by
  obtain ⟨σ1, e, C, O⟩ := K
  obtain ⟨k', gs', C'⟩ := h
  exact ⟨σ1, e, ⟨_, _, C⟩, ⟨_, _, zC_reg (zEq_of O (Or.inr (Nat.le_refl _))) C'⟩⟩
theorem w_r (h : w_Z σ b g) (K : zOk σ (b + 118) out v g2 k gs 0 w_tx) : ∃ σ1, out = some (v, σ1) ∧ w_Z σ1 b g ∧ w_Z σ1 (b + 118) g2 := by
  obtain ⟨σ1, e, C, O⟩ := K
  obtain ⟨k', gs', C'⟩ := h
  exact ⟨σ1, e, ⟨_, _, zC_reg (zEq_of O (Or.inl (Nat.le_refl _))) C'⟩, ⟨_, _, C⟩⟩
theorem w_Q_w {V V' P P' : Nat} (h : w_Q σ b g g' V P) (hV : V ≤ V') (hP : P ≤ P') : w_Q σ b g g' V' P' := by
  obtain ⟨a, a', i, i', al, z, K, p⟩ := h
  exact ⟨a, a', s_I_w i (Nat.le_refl _) hV, s_I_w i' (Nat.le_refl _) hV, al, z, K, Nat.le_trans p hP⟩
end PAIR
/-! the stations and the times -/
section ADDS
variable {σ : zSt} {b : Nat} {g g' : zG} {xs : Nat → Int32} {L : Nat}
theorem w_clr0 : ∀ n, n < 32 → (((0 : Int32) >>> (n32 n &&& 31)) &&& (1 : Int32)) = 0 := by decide +kernel
set_option maxHeartbeats 8000000 in
theorem w_adds27 (hL : L < 2147483648) {N : Nat} (hN1 : 1 ≤ N) (hN : N ≤ 32) (h0 : w_Q σ b s_g0 s_g0 0 1) : ∃ r, f_L_adds_27 xs L b (b + 118) (n32 N) σ (0 : Int32) (1 : Int32) (0 : Int32) = some r ∧ (r.1 = 1 ∧ ∃ g g', w_Q r.2 b g g' 0 1 ∧ 1 ≤ s_ns g ∧ g 5 = n32 0) := by
  unfold f_L_adds_27
  refine zloop_inv (Inv := fun k (t : zSt × Int32 × Int32 × Int32) => t.2.2.2 = n32 k ∧ t.2.2.1 = 1 ∧ ∃ g g', w_Q t.1 b g g' 0 1 ∧ (g 0 = n32 60 ∧ g 5 = n32 0) ∧ s_ns g ≤ k ∧ (1 ≤ k → 1 ≤ s_ns g) ∧ (s_ns g = 0 → t.2.1 = 0) ∧ ∀ y, y < 32 → w_b t.2.1 y = false → ¬ g (18 + 7 * y + 0) = n32 1) (Post := fun (r : Int32 × zSt) => r.1 = 1 ∧ ∃ g g', w_Q r.2 b g g' 0 1 ∧ 1 ≤ s_ns g ∧ g 5 = n32 0) 8 (fun k t hk hi => ?_) (by unfold zN; omega) ?_
  · obtain ⟨s, u, ok, i⟩ := t
    obtain ⟨hi1, hi2, g, g', Q, ⟨h60, h50⟩, hns, hn1, hu0, hu⟩ := hi
    obtain rfl : i = n32 k := hi1
    obtain rfl : ok = 1 := hi2
    replace Q : w_Q s b g g' 0 1 := Q
    replace hu0 : s_ns g = 0 → u = 0 := hu0
    replace hu : ∀ y, y < 32 → w_b u y = false → ¬ g (18 + 7 * y + 0) = n32 1 := hu
    show (∃ r, b_L_adds_27 xs L b (b + 118) (n32 N) s u 1 (n32 k) = some (.inr r) ∧ _) ∨ (k < 8 ∧ ∃ t, b_L_adds_27 xs L b (b + 118) (n32 N) s u 1 (n32 k) = some (.inl t) ∧ _)
    obtain ⟨Z, Z', I, I', A, ⟨z, hz, z6', z6⟩, K, hP⟩ := Q
    have n10 : ¬ (1 : Int32) = 0 := by decide
    by_cases k8 : k = 8
    · subst k8
      left
      have UP : ∀ σ v n, 0 < n → n < 2147483648 → f_L_up σ v (n32 n) = some (n32 (w_up v n)) := fun σ v n a b => w_L_up σ v a b
      have U3 : ∀ σ v, f_L_up σ v (300 : Int32) = some (n32 (w_up v 300)) := fun σ v => UP σ v 300 (by omega) (by omega)
      have U2 : ∀ σ v, f_L_up σ v (20 : Int32) = some (n32 (w_up v 20)) := fun σ v => UP σ v 20 (by omega) (by omega)
      have U6 : ∀ σ v, f_L_up σ v (6 : Int32) = some (n32 (w_up v 6)) := fun σ v => UP σ v 6 (by omega) (by omega)
      have C9 : f_L_cell xs L s (9 : Int32) = some (w_cell xs L 9) := w_L_cell xs hL s (k := 9) (by omega)
      have A1 : ∀ m, (1 : Int32) + n32 m = n32 (1 + m) := fun m => n32_add 1 m
      generalize w_cell xs L 9 = c at C9
      obtain ⟨kk, gs, C⟩ := Z
      have l3 := w_up_lt c (n := 300) (by omega)
      have l2 := w_up_lt (c >>> ((9 : Int32) &&& 31)) (n := 20) (by omega)
      have l6 := w_up_lt (c >>> ((14 : Int32) &&& 31)) (n := 6) (by omega)
      generalize hx : w_up c 300 = x at l3
      generalize hy : w_up (c >>> ((9 : Int32) &&& 31)) 20 = y at l2
      generalize hw : w_up (c >>> ((14 : Int32) &&& 31)) 6 = w at l6
      obtain ⟨s1, E1, Y, Y'⟩ := w_l Z' (o_setTimes C I (x := 1 + x) (y := 1 + y) (z := 1 + w) (by omega) (by omega) (by omega) (by omega) (by omega) (by omega))
      have Y1' := Y'
      obtain ⟨kk', gs', C'⟩ := Y'
      obtain ⟨s2, E2, W, W'⟩ := w_r Y (o_setTimes C' I' (x := 1 + x) (y := 1 + y) (z := 1 + w) (by omega) (by omega) (by omega) (by omega) (by omega) (by omega))
      have o1 := w_ob ⟨_, _, C⟩
      have o2 := w_ob Y1'
      have t1 : (8 : Int32) ≤ n32 8 := by decide
      have h60' : g' 0 = n32 60 := by rw [alk_at A (by omega) (by omega)]; exact h60
      have e60 : n32 60 = (60 : Int32) := rfl
      rw [h60, e60] at E1
      rw [h60', e60] at E2
      have b1 : z_bl (1 : Int32) = true := rfl
      refine ⟨((1 : Int32), s2), ?_, rfl, gu (gu (gu g 0 (n32 (1 + x))) 1 (n32 (1 + y))) 2 (n32 (1 + w)), gu (gu (gu g' 0 (n32 (1 + x))) 1 (n32 (1 + y))) 2 (n32 (1 + w)), ⟨W, W', ?_, ?_, alk_top A _ _ _, ⟨z, hz, ?_, ?_⟩, (k_top K _ _ _).1, by rw [(k_top K _ _ _).2]; exact hP⟩, ?_, by rw [gu_ne _ _ (by omega), gu_ne _ _ (by omega), gu_ne _ _ (by omega)]; exact h50⟩
      · unfold b_L_adds_27
        simp only [↓zl_eq, ↓zb_eq, ↓zb2_eq, ↓zc_some, ↓zc_none, ↓zb_pre, ↓zb2_pre, ↓zc_pre, ↓zex_eq, ↓reduceIte, Option.isSome_some, Option.isSome_none, Option.getD_some, t1, C9, n10, U3, U2, U6, hx, hy, hw, o1, o2, A1, E1, E2, f_L_adds_204, b1]
      · exact s_I_top I (fun j hj => by rw [gu_ne _ _ (by omega), gu_ne _ _ (by omega), gu_ne _ _ (by omega)]) ⟨1 + y, by omega, by rw [gu_ne _ _ (by omega), gu_same]⟩ ⟨1 + w, by omega, by omega, gu_same _ _ _⟩
      · exact s_I_top I' (fun j hj => by rw [gu_ne _ _ (by omega), gu_ne _ _ (by omega), gu_ne _ _ (by omega)]) ⟨1 + y, by omega, by rw [gu_ne _ _ (by omega), gu_same]⟩ ⟨1 + w, by omega, by omega, gu_same _ _ _⟩
      · rw [gu_ne _ _ (by omega), gu_ne _ _ (by omega), gu_ne _ _ (by omega)]; exact z6'
      · rw [gu_ne _ _ (by omega), gu_ne _ _ (by omega), gu_ne _ _ (by omega)]; exact z6
      · rw [s_ns_congr (g := g) (fun x hx => by rw [gu_ne _ _ (by omega), gu_ne _ _ (by omega), gu_ne _ _ (by omega)])]
        exact hn1 (by omega)
    · right
      refine ⟨by omega, ?_⟩
      have A1 : (1 : Int32) + n32 k = n32 (1 + k) := n32_add 1 k
      have A2 : n32 k + (1 : Int32) = n32 (k + 1) := n32_add k 1
      have t1 : ((8 : Int32) ≤ n32 k) = False := by
        have := n32_le (a := 8) (b := k) (by omega) (by omega)
        exact eq_false (fun h => by have := this.1 h; omega)
      have CC : f_L_cell xs L s (n32 (1 + k)) = some (w_cell xs L (1 + k)) := w_L_cell xs hL s (by omega)
      generalize w_cell xs L (1 + k) = c at CC
      have CU := w_L_up s c (n := N) (by omega) (by omega)
      have ha := w_up_lt c (n := N) (by omega)
      generalize w_up c N = a at CU ha
      by_cases hc : ((u >>> (n32 a &&& 31)) &&& (1 : Int32)) = 0
      · have nz := hu a (by omega) (w_b_clear (by omega) hc)
        have nz' : ¬ g' (18 + 7 * a + 0) = n32 1 := by rw [alk_at A (by omega) (by omega)]; exact nz
        have ens : s_ns g' = s_ns g := s_ns_congr (fun x hx => alk_at A (by omega) (by omega))
        have o1 := w_ob Z
        obtain ⟨kk, gs, C⟩ := Z
        obtain ⟨s1, E1, Y, Y'⟩ := w_l Z' (o_addStation C I (y := a) (by omega) nz (by omega))
        have o2 := w_ob Y'
        obtain ⟨kk', gs', C'⟩ := Y'
        obtain ⟨s2, E2, W, W'⟩ := w_r Y (o_addStation C' I' (y := a) (by omega) nz' (by omega))
        rw [ens] at E2
        refine ⟨(s2, u ||| ((1 : Int32) <<< (n32 a &&& 31)), (1 : Int32), n32 (k + 1)), ?_, rfl, rfl, s_adds g a, s_adds g' a, ⟨W, W', s_I_adds I (by omega) nz, s_I_adds I' (by omega) nz', alk_adds A (by omega), ⟨z, hz, ?_, ?_⟩, (k_adds K (by omega) nz).1, by rw [(k_adds K (by omega) nz).2]; exact hP⟩, ?_, ?_, ?_, ?_, ?_⟩
        · unfold b_L_adds_27
          simp only [↓zl_eq, ↓zb_eq, ↓zb2_eq, ↓zc_some, ↓zc_none, ↓zb_pre, ↓zb2_pre, ↓zc_pre, ↓zex_eq, ↓reduceIte, Option.isSome_some, Option.isSome_none, Option.getD_some, t1, A1, CC, CU, hc, n10, o1, o2, E1, E2, f_L_adds_92, f_L_adds_94, A2]
        · rw [s_adds_ne _ _ (by omega)]; exact z6'
        · rw [s_adds_ne _ _ (by omega)]; exact z6
        · exact ⟨by rw [s_adds_ne _ _ (by omega)]; exact h60, by rw [s_adds_ne _ _ (by omega)]; exact h50⟩
        · rw [s_ns_adds (by omega) nz]; omega
        · rw [s_ns_adds (by omega) nz]; omega
        · rw [s_ns_adds (by omega) nz]; omega
        · intro y hy hb
          obtain ⟨b1, b2⟩ := w_b_set (by omega) hb
          rw [s_adds_ne _ _ (by omega)]
          exact hu y hy b1
      · refine ⟨(s, u, (1 : Int32), n32 (k + 1)), ?_, rfl, rfl, g, g', ⟨Z, Z', I, I', A, ⟨z, hz, z6', z6⟩, K, hP⟩, ⟨h60, h50⟩, by omega, ?_, hu0, hu⟩
        · unfold b_L_adds_27
          simp only [↓zl_eq, ↓zb_eq, ↓zb2_eq, ↓zc_some, ↓zc_none, ↓zb_pre, ↓zb2_pre, ↓zc_pre, ↓zex_eq, ↓reduceIte, Option.isSome_some, Option.isSome_none, Option.getD_some, t1, A1, CC, CU, hc, f_L_adds_94, A2]
        · intro _
          rcases Nat.eq_zero_or_pos (s_ns g) with e | e
          · exfalso
            rw [hu0 e] at hc
            exact hc (w_clr0 a (by omega))
          · exact e
  · have ns0 : s_ns s_g0 = 0 := by
      unfold s_ns
      exact s_cnt_0 32 (fun m hm => by unfold s_is; rw [s_g0_hi (by omega)]; exact decide_eq_false nn01)
    refine ⟨rfl, rfl, s_g0, s_g0, h0, ⟨rfl, rfl⟩, by omega, fun h => by omega, fun _ => rfl, fun y hy _ => ?_⟩
    rw [s_g0_hi (by omega)]
    exact nn01
theorem w_adds (hL : L < 2147483648) (h0 : w_Q σ b s_g0 s_g0 0 1) : ∃ σ' g g', f_L_adds xs L σ b (b + 118) = some (1, σ') ∧ w_Q σ' b g g' 0 1 ∧ w_N g := by
  have C0 : f_L_cell xs L σ (0 : Int32) = some (w_cell xs L 0) := w_L_cell xs hL σ (k := 0) (by omega)
  unfold f_L_adds f_L_adds_17
  rw [C0, zb_eq]
  by_cases hc : (w_cell xs L 0 &&& (1 : Int32)) = 0
  · rw [if_pos hc]
    obtain ⟨⟨v, s⟩, e, h1, g, g', Q, n, n5⟩ := w_adds27 (xs := xs) hL (N := 32) (by omega) (by omega) h0
    obtain rfl : v = 1 := h1
    exact ⟨s, g, g', e, Q, n, fun m hm => by rw [s_nat_n32 n5 (by omega)] at hm; omega⟩
  · rw [if_neg hc]
    obtain ⟨⟨v, s⟩, e, h1, g, g', Q, n, n5⟩ := w_adds27 (xs := xs) hL (N := 10) (by omega) (by omega) h0
    obtain rfl : v = 1 := h1
    exact ⟨s, g, g', e, Q, n, fun m hm => by rw [s_nat_n32 n5 (by omega)] at hm; omega⟩
end ADDS
