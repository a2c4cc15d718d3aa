/-! a visit -/
theorem zloop_r {S R : Type} {body : S → Option (S ⊕ R)} {N : Nat} {s : S} {r : R} (h : body s = some (.inr r)) : zloop body (N + 1) s = some r := by
  unfold zloop; rw [h]
theorem zloop_l {S R : Type} {body : S → Option (S ⊕ R)} {N : Nat} {s t : S} (h : body s = some (.inl t)) : zloop body (N + 1) s = zloop body N t := by
  conv => lhs; unfold zloop
  rw [h]
/-- what every row of a visit asks of the array -/
def s_ok (g : zG) : Prop := (∃ n, n ≤ 20 ∧ g 6 = n32 n) ∧ (∃ q, q ≤ 100 ∧ g 5 = n32 q)
def s_stop (x t0 al : Int32) (g : zG) (sp : Bool) : Bool := sp || decide (s_next g x nn = nn) || decide (al ≤ g 3 - t0)
def s_sl (x t0 al : Int32) : Nat → zG → Bool → zG
  | 0, g, _ => g
  | k + 1, g, sp => if s_stop x t0 al g sp = true then g else s_sl x t0 al k (s_sends g (s_next g x nn).toNatClampNeg) (s_spoilt g (s_next g x nn).toNatClampNeg)
/-- the loop ends within so many rounds -/
def s_fin (x t0 al : Int32) : Nat → zG → Bool → Prop
  | 0, g, sp => s_stop x t0 al g sp = true
  | k + 1, g, sp => s_stop x t0 al g sp = true ∨ s_fin x t0 al k (s_sends g (s_next g x nn).toNatClampNeg) (s_spoilt g (s_next g x nn).toNatClampNeg)
theorem s_sends_ne (g : zG) (m : Nat) {j : Nat} (h1 : j ≠ 3) (h2 : j ≠ 11) (h3 : j ≠ 10) (h4 : j ≠ 15) (h5 : j ≠ 242 + 5 * m + 4) : s_sends g m j = g j := by
  unfold s_sends s_sent
  split
  · exact s_takes_ne _ _ h1 h2
  · rw [gu_ne _ _ h4, gu_ne _ _ h3, gu_ne _ _ h5, s_takes_ne _ _ h1 h2]
theorem s_ok_sends {g : zG} (h : s_ok g) (m : Nat) : s_ok (s_sends g m) := by
  obtain ⟨⟨n, h1, h2⟩, ⟨q, h3, h4⟩⟩ := h
  exact ⟨⟨n, h1, by rw [s_sends_ne _ _ (by decide) (by decide) (by decide) (by decide) (by omega)]; exact h2⟩, ⟨q, h3, by rw [s_sends_ne _ _ (by decide) (by decide) (by decide) (by decide) (by omega)]; exact h4⟩⟩
theorem s_next_ok {g : zG} (h : s_ok g) (x b : Int32) : s_next g x b = nn ∨ ∃ j, j < 100 ∧ s_next g x b = n32 j := by
  obtain ⟨_, ⟨q, h3, h4⟩⟩ := h
  rcases s_next_rng g x b h4 h3 with h | ⟨j, h5, h6⟩
  · exact Or.inl h
  · exact Or.inr ⟨j, by omega, h6⟩
def s_urg (g : zG) (x : Int32) : Bool := !(decide (s_next g x nn = nn)) && !(decide (g (242 + 5 * (s_next g x nn).toNatClampNeg + 1) < n32 5))
/-- the first one as well, if it is urgent -/
def s_all (x t0 al : Int32) (k : Nat) (g : zG) : zG :=
  if s_urg g x = true then s_sl x t0 al k (s_sends g (s_next g x nn).toNatClampNeg) (s_spoilt g (s_next g x nn).toNatClampNeg) else s_sl x t0 al k g false
def s_allfin (x t0 al : Int32) (k : Nat) (g : zG) : Prop :=
  if s_urg g x = true then s_fin x t0 al k (s_sends g (s_next g x nn).toNatClampNeg) (s_spoilt g (s_next g x nn).toNatClampNeg) else s_fin x t0 al k g false
def s_shift (g : zG) (n : Nat) : zG := fun j => if 782 ≤ j ∧ j < 782 + n then g (j + 4) else g j
def s_put (g : zG) (k : Nat) (t0 h rot sent : Int32) : zG := gu (gu (gu (gu (gu g (782 + 4 * k) t0) (782 + 4 * k + 1) h) (782 + 4 * k + 2) rot) (782 + 4 * k + 3) sent) 7 (n32 (k + 1))
def s_log (g : zG) (k : Nat) (t0 h rot sent : Int32) : zG := if k = 40 then s_put (gu (s_shift g 156) 7 (n32 39)) 39 t0 h rot sent else s_put g k t0 h rot sent
section MODEL
variable {σ : zSt} {M : Nat}
theorem m_sl (x t0 al : Int32) : ∀ (k : Nat) (σ : zSt) (sp : Bool), zMs σ M → s_ok (z_I σ (M + 1)) → s_fin x t0 al k (z_I σ (M + 1)) sp → ∀ N, k < N →
    zloop (fun (t : zSt × Int32) => b_X10_sendsAll_40 M x t0 al t.1 t.2) N (σ, bi sp) = some (z_sA σ (M + 1) (s_sl x t0 al k (z_I σ (M + 1)) sp)) := by
  intro k
  induction k with
  | zero =>
    intro σ sp hM ho hf N hN
    obtain ⟨N, rfl⟩ : ∃ N', N = N' + 1 := ⟨N - 1, by omega⟩
    obtain ⟨⟨n, h1, h2⟩, ⟨q, h3, h4⟩⟩ := ho
    have e : b_X10_sendsAll_40 M x t0 al σ (bi sp) = some (.inr σ) := by
      simp only [s_fin, s_stop, Bool.or_eq_true, decide_eq_true_eq] at hf
      simp (disch := omega) only [b_X10_sendsAll_40, f_X10_sendsAll_77, ↓zl_eq, ↓zb_eq, ↓zb2_eq, ↓zc_some, ↓zc_none, ↓zb_pre, ↓zb2_pre, ↓zc_pre, ↓zex_eq, ↓reduceIte, Option.isSome_some, Option.isSome_none, Option.getD_some, n32_lit, n32_nn, n32_nn2, n32_add, n32_mul, n32_toNat, n32_ix, hM.1, hM.2.1, hM.2.2.1, hM.2.2.2.1, hM.2.2.2.2.1, hM.2.2.2.2.2.1, hM.2.2.2.2.2.2.1, hM.2.2.2.2.2.2.2.1, hM.2.2.2.2.2.2.2.2.1, hM.2.2.2.2.2.2.2.2.2.1, hM.2.2.2.2.2.2.2.2.2.2.1, hM.2.2.2.2.2.2.2.2.2.2.2.1, hM.2.2.2.2.2.2.2.2.2.2.2.2, bi_0n, m_nextOf hM h4 h3 x (Or.inl rfl)]
      cases sp with
      | true => simp only [Bool.true_eq_false, ↓reduceIte]
      | false =>
        simp only [↓reduceIte]
        by_cases hz : s_next (z_I σ (M + 1)) x nn = nn
        · rw [if_pos hz]
        · have hf3 : al ≤ z_I σ (M + 1) 3 - t0 := by
            rcases hf with (hf | hf) | hf
            · cases hf
            · exact absurd hf hz
            · exact hf
          rw [if_neg hz, if_pos hf3]
    refine (zloop_r e).trans ?_
    unfold s_sl
    rw [z_sA_id]
  | succ k ih =>
    intro σ sp hM ho hf N hN
    obtain ⟨N, rfl⟩ : ∃ N', N = N' + 1 := ⟨N - 1, by omega⟩
    have ho2 := ho
    obtain ⟨⟨n, h1, h2⟩, ⟨q, h3, h4⟩⟩ := ho
    by_cases hst : s_stop x t0 al (z_I σ (M + 1)) sp = true
    · have e : b_X10_sendsAll_40 M x t0 al σ (bi sp) = some (.inr σ) := by
        have hf := hst
        simp only [s_stop, Bool.or_eq_true, decide_eq_true_eq] at hf
        simp (disch := omega) only [b_X10_sendsAll_40, f_X10_sendsAll_77, ↓zl_eq, ↓zb_eq, ↓zb2_eq, ↓zc_some, ↓zc_none, ↓zb_pre, ↓zb2_pre, ↓zc_pre, ↓zex_eq, ↓reduceIte, Option.isSome_some, Option.isSome_none, Option.getD_some, n32_lit, n32_nn, n32_nn2, n32_add, n32_mul, n32_toNat, n32_ix, hM.1, hM.2.1, hM.2.2.1, hM.2.2.2.1, hM.2.2.2.2.1, hM.2.2.2.2.2.1, hM.2.2.2.2.2.2.1, hM.2.2.2.2.2.2.2.1, hM.2.2.2.2.2.2.2.2.1, hM.2.2.2.2.2.2.2.2.2.1, hM.2.2.2.2.2.2.2.2.2.2.1, hM.2.2.2.2.2.2.2.2.2.2.2.1, hM.2.2.2.2.2.2.2.2.2.2.2.2, bi_0n, m_nextOf hM h4 h3 x (Or.inl rfl)]
        cases sp with
        | true => simp only [Bool.true_eq_false, ↓reduceIte]
        | false =>
          simp only [↓reduceIte]
          by_cases hz : s_next (z_I σ (M + 1)) x nn = nn
          · rw [if_pos hz]
          · have hf3 : al ≤ z_I σ (M + 1) 3 - t0 := by
              rcases hf with (hf | hf) | hf
              · cases hf
              · exact absurd hf hz
              · exact hf
            rw [if_neg hz, if_pos hf3]
      refine (zloop_r e).trans ?_
      unfold s_sl
      rw [if_pos hst, z_sA_id]
    · have hfin : s_fin x t0 al k (s_sends (z_I σ (M + 1)) (s_next (z_I σ (M + 1)) x nn).toNatClampNeg) (s_spoilt (z_I σ (M + 1)) (s_next (z_I σ (M + 1)) x nn).toNatClampNeg) := by
        rcases hf with hf | hf
        · exact absurd hf hst
        · exact hf
      have hsp : sp = false := by cases sp with
        | false => rfl
        | true => exact absurd (by simp [s_stop]) hst
      subst hsp
      have hnn : s_next (z_I σ (M + 1)) x nn ≠ nn := fun hz => hst (by simp [s_stop, hz])
      have hal : ¬ al ≤ z_I σ (M + 1) 3 - t0 := fun hz => hst (by simp [s_stop, hz])
      rcases s_next_ok ho2 x nn with hj | ⟨j, hj, hje⟩
      · exact absurd hj hnn
      have hjn : (s_next (z_I σ (M + 1)) x nn).toNatClampNeg = j := by rw [hje, n32_toNat (by omega)]
      have e : b_X10_sendsAll_40 M x t0 al σ (bi false) = some (.inl (z_sA σ (M + 1) (s_sends (z_I σ (M + 1)) j), bi (s_spoilt (z_I σ (M + 1)) j))) := by
        simp (disch := omega) only [b_X10_sendsAll_40, f_X10_sendsAll_77, ↓zl_eq, ↓zb_eq, ↓zb2_eq, ↓zc_some, ↓zc_none, ↓zb_pre, ↓zb2_pre, ↓zc_pre, ↓zex_eq, ↓reduceIte, Option.isSome_some, Option.isSome_none, Option.getD_some, n32_lit, n32_nn, n32_nn2, n32_add, n32_mul, n32_toNat, n32_ix, hM.1, hM.2.1, hM.2.2.1, hM.2.2.2.1, hM.2.2.2.2.1, hM.2.2.2.2.2.1, hM.2.2.2.2.2.2.1, hM.2.2.2.2.2.2.2.1, hM.2.2.2.2.2.2.2.2.1, hM.2.2.2.2.2.2.2.2.2.1, hM.2.2.2.2.2.2.2.2.2.2.1, hM.2.2.2.2.2.2.2.2.2.2.2.1, hM.2.2.2.2.2.2.2.2.2.2.2.2, bi_0n, m_nextOf hM h4 h3 x (Or.inl rfl), if_neg hnn, if_neg hal, m_sends hM h2 h1 h4 h3 x hj hje]
      refine (zloop_l e).trans ?_
      rw [hjn] at hfin
      have ho3 := s_ok_sends ho2 j
      rw [ih (z_sA σ (M + 1) (s_sends (z_I σ (M + 1)) j)) (s_spoilt (z_I σ (M + 1)) j) (zMs_sA hM _ _) (by rw [z_I_sA]; exact ho3) (by rw [z_I_sA]; exact hfin) N (by omega)]
      rw [z_I_sA, z_sA_sA]
      rw [show s_sl x t0 al (k + 1) (z_I σ (M + 1)) false = s_sl x t0 al k (s_sends (z_I σ (M + 1)) j) (s_spoilt (z_I σ (M + 1)) j) from by
        rw [← hjn]; exact if_neg hst]
theorem m_sendsAll (hM : zMs σ M) (ho : s_ok (z_I σ (M + 1))) (x t0 al : Int32) {k : Nat} (hk : k < 5000) (hf : s_allfin x t0 al k (z_I σ (M + 1))) : f_X10_sendsAll σ M x t0 al = some (z_sA σ (M + 1) (s_all x t0 al k (z_I σ (M + 1)))) := by
  have ho2 := ho
  obtain ⟨⟨n, h1, h2⟩, ⟨q, h3, h4⟩⟩ := ho
  simp only [s_allfin] at hf
  unfold s_all
  by_cases hnn : s_next (z_I σ (M + 1)) x nn = nn
  · have hu : s_urg (z_I σ (M + 1)) x = false := by simp [s_urg, hnn]
    simp only [hu, Bool.false_eq_true, if_false] at hf ⊢
    simp (disch := omega) only [f_X10_sendsAll, f_X10_sendsAll_37, f_X10_sendsAll_38, f_X10_sendsAll_40, ↓zl_eq, ↓zb_eq, ↓zb2_eq, ↓zc_some, ↓zc_none, ↓zb_pre, ↓zb2_pre, ↓zc_pre, ↓zex_eq, ↓reduceIte, Option.isSome_some, Option.isSome_none, Option.getD_some, n32_lit, n32_nn, n32_nn2, n32_add, n32_mul, n32_toNat, n32_ix, hM.1, m_nextOf hM h4 h3 x (Or.inl rfl), if_pos hnn]
    exact m_sl x t0 al k σ false hM ho2 hf zN hk
  · rcases s_next_ok ho2 x nn with hj | ⟨j, hj, hje⟩
    · exact absurd hj hnn
    have hjn : (s_next (z_I σ (M + 1)) x nn).toNatClampNeg = j := by rw [hje, n32_toNat (by omega)]
    by_cases h5 : z_I σ (M + 1) (242 + 5 * j + 1) < n32 5
    · have hu : s_urg (z_I σ (M + 1)) x = false := by unfold s_urg; rw [hjn]; simp [h5]
      simp only [hu, Bool.false_eq_true, if_false] at hf ⊢
      simp (disch := omega) only [f_X10_sendsAll, f_X10_sendsAll_37, f_X10_sendsAll_38, f_X10_sendsAll_40, ↓zl_eq, ↓zb_eq, ↓zb2_eq, ↓zc_some, ↓zc_none, ↓zb_pre, ↓zb2_pre, ↓zc_pre, ↓zex_eq, ↓reduceIte, Option.isSome_some, Option.isSome_none, Option.getD_some, n32_lit, n32_nn, n32_nn2, n32_add, n32_mul, n32_toNat, n32_ix, hM.1, m_nextOf hM h4 h3 x (Or.inl rfl), hje, n32_ne, m_ofM hM, if_pos h5]
      exact m_sl x t0 al k σ false hM ho2 hf zN hk
    · have hu : s_urg (z_I σ (M + 1)) x = true := by unfold s_urg; rw [hjn]; simp [h5, hnn]
      simp only [hu, if_true] at hf ⊢
      rw [hjn] at hf ⊢
      have ho3 := s_ok_sends ho2 j
      have A := fun N hN => m_sl (M := M) x t0 al k (z_sA σ (M + 1) (s_sends (z_I σ (M + 1)) j)) (s_spoilt (z_I σ (M + 1)) j) (zMs_sA hM _ _) (by rw [z_I_sA]; exact ho3) (by rw [z_I_sA]; exact hf) N hN
      rw [z_I_sA] at A
      simp only [z_sA_sA] at A
      rw [← A zN hk]
      simp (disch := omega) only [f_X10_sendsAll, f_X10_sendsAll_37, f_X10_sendsAll_38, f_X10_sendsAll_40, ↓zl_eq, ↓zb_eq, ↓zb2_eq, ↓zc_some, ↓zc_none, ↓zb_pre, ↓zb2_pre, ↓zc_pre, ↓zex_eq, ↓reduceIte, Option.isSome_some, Option.isSome_none, Option.getD_some, n32_lit, n32_nn, n32_nn2, n32_add, n32_mul, n32_toNat, n32_ix, hM.1, m_nextOf hM h4 h3 x (Or.inl rfl), hje, n32_ne, m_ofM hM, if_neg h5, m_sends hM h2 h1 h4 h3 x hj hje, bi_0n]
      cases s_spoilt (z_I σ (M + 1)) j <;> rfl
theorem m_log58 (hM : zMs σ M) {k : Nat} (hk : k < 40) (hg : z_I σ (M + 1) 7 = n32 k) (t0 h rot sent : Int32) : f_X10_logs_58 σ M t0 h rot sent = some (z_sA σ (M + 1) (s_put (z_I σ (M + 1)) k t0 h rot sent)) := by
  simp (disch := omega) only [f_X10_logs_58, ↓zl_eq, ↓zb_eq, ↓zb2_eq, ↓zc_some, ↓zc_none, ↓zb_pre, ↓zb2_pre, ↓zc_pre, ↓zex_eq, ↓reduceIte, Option.isSome_some, Option.isSome_none, Option.getD_some, n32_lit, n32_nn, n32_nn2, n32_add, n32_mul, n32_toNat, n32_ix, hM.1, hM.2.1, hM.2.2.1, hM.2.2.2.1, hM.2.2.2.2.1, hM.2.2.2.2.2.1, hM.2.2.2.2.2.2.1, hM.2.2.2.2.2.2.2.1, hM.2.2.2.2.2.2.2.2.1, hM.2.2.2.2.2.2.2.2.2.1, hM.2.2.2.2.2.2.2.2.2.2.1, hM.2.2.2.2.2.2.2.2.2.2.2.1, hM.2.2.2.2.2.2.2.2.2.2.2.2, z_pI_eq, z_sA_sA, z_I_sA, z_J_sA, z_R_sA, z_ob_sA, z_ar_sA, z_ln_sA, z_nx_sA, hg, gu_ne, gu_same, s_put]
theorem m_logs (hM : zMs σ M) {k : Nat} (hk : k ≤ 40) (hg : z_I σ (M + 1) 7 = n32 k) (t0 h rot sent : Int32) : f_X10_logs σ M t0 h rot sent = some (z_sA σ (M + 1) (s_log (z_I σ (M + 1)) k t0 h rot sent)) := by
  by_cases h40 : k = 40
  · subst h40
    simp (disch := omega) only [f_X10_logs, f_X10_logs_17, ↓zl_eq, ↓zb_eq, ↓zb2_eq, ↓zc_some, ↓zc_none, ↓zb_pre, ↓zb2_pre, ↓zc_pre, ↓zex_eq, ↓reduceIte, Option.isSome_some, Option.isSome_none, Option.getD_some, n32_lit, n32_nn, n32_nn2, n32_add, n32_mul, n32_toNat, n32_ix, hM.1, hM.2.1, hM.2.2.1, hM.2.2.2.1, hM.2.2.2.2.1, hM.2.2.2.2.2.1, hM.2.2.2.2.2.2.1, hM.2.2.2.2.2.2.2.1, hM.2.2.2.2.2.2.2.2.1, hM.2.2.2.2.2.2.2.2.2.1, hM.2.2.2.2.2.2.2.2.2.2.1, hM.2.2.2.2.2.2.2.2.2.2.2.1, hM.2.2.2.2.2.2.2.2.2.2.2.2, hg]
    unfold s_log
    rw [if_pos rfl]
    have A : ∀ k, k ≤ 156 → z_sA σ (M + 1) (s_shift (z_I σ (M + 1)) k) = z_sA σ (M + 1) (s_shift (z_I σ (M + 1)) k) := fun _ _ => rfl
    have e0 : (σ, n32 782) = ((fun k => (z_sA σ (M + 1) (s_shift (z_I σ (M + 1)) k), n32 (782 + k))) 0 : zSt × Int32) := by
      have : s_shift (z_I σ (M + 1)) 0 = z_I σ (M + 1) := by
        funext j; unfold s_shift; rw [if_neg (by omega)]
      simp only [this, z_sA_id, Nat.add_zero]
    rw [e0]
    refine zloop_go (N := zN) (fun k => (z_sA σ (M + 1) (s_shift (z_I σ (M + 1)) k), n32 (782 + k))) _ 156 (fun k hk => ?_) ?_ (by unfold zN; omega)
    · show b_X10_logs_17 M t0 h rot sent (z_sA σ (M + 1) (s_shift (z_I σ (M + 1)) k)) (n32 (782 + k)) = some (.inl (z_sA σ (M + 1) (s_shift (z_I σ (M + 1)) (k + 1)), n32 (782 + (k + 1))))
      simp (disch := omega) only [b_X10_logs_17, ↓zl_eq, ↓zb_eq, ↓zb2_eq, ↓zc_some, ↓zc_none, ↓zb_pre, ↓zb2_pre, ↓zc_pre, ↓zex_eq, ↓reduceIte, Option.isSome_some, Option.isSome_none, Option.getD_some, n32_lit, n32_nn, n32_nn2, n32_add, n32_mul, n32_toNat, n32_ix, hM.1, hM.2.1, hM.2.2.1, hM.2.2.2.1, hM.2.2.2.2.1, hM.2.2.2.2.2.1, hM.2.2.2.2.2.2.1, hM.2.2.2.2.2.2.2.1, hM.2.2.2.2.2.2.2.2.1, hM.2.2.2.2.2.2.2.2.2.1, hM.2.2.2.2.2.2.2.2.2.2.1, hM.2.2.2.2.2.2.2.2.2.2.2.1, hM.2.2.2.2.2.2.2.2.2.2.2.2, z_pI_eq, z_sA_sA, z_I_sA, z_J_sA, z_R_sA, z_ob_sA, z_ar_sA, z_ln_sA, z_nx_sA, n32_le]
      rw [if_neg (by omega)]
      have e : gu (s_shift (z_I σ (M + 1)) k) (782 + k) (s_shift (z_I σ (M + 1)) k (782 + k + 4)) = s_shift (z_I σ (M + 1)) (k + 1) := by
        funext j
        unfold gu s_shift
        by_cases hj : j = 782 + k
        · subst hj
          rw [if_pos rfl, if_neg (by omega), if_pos (by omega)]
        · rw [if_neg hj]
          by_cases hj2 : 782 ≤ j ∧ j < 782 + k
          · rw [if_pos hj2, if_pos (by omega)]
          · rw [if_neg hj2, if_neg (by omega)]
      rw [e]
      congr 3
    · show b_X10_logs_17 M t0 h rot sent (z_sA σ (M + 1) (s_shift (z_I σ (M + 1)) 156)) (n32 938) = _
      have e7 : s_shift (z_I σ (M + 1)) 156 7 = n32 40 := by
        unfold s_shift; rw [if_neg (by omega)]; exact hg
      have e8 : n32 40 - n32 1 = n32 39 := rfl
      simp (disch := omega) only [b_X10_logs_17, ↓zl_eq, ↓zb_eq, ↓zb2_eq, ↓zc_some, ↓zc_none, ↓zb_pre, ↓zb2_pre, ↓zc_pre, ↓zex_eq, ↓reduceIte, Option.isSome_some, Option.isSome_none, Option.getD_some, n32_lit, n32_nn, n32_nn2, n32_add, n32_mul, n32_toNat, n32_ix, hM.1, hM.2.1, hM.2.2.1, hM.2.2.2.1, hM.2.2.2.2.1, hM.2.2.2.2.2.1, hM.2.2.2.2.2.2.1, hM.2.2.2.2.2.2.2.1, hM.2.2.2.2.2.2.2.2.1, hM.2.2.2.2.2.2.2.2.2.1, hM.2.2.2.2.2.2.2.2.2.2.1, hM.2.2.2.2.2.2.2.2.2.2.2.1, hM.2.2.2.2.2.2.2.2.2.2.2.2, z_pI_eq, z_sA_sA, z_I_sA, z_J_sA, z_R_sA, z_ob_sA, z_ar_sA, z_ln_sA, z_nx_sA, n32_le, Nat.le_refl, e7, e8]
      rw [m_log58 (zMs_sA hM _ _) (k := 39) (by decide) (by rw [z_I_sA, gu_same])]
      rw [z_I_sA, z_sA_sA]
      rfl
  · simp (disch := omega) only [f_X10_logs, ↓zl_eq, ↓zb_eq, ↓zb2_eq, ↓zc_some, ↓zc_none, ↓zb_pre, ↓zb2_pre, ↓zc_pre, ↓zex_eq, ↓reduceIte, Option.isSome_some, Option.isSome_none, Option.getD_some, n32_lit, n32_nn, n32_nn2, n32_add, n32_mul, n32_toNat, n32_ix, hM.1, hM.2.1, hM.2.2.1, hM.2.2.2.1, hM.2.2.2.2.1, hM.2.2.2.2.2.1, hM.2.2.2.2.2.2.1, hM.2.2.2.2.2.2.2.1, hM.2.2.2.2.2.2.2.2.1, hM.2.2.2.2.2.2.2.2.2.1, hM.2.2.2.2.2.2.2.2.2.2.1, hM.2.2.2.2.2.2.2.2.2.2.2.1, hM.2.2.2.2.2.2.2.2.2.2.2.2, hg, n32_eq, if_neg h40, m_log58 hM (show k < 40 by omega) hg]
    unfold s_log
    rw [if_neg h40]
end MODEL
