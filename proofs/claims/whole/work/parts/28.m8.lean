def s_tries (nx : Nat) : Nat → zG → Bool × zG
  | 0, g => (false, g)
  | k + 1, g => if s_l1 g = false ∧ s_ring (s_takes g (n32 1)) nx = true then (true, gu (s_takes g (n32 1)) 4 (n32 nx)) else s_tries nx k (s_tick (s_takes g (n32 1)))
def s_ask (h : Nat) : Nat → zG → Nat → zG × Nat
  | 0, g, to => (g, to)
  | k + 1, g, to => if to = h then (g, to) else if s_l1 g = false ∧ s_ring (s_takes g (n32 1)) to = true then (s_takes g (n32 1), to) else s_ask h k (s_tick (s_takes g (n32 1))) ((to + 1) % 32)
def s_end (g : zG) (h to : Nat) : zG := gu (gu g (18 + 7 * h + 3) (n32 to)) 4 (n32 to)
def s_drop (g : zG) (h nx : Nat) : zG := if ¬ nx = h ∧ s_ring g nx = true then gu (gu g (18 + 7 * nx + 2) (n32 0)) 14 (g 14 + n32 1) else g
def s_passes (g : zG) (h nx : Nat) : zG :=
  if (s_tries nx 3 g).1 = true then (s_tries nx 3 g).2 else s_end (s_ask h 32 (s_drop (s_tries nx 3 g).2 h nx) ((nx + 1) % 32)).1 h (s_ask h 32 (s_drop (s_tries nx 3 g).2 h nx) ((nx + 1) % 32)).2
section MODEL
variable {σ : zSt} {M n : Nat}
theorem m_174 (hM : zMs σ M) (g : zG) {h to : Nat} (hh : h < 32) : f_X10_passes_174 (z_sA σ (M + 1) g) M (n32 h) (n32 to) = some (z_sA σ (M + 1) (s_end g h to)) := by
  simp (disch := omega) only [f_X10_passes_174, f_X10_at, ↓zl_eq, ↓zb_eq, ↓zb2_eq, ↓zc_some, ↓zc_none, ↓zb_pre, ↓zb2_pre, ↓zc_pre, ↓zex_eq, ↓reduceIte, Option.isSome_some, Option.isSome_none, Option.getD_some, n32_lit, n32_nn, n32_nn2, n32_add, n32_mul, n32_toNat, n32_ix, hM.1, hM.2.1, hM.2.2.1, hM.2.2.2.1, hM.2.2.2.2.1, hM.2.2.2.2.2.1, hM.2.2.2.2.2.2.1, hM.2.2.2.2.2.2.2.1, hM.2.2.2.2.2.2.2.2.1, hM.2.2.2.2.2.2.2.2.2.1, hM.2.2.2.2.2.2.2.2.2.2.1, hM.2.2.2.2.2.2.2.2.2.2.2.1, hM.2.2.2.2.2.2.2.2.2.2.2.2, z_pI_eq, z_sA_sA, z_I_sA, z_J_sA, z_R_sA, z_ob_sA, z_ar_sA, z_ln_sA, z_nx_sA, s_end]
theorem m_ask (hM : zMs σ M) (hn2 : n ≤ 20) {h : Nat} (hh : h < 32) : ∀ (k : Nat) (g : zG) (to : Nat), to < 32 → g 6 = n32 n → (h + 32 - to) % 32 ≤ k → ∀ N, k + 2 < N →
    zloop (fun (t : zSt × Int32 × Int32) => b_X10_passes_111 M (n32 h) t.1 t.2.1 t.2.2) N (z_sA σ (M + 1) g, n32 to, n32 0) = some (z_sA σ (M + 1) (s_end (s_ask h k g to).1 h (s_ask h k g to).2)) := by
  intro k
  induction k with
  | zero =>
    intro g to ht hg hd N hN
    obtain ⟨N, rfl⟩ : ∃ N', N = N' + 1 := ⟨N - 1, by omega⟩
    have : to = h := by omega
    subst this
    refine zloop_r ?_
    show b_X10_passes_111 M (n32 to) (z_sA σ (M + 1) g) (n32 to) (n32 0) = _
    unfold b_X10_passes_111
    rw [if_pos rfl, m_174 hM g hh]
    rfl
  | succ k ih =>
    intro g to ht hg hd N hN
    obtain ⟨N, rfl⟩ : ∃ N', N = N' + 1 := ⟨N - 1, by omega⟩
    by_cases he : to = h
    · subst he
      refine (zloop_r (r := z_sA σ (M + 1) (s_end g to to)) ?_).trans ?_
      · show b_X10_passes_111 M (n32 to) (z_sA σ (M + 1) g) (n32 to) (n32 0) = _
        unfold b_X10_passes_111
        rw [if_pos rfl, m_174 hM g hh]
        rfl
      · unfold s_ask; rw [if_pos rfl]
    · have A := m_takesA hM hn2 g (n32 1) hg
      have hm1 := Nat.mod_lt (to + 1) (show 32 > 0 by decide)
      by_cases hc : s_l1 g = false ∧ s_ring (s_takes g (n32 1)) to = true
      · refine (zloop_l (t := (z_sA σ (M + 1) (s_takes g (n32 1)), n32 to, n32 1)) ?_).trans ?_
        · show b_X10_passes_111 M (n32 h) (z_sA σ (M + 1) g) (n32 to) (n32 0) = _
          have hl : s_loud g (g 3) (g 3 + n32 1 - n32 1) = false := hc.1
          simp (disch := omega) only [b_X10_passes_111, f_X10_passes_141, f_X10_passes_142, ↓zl_eq, ↓zb_eq, ↓zb2_eq, ↓zc_some, ↓zc_none, ↓zb_pre, ↓zb2_pre, ↓zc_pre, ↓zex_eq, ↓reduceIte, Option.isSome_some, Option.isSome_none, Option.getD_some, n32_lit, n32_nn, n32_nn2, n32_add, n32_mul, n32_toNat, n32_ix, n32_eq, if_neg he, hM.1, hM.2.1, hM.2.2.1, hM.2.2.2.1, hM.2.2.2.2.1, hM.2.2.2.2.2.1, hM.2.2.2.2.2.2.1, hM.2.2.2.2.2.2.2.1, hM.2.2.2.2.2.2.2.2.1, hM.2.2.2.2.2.2.2.2.2.1, hM.2.2.2.2.2.2.2.2.2.2.1, hM.2.2.2.2.2.2.2.2.2.2.2.1, hM.2.2.2.2.2.2.2.2.2.2.2.2, z_ob_sA, A, bi_0n, hl, m_ringA hM _ ht, hc.2, Bool.true_eq_false]
          simp only [Nat.one_ne_zero, if_false]
        · obtain ⟨N, rfl⟩ : ∃ N', N = N' + 1 := ⟨N - 1, by omega⟩
          refine (zloop_r (r := z_sA σ (M + 1) (s_end (s_takes g (n32 1)) h to)) ?_).trans ?_
          · show b_X10_passes_111 M (n32 h) (z_sA σ (M + 1) (s_takes g (n32 1))) (n32 to) (n32 1) = _
            unfold b_X10_passes_111
            have e1 : ¬ n32 to = n32 h := by rw [n32_eq (by omega) (by omega)]; exact he
            have e2 : ¬ n32 1 = (0 : Int32) := by decide
            rw [if_neg e1, if_neg e2, m_174 hM _ hh]
            rfl
          · unfold s_ask; rw [if_neg he, if_pos hc]
      · refine (zloop_l (t := (z_sA σ (M + 1) (s_tick (s_takes g (n32 1))), n32 ((to + 1) % 32), n32 0)) ?_).trans ?_
        · show b_X10_passes_111 M (n32 h) (z_sA σ (M + 1) g) (n32 to) (n32 0) = _
          simp (disch := omega) only [b_X10_passes_111, f_X10_passes_141, f_X10_passes_142, ↓zl_eq, ↓zb_eq, ↓zb2_eq, ↓zc_some, ↓zc_none, ↓zb_pre, ↓zb2_pre, ↓zc_pre, ↓zex_eq, ↓reduceIte, Option.isSome_some, Option.isSome_none, Option.getD_some, n32_lit, n32_add, n32_mod, n32_toNat, n32_ix, n32_eq, if_neg he, hM.1, hM.2.1, hM.2.2.1, hM.2.2.2.1, hM.2.2.2.2.1, hM.2.2.2.2.2.1, hM.2.2.2.2.2.2.1, hM.2.2.2.2.2.2.2.1, hM.2.2.2.2.2.2.2.2.1, hM.2.2.2.2.2.2.2.2.2.1, hM.2.2.2.2.2.2.2.2.2.2.1, hM.2.2.2.2.2.2.2.2.2.2.2.1, hM.2.2.2.2.2.2.2.2.2.2.2.2, z_pI_eq, z_sA_sA, z_I_sA, z_J_sA, z_R_sA, z_ob_sA, z_ar_sA, z_ln_sA, z_nx_sA, A, bi_0n, m_ringA hM _ ht]
          unfold s_l1 at hc
          cases hl : s_loud g (g 3) (g 3 + n32 1 - n32 1) <;> cases hr : s_ring (s_takes g (n32 1)) to <;> simp only [hl, hr, not_true_eq_false, and_self, and_true, Bool.false_eq_true, Bool.true_eq_false, ↓reduceIte, s_tick] at hc ⊢
        · rw [ih (s_tick (s_takes g (n32 1))) ((to + 1) % 32) hm1 (by rw [s_tick_ne _ (by decide), s_takes_ne _ _ (by decide) (by decide)]; exact hg) (by omega) N (by omega)]
          rw [show s_ask h (k + 1) g to = s_ask h k (s_tick (s_takes g (n32 1))) ((to + 1) % 32) from by
            rw [s_ask]; rw [if_neg he, if_neg hc]]
theorem m_101 (hM : zMs σ M) (hn2 : n ≤ 20) {h nx : Nat} (hh : h < 32) (hx : nx < 32) (g : zG) (hg : g 6 = n32 n) : f_X10_passes_101 (z_sA σ (M + 1) g) M (n32 h) (n32 nx) = some (z_sA σ (M + 1) (s_end (s_ask h 32 g ((nx + 1) % 32)).1 h (s_ask h 32 g ((nx + 1) % 32)).2)) := by
  have hm1 := Nat.mod_lt (nx + 1) (show 32 > 0 by decide)
  simp (disch := omega) only [f_X10_passes_101, f_X10_passes_111, ↓zl_eq, ↓zb_eq, ↓zb2_eq, ↓zc_some, ↓zc_none, ↓zb_pre, ↓zb2_pre, ↓zc_pre, ↓zex_eq, ↓reduceIte, Option.isSome_some, Option.isSome_none, Option.getD_some, n32_lit, n32_add, n32_mod]
  exact m_ask hM hn2 hh 32 g ((nx + 1) % 32) hm1 hg (by omega) zN (by decide)
theorem s_tries_ne (nx : Nat) : ∀ (k : Nat) (g : zG) {j : Nat}, j ≠ 3 → j ≠ 11 → j ≠ 4 → (s_tries nx k g).2 j = g j := by
  intro k
  induction k with
  | zero => intro g j _ _ _; rfl
  | succ k ih =>
    intro g j h3 h11 h4
    unfold s_tries
    split
    · show gu _ 4 _ j = g j
      rw [gu_ne _ _ h4, s_takes_ne _ _ h3 h11]
    · rw [ih _ h3 h11 h4, s_tick_ne _ h3, s_takes_ne _ _ h3 h11]
theorem m_tries (hM : zMs σ M) (hn2 : n ≤ 20) {h nx : Nat} (hh : h < 32) (hx : nx < 32) : ∀ (k : Nat) (g : zG), k ≤ 3 → g 6 = n32 n → g (18 + 7 * h + 3) = n32 nx → ∀ N, k < N →
    zloop (fun (t : zSt × Int32) => b_X10_passes_2 M (n32 h) t.1 t.2) N (z_sA σ (M + 1) g, n32 (3 - k)) = some (z_sA σ (M + 1) (if (s_tries nx k g).1 = true then (s_tries nx k g).2 else s_end (s_ask h 32 (s_drop (s_tries nx k g).2 h nx) ((nx + 1) % 32)).1 h (s_ask h 32 (s_drop (s_tries nx k g).2 h nx) ((nx + 1) % 32)).2)) := by
  intro k
  induction k with
  | zero =>
    intro g hk hg h3 N hN
    obtain ⟨N, rfl⟩ : ∃ N', N = N' + 1 := ⟨N - 1, by omega⟩
    refine zloop_r ?_
    show b_X10_passes_2 M (n32 h) (z_sA σ (M + 1) g) (n32 3) = some (.inr (z_sA σ (M + 1) (s_end (s_ask h 32 (s_drop g h nx) ((nx + 1) % 32)).1 h (s_ask h 32 (s_drop g h nx) ((nx + 1) % 32)).2)))
    have B := fun g' (hg' : g' 6 = n32 n) => m_101 hM hn2 hh hx g' hg'
    unfold s_drop
    simp (disch := omega) only [b_X10_passes_2, f_X10_at, ↓zl_eq, ↓zb_eq, ↓zb2_eq, ↓zc_some, ↓zc_none, ↓zb_pre, ↓zb2_pre, ↓zc_pre, ↓zex_eq, ↓reduceIte, Option.isSome_some, Option.isSome_none, Option.getD_some, n32_lit, n32_nn, n32_nn2, n32_add, n32_mul, n32_toNat, n32_ix, n32_le, Nat.le_refl, hM.1, hM.2.1, hM.2.2.1, hM.2.2.2.1, hM.2.2.2.2.1, hM.2.2.2.2.2.1, hM.2.2.2.2.2.2.1, hM.2.2.2.2.2.2.2.1, hM.2.2.2.2.2.2.2.2.1, hM.2.2.2.2.2.2.2.2.2.1, hM.2.2.2.2.2.2.2.2.2.2.1, hM.2.2.2.2.2.2.2.2.2.2.2.1, hM.2.2.2.2.2.2.2.2.2.2.2.2, z_pI_eq, z_sA_sA, z_I_sA, z_J_sA, z_R_sA, z_ob_sA, z_ar_sA, z_ln_sA, z_nx_sA, m_ofA hM, h3, n32_eq, m_ringA hM _ hx, bi_0n, gu_ne]
    by_cases he : nx = h
    · rw [if_pos he, if_neg (by omega), B g hg]
      rfl
    · rw [if_neg he]
      cases hr : s_ring g nx with
      | false =>
        simp only [Bool.false_eq_true, and_false, if_false, if_true]
        rw [B g hg]
        rfl
      | true =>
        simp only [Bool.true_eq_false, he, not_false_eq_true, and_self, if_false, if_true]
        rw [B _ (by rw [gu_ne _ _ (by decide), gu_ne _ _ (by omega)]; exact hg)]
        rfl
  | succ k ih =>
    intro g hk hg h3 N hN
    obtain ⟨N, rfl⟩ : ∃ N', N = N' + 1 := ⟨N - 1, by omega⟩
    have A := m_takesA hM hn2 g (n32 1) hg
    have e3 : n32 (3 - (k + 1)) + n32 1 = n32 (3 - k) := by rw [n32_add]; congr 1; omega
    by_cases hc : s_l1 g = false ∧ s_ring (s_takes g (n32 1)) nx = true
    · refine (zloop_r (r := z_sA σ (M + 1) (gu (s_takes g (n32 1)) 4 (n32 nx))) ?_).trans ?_
      · show b_X10_passes_2 M (n32 h) (z_sA σ (M + 1) g) (n32 (3 - (k + 1))) = _
        have hl : s_loud g (g 3) (g 3 + n32 1 - n32 1) = false := hc.1
        simp (disch := omega) only [b_X10_passes_2, ↓zl_eq, ↓zb_eq, ↓zb2_eq, ↓zc_some, ↓zc_none, ↓zb_pre, ↓zb2_pre, ↓zc_pre, ↓zex_eq, ↓reduceIte, Option.isSome_some, Option.isSome_none, Option.getD_some, n32_lit, n32_nn, n32_nn2, n32_add, n32_mul, n32_toNat, n32_ix, n32_le, hM.1, hM.2.1, hM.2.2.1, hM.2.2.2.1, hM.2.2.2.2.1, hM.2.2.2.2.2.1, hM.2.2.2.2.2.2.1, hM.2.2.2.2.2.2.2.1, hM.2.2.2.2.2.2.2.2.1, hM.2.2.2.2.2.2.2.2.2.1, hM.2.2.2.2.2.2.2.2.2.2.1, hM.2.2.2.2.2.2.2.2.2.2.2.1, hM.2.2.2.2.2.2.2.2.2.2.2.2, z_pI_eq, z_sA_sA, z_I_sA, z_J_sA, z_R_sA, z_ob_sA, z_ar_sA, z_ln_sA, z_nx_sA, m_ofA hM, h3, A, bi_0n, hl, m_ringA hM _ hx, hc.2, Bool.true_eq_false]
        rw [if_neg (by omega)]
      · rw [show s_tries nx (k + 1) g = (true, gu (s_takes g (n32 1)) 4 (n32 nx)) from by rw [s_tries]; rw [if_pos hc]]
        rfl
    · refine (zloop_l (t := (z_sA σ (M + 1) (s_tick (s_takes g (n32 1))), n32 (3 - k))) ?_).trans ?_
      · show b_X10_passes_2 M (n32 h) (z_sA σ (M + 1) g) (n32 (3 - (k + 1))) = _
        simp (disch := omega) only [b_X10_passes_2, f_X10_passes_38, ↓zl_eq, ↓zb_eq, ↓zb2_eq, ↓zc_some, ↓zc_none, ↓zb_pre, ↓zb2_pre, ↓zc_pre, ↓zex_eq, ↓reduceIte, Option.isSome_some, Option.isSome_none, Option.getD_some, n32_lit, n32_toNat, n32_ix, n32_le, hM.1, hM.2.1, hM.2.2.1, hM.2.2.2.1, hM.2.2.2.2.1, hM.2.2.2.2.2.1, hM.2.2.2.2.2.2.1, hM.2.2.2.2.2.2.2.1, hM.2.2.2.2.2.2.2.2.1, hM.2.2.2.2.2.2.2.2.2.1, hM.2.2.2.2.2.2.2.2.2.2.1, hM.2.2.2.2.2.2.2.2.2.2.2.1, hM.2.2.2.2.2.2.2.2.2.2.2.2, z_pI_eq, z_sA_sA, z_I_sA, z_J_sA, z_R_sA, z_ob_sA, z_ar_sA, z_ln_sA, z_nx_sA, m_ofA hM, h3, A, bi_0n, m_ringA hM _ hx, e3]
        rw [if_neg (by omega)]
        unfold s_l1 at hc
        cases hl : s_loud g (g 3) (g 3 + n32 1 - n32 1) <;> cases hr : s_ring (s_takes g (n32 1)) nx <;> simp only [hl, hr, not_true_eq_false, and_self, and_true, Bool.false_eq_true, Bool.true_eq_false, ↓reduceIte, s_tick] at hc ⊢
      · rw [ih (s_tick (s_takes g (n32 1))) (by omega) (by rw [s_tick_ne _ (by decide), s_takes_ne _ _ (by decide) (by decide)]; exact hg) (by rw [s_tick_ne _ (by omega), s_takes_ne _ _ (by omega) (by omega)]; exact h3) N (by omega)]
        rw [show s_tries nx (k + 1) g = s_tries nx k (s_tick (s_takes g (n32 1))) from by rw [s_tries]; rw [if_neg hc]]
theorem m_passes (hM : zMs σ M) (hn2 : n ≤ 20) {h nx : Nat} (hh : h < 32) (hx : nx < 32) (hg : z_I σ (M + 1) 6 = n32 n) (h3 : z_I σ (M + 1) (18 + 7 * h + 3) = n32 nx) : f_X10_passes σ M (n32 h) = some (z_sA σ (M + 1) (s_passes (z_I σ (M + 1)) h nx)) := by
  have A := m_tries hM hn2 hh hx 3 (z_I σ (M + 1)) (Nat.le_refl _) hg h3 zN (by decide)
  rw [z_sA_id] at A
  exact A
end MODEL
