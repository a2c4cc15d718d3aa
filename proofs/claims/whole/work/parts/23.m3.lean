section MODEL
variable {σ : zSt} {M : Nat}
theorem s_bh_nn (g : zG) (m : Nat) : s_bh g nn m = true := by simp [s_bh]
theorem s_bh_n (g : zG) {b : Nat} (hb : b < 100) (m : Nat) (hm : m < 100) : s_bh g (n32 b) m = (decide (g (242 + 5 * m + 1) < g (242 + 5 * b + 1)) || (decide (g (242 + 5 * m + 1) = g (242 + 5 * b + 1)) && decide (b < m))) := by
  unfold s_bh
  rw [n32_toNat (by omega)]
  have e1 : (n32 b = nn) = False := propext (n32_ne (by omega))
  have e2 : (n32 b < n32 m) = (b < m) := propext (n32_lt (by omega) (by omega))
  simp only [e1, e2, decide_false, Bool.false_or]
/-- the middle of a round: what stands behind `behind` -/
theorem m_nextOf_93 (hM : zMs σ M) {k : Nat} (hk : k < 100) (x b : Int32) (w v : Bool) {best : Int32} (hb : best = nn ∨ ∃ j, j < k ∧ best = n32 j) :
    f_X10_nextOf_93 σ M x b best (n32 k) (bi w) (bi v) = some (.inl ((if (w && v && (decide (best = nn) || decide (z_I σ (M + 1) (242 + 5 * best.toNatClampNeg + 1) < z_I σ (M + 1) (242 + 5 * k + 1)))) = true then n32 k else best), n32 (k + 1))) := by
  cases w with
  | false => simp only [f_X10_nextOf_93, f_X10_nextOf_131, f_X10_nextOf_132, ↓zl_eq, ↓zb_eq, ↓zb2_eq, ↓zc_some, ↓zc_none, ↓zb_pre, ↓zb2_pre, ↓zc_pre, ↓zex_eq, ↓reduceIte, Option.isSome_some, Option.isSome_none, Option.getD_some, n32_lit, n32_nn, n32_nn2, n32_add, n32_mul, n32_toNat, n32_ix, bi_0n, Bool.false_and, Bool.false_eq_true]
  | true =>
    cases v with
    | false => simp only [f_X10_nextOf_93, f_X10_nextOf_131, f_X10_nextOf_132, ↓zl_eq, ↓zb_eq, ↓zb2_eq, ↓zc_some, ↓zc_none, ↓zb_pre, ↓zb2_pre, ↓zc_pre, ↓zex_eq, ↓reduceIte, Option.isSome_some, Option.isSome_none, Option.getD_some, n32_lit, n32_nn, n32_nn2, n32_add, n32_mul, n32_toNat, n32_ix, bi_0n, Bool.false_and, Bool.and_false, Bool.false_eq_true, Bool.true_eq_false]
    | true =>
      rcases hb with hb | ⟨j, hj, hb⟩
      · subst hb
        simp only [f_X10_nextOf_93, f_X10_nextOf_126, f_X10_nextOf_132, ↓zl_eq, ↓zb_eq, ↓zb2_eq, ↓zc_some, ↓zc_none, ↓zb_pre, ↓zb2_pre, ↓zc_pre, ↓zex_eq, ↓reduceIte, Option.isSome_some, Option.isSome_none, Option.getD_some, n32_lit, n32_nn, n32_nn2, n32_add, n32_mul, n32_toNat, n32_ix, bi_0n, Bool.true_and, decide_true, Bool.true_or, Bool.true_eq_false]
      · subst hb
        simp (disch := omega) only [f_X10_nextOf_93, f_X10_nextOf_126, f_X10_nextOf_131, f_X10_nextOf_132, ↓zl_eq, ↓zb_eq, ↓zb2_eq, ↓zc_some, ↓zc_none, ↓zb_pre, ↓zb2_pre, ↓zc_pre, ↓zex_eq, ↓reduceIte, Option.isSome_some, Option.isSome_none, Option.getD_some, n32_lit, n32_nn, n32_nn2, n32_add, n32_mul, n32_toNat, n32_ix, bi_0n, Bool.true_and, Bool.true_eq_false, n32_ne, hM.1, m_ofM hM, decide_false, Bool.false_or, decide_eq_true_eq]
        by_cases h : z_I σ (M + 1) (242 + 5 * k + 1) ≤ z_I σ (M + 1) (242 + 5 * j + 1)
        · have h2 : ¬ z_I σ (M + 1) (242 + 5 * j + 1) < z_I σ (M + 1) (242 + 5 * k + 1) := by rw [Int32.not_lt]; exact h
          rw [if_pos h, if_neg h2]
        · have h2 : z_I σ (M + 1) (242 + 5 * j + 1) < z_I σ (M + 1) (242 + 5 * k + 1) := by rw [Int32.not_le] at h; exact h
          rw [if_neg h, if_pos h2]
theorem m_nextOf_43 (hM : zMs σ M) {k : Nat} (hk : k < 100) (x : Int32) {b : Int32} (hbb : b = nn ∨ ∃ j, j < 100 ∧ b = n32 j) (w : Bool) {best : Int32} (hb : best = nn ∨ ∃ j, j < k ∧ best = n32 j) :
    f_X10_nextOf_43 σ M x b best (n32 k) (bi w) = some (.inl ((if (w && s_bh (z_I σ (M + 1)) b k && (decide (best = nn) || decide (z_I σ (M + 1) (242 + 5 * best.toNatClampNeg + 1) < z_I σ (M + 1) (242 + 5 * k + 1)))) = true then n32 k else best), n32 (k + 1))) := by
  have A : ∀ v : Bool, f_X10_nextOf_93 σ M x b best (n32 k) (bi w) (bi v) = some (.inl ((if (w && v && (decide (best = nn) || decide (z_I σ (M + 1) (242 + 5 * best.toNatClampNeg + 1) < z_I σ (M + 1) (242 + 5 * k + 1)))) = true then n32 k else best), n32 (k + 1))) := fun v => m_nextOf_93 hM hk x b w v hb
  rcases hbb with hbb | ⟨j, hj, hbb⟩
  · subst hbb
    rw [s_bh_nn, ← A true]
    simp only [f_X10_nextOf_43, f_X10_nextOf_88, ↓zl_eq, ↓zb_eq, ↓zb2_eq, ↓zc_some, ↓zc_none, ↓zb_pre, ↓zb2_pre, ↓zc_pre, ↓zex_eq, ↓reduceIte, Option.isSome_some, Option.isSome_none, Option.getD_some, n32_nn]
    rfl
  · subst hbb
    rw [s_bh_n _ hj _ hk, ← A]
    simp (disch := omega) only [f_X10_nextOf_43, f_X10_nextOf_88, f_X10_nextOf_92, ↓zl_eq, ↓zb_eq, ↓zb2_eq, ↓zc_some, ↓zc_none, ↓zb_pre, ↓zb2_pre, ↓zc_pre, ↓zex_eq, ↓reduceIte, Option.isSome_some, Option.isSome_none, Option.getD_some, n32_lit, n32_nn, n32_nn2, n32_add, n32_mul, n32_toNat, n32_ix, n32_ne, hM.1, m_ofM hM, n32_le]
    by_cases h1 : z_I σ (M + 1) (242 + 5 * k + 1) < z_I σ (M + 1) (242 + 5 * j + 1)
    · rw [if_pos h1]; simp only [h1, decide_true, Bool.true_or]; rfl
    · rw [if_neg h1]
      by_cases h2 : z_I σ (M + 1) (242 + 5 * k + 1) = z_I σ (M + 1) (242 + 5 * j + 1)
      · rw [if_pos h2]
        by_cases h3 : k ≤ j
        · have h4 : ¬ j < k := by omega
          rw [if_pos h3]; simp only [h1, h4, decide_false, Bool.and_false, Bool.or_self]; rfl
        · have h4 : j < k := by omega
          rw [if_neg h3]; simp only [h2, h4, decide_true, Bool.and_self, Bool.or_true]; rfl
      · rw [if_neg h2]; simp only [h1, h2, decide_false, Bool.false_and, Bool.or_self]; rfl
theorem m_nextOf (hM : zMs σ M) {n : Nat} (hn : z_I σ (M + 1) 5 = n32 n) (hn2 : n ≤ 100) (x : Int32) {b : Int32} (hbb : b = nn ∨ ∃ j, j < 100 ∧ b = n32 j) : f_X10_nextOf σ M x b = some (s_next (z_I σ (M + 1)) x b) := by
  have e : s_next (z_I σ (M + 1)) x b = s_nx (z_I σ (M + 1)) x b n := by unfold s_next; rw [hn, n32_toNat (by omega)]
  rw [e]
  unfold f_X10_nextOf f_X10_nextOf_5
  refine zloop_go (fun k => (s_nx (z_I σ (M + 1)) x b k, n32 k)) _ n (fun k hk => ?_) ?_ (by unfold zN; omega)
  · have C : ∀ w : Bool, f_X10_nextOf_43 σ M x b (s_nx (z_I σ (M + 1)) x b k) (n32 k) (bi w) = _ := fun w => m_nextOf_43 hM (by omega) x hbb w (s_nx_rng (z_I σ (M + 1)) x b k)
    show b_X10_nextOf_5 σ M x b _ _ = some (.inl (if (s_wt (z_I σ (M + 1)) x k && s_bh (z_I σ (M + 1)) b k && (decide (s_nx (z_I σ (M + 1)) x b k = nn) || decide (z_I σ (M + 1) (242 + 5 * (s_nx (z_I σ (M + 1)) x b k).toNatClampNeg + 1) < z_I σ (M + 1) (242 + 5 * k + 1)))) = true then n32 k else s_nx (z_I σ (M + 1)) x b k, n32 (k + 1)))
    rw [← C]
    simp (disch := omega) only [b_X10_nextOf_5, f_X10_nextOf_42, ↓zl_eq, ↓zb_eq, ↓zb2_eq, ↓zc_some, ↓zc_none, ↓zb_pre, ↓zb2_pre, ↓zc_pre, ↓zex_eq, ↓reduceIte, Option.isSome_some, Option.isSome_none, Option.getD_some, n32_lit, n32_nn, n32_nn2, n32_add, n32_mul, n32_toNat, n32_ix, hM.1, hM.2.1, hM.2.2.1, hM.2.2.2.1, hM.2.2.2.2.1, hM.2.2.2.2.2.1, hM.2.2.2.2.2.2.1, hM.2.2.2.2.2.2.2.1, hM.2.2.2.2.2.2.2.2.1, hM.2.2.2.2.2.2.2.2.2.1, hM.2.2.2.2.2.2.2.2.2.2.1, hM.2.2.2.2.2.2.2.2.2.2.2.1, hM.2.2.2.2.2.2.2.2.2.2.2.2, hn, n32_le, m_ofM hM]
    rw [if_neg (by omega)]
    unfold s_wt
    by_cases h1 : z_I σ (M + 1) (242 + 5 * k + 2) = x
    · by_cases h2 : z_I σ (M + 1) (242 + 5 * k + 4) = nn
      · simp only [h1, h2, if_true, decide_true, Bool.and_self]; rfl
      · simp only [h1, h2, if_true, if_false, decide_true, decide_false, Bool.and_false]; rfl
    · simp only [h1, if_false, decide_false, Bool.false_and]; rfl
  · show b_X10_nextOf_5 σ M x b _ _ = _
    simp (disch := omega) only [b_X10_nextOf_5, ↓zl_eq, ↓zb_eq, ↓zb2_eq, ↓zc_some, ↓zc_none, ↓zb_pre, ↓zb2_pre, ↓zc_pre, ↓zex_eq, ↓reduceIte, Option.isSome_some, Option.isSome_none, Option.getD_some, n32_lit, n32_nn, n32_nn2, n32_add, n32_mul, n32_toNat, n32_ix, hM.1, hM.2.1, hM.2.2.1, hM.2.2.2.1, hM.2.2.2.2.1, hM.2.2.2.2.2.1, hM.2.2.2.2.2.2.1, hM.2.2.2.2.2.2.2.1, hM.2.2.2.2.2.2.2.2.1, hM.2.2.2.2.2.2.2.2.2.1, hM.2.2.2.2.2.2.2.2.2.2.1, hM.2.2.2.2.2.2.2.2.2.2.2.1, hM.2.2.2.2.2.2.2.2.2.2.2.2, hn, n32_le, Nat.le_refl]
theorem s_next_rng (g : zG) (x b : Int32) {n : Nat} (hn : g 5 = n32 n) (hn2 : n ≤ 100) : s_next g x b = nn ∨ ∃ j, j < n ∧ s_next g x b = n32 j := by
  unfold s_next
  rw [hn, n32_toNat (by omega)]
  exact s_nx_rng g x b n
def s_sum (F : Nat → Int32) : Nat → Int32
  | 0 => n32 0
  | k + 1 => s_sum F k + F k
theorem m_stations (hM : zMs σ M) : f_X10_stations σ M = some (s_sum (fun x => z_I σ (M + 1) (18 + 7 * x + 0)) 32) := by
  unfold f_X10_stations f_X10_stations_4
  refine zloop_go (fun k => (s_sum (fun x => z_I σ (M + 1) (18 + 7 * x + 0)) k, n32 k)) _ 32 (fun k hk => ?_) ?_ (by unfold zN; omega)
  · show b_X10_stations_4 σ M _ _ = some (.inl (s_sum (fun x => z_I σ (M + 1) (18 + 7 * x + 0)) k + z_I σ (M + 1) (18 + 7 * k + 0), n32 (k + 1)))
    simp (disch := omega) only [b_X10_stations_4, ↓zl_eq, ↓zb_eq, ↓zb2_eq, ↓zc_some, ↓zc_none, ↓zb_pre, ↓zb2_pre, ↓zc_pre, ↓zex_eq, ↓reduceIte, Option.isSome_some, Option.isSome_none, Option.getD_some, n32_lit, n32_nn, n32_nn2, n32_add, n32_mul, n32_toNat, n32_ix, hM.1, hM.2.1, hM.2.2.1, hM.2.2.2.1, hM.2.2.2.2.1, hM.2.2.2.2.2.1, hM.2.2.2.2.2.2.1, hM.2.2.2.2.2.2.2.1, hM.2.2.2.2.2.2.2.2.1, hM.2.2.2.2.2.2.2.2.2.1, hM.2.2.2.2.2.2.2.2.2.2.1, hM.2.2.2.2.2.2.2.2.2.2.2.1, hM.2.2.2.2.2.2.2.2.2.2.2.2, n32_le, m_of hM]
    rw [if_neg (by omega)]
  · show b_X10_stations_4 σ M _ _ = _
    simp (disch := omega) only [b_X10_stations_4, ↓zl_eq, ↓zb_eq, ↓zb2_eq, ↓zc_some, ↓zc_none, ↓zb_pre, ↓zb2_pre, ↓zc_pre, ↓zex_eq, ↓reduceIte, Option.isSome_some, Option.isSome_none, Option.getD_some, n32_lit, n32_nn, n32_nn2, n32_add, n32_mul, n32_toNat, n32_ix, n32_le, Nat.le_refl]
theorem m_ring (hM : zMs σ M) {x : Nat} (hx : x < 32) : f_X10_isInRing σ M (n32 x) = some (bi (s_ring (z_I σ (M + 1)) x)) := m_isInRing hM hx
theorem m_inRing (hM : zMs σ M) : f_X10_inRing σ M = some (n32 (s_cnt (s_ring (z_I σ (M + 1))) 32)) := by
  unfold f_X10_inRing f_X10_inRing_4
  refine zloop_go (fun k => (n32 (s_cnt (s_ring (z_I σ (M + 1))) k), n32 k)) _ 32 (fun k hk => ?_) ?_ (by unfold zN; omega)
  · show b_X10_inRing_4 σ M _ _ = some (.inl (n32 (s_cnt (s_ring (z_I σ (M + 1))) k + if s_ring (z_I σ (M + 1)) k = true then 1 else 0), n32 (k + 1)))
    simp (disch := omega) only [b_X10_inRing_4, f_X10_inRing_24, ↓zl_eq, ↓zb_eq, ↓zb2_eq, ↓zc_some, ↓zc_none, ↓zb_pre, ↓zb2_pre, ↓zc_pre, ↓zex_eq, ↓reduceIte, Option.isSome_some, Option.isSome_none, Option.getD_some, n32_lit, n32_nn, n32_nn2, n32_add, n32_mul, n32_toNat, n32_ix, hM.1, hM.2.1, hM.2.2.1, hM.2.2.2.1, hM.2.2.2.2.1, hM.2.2.2.2.2.1, hM.2.2.2.2.2.2.1, hM.2.2.2.2.2.2.2.1, hM.2.2.2.2.2.2.2.2.1, hM.2.2.2.2.2.2.2.2.2.1, hM.2.2.2.2.2.2.2.2.2.2.1, hM.2.2.2.2.2.2.2.2.2.2.2.1, hM.2.2.2.2.2.2.2.2.2.2.2.2, n32_le, m_ring hM, bi_0n]
    rw [if_neg (by omega)]
    cases s_ring (z_I σ (M + 1)) k <;> simp
  · show b_X10_inRing_4 σ M _ _ = _
    simp (disch := omega) only [b_X10_inRing_4, ↓zl_eq, ↓zb_eq, ↓zb2_eq, ↓zc_some, ↓zc_none, ↓zb_pre, ↓zb2_pre, ↓zc_pre, ↓zex_eq, ↓reduceIte, Option.isSome_some, Option.isSome_none, Option.getD_some, n32_lit, n32_nn, n32_nn2, n32_add, n32_mul, n32_toNat, n32_ix, n32_le, Nat.le_refl]
end MODEL
