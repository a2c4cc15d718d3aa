/-! A MESSAGE IS GIVEN: the queue -/
def s_gives (g : zG) (q : Nat) (x L U : Int32) : zG := gu (gu (gu (gu (gu (gu g (242 + 5 * q + 0) L) (242 + 5 * q + 1) U) (242 + 5 * q + 2) x) (242 + 5 * q + 3) (g 3)) (242 + 5 * q + 4) nn) 5 (n32 (q + 1))
theorem s_gives_ne (g : zG) (q : Nat) (x L U : Int32) {j : Nat} (h5 : j ≠ 5) (h : j < 242 + 5 * q ∨ 242 + 5 * q + 5 ≤ j) : s_gives g q x L U j = g j := by
  unfold s_gives
  simp (disch := omega) only [gu_ne]
theorem s_gives_5 (g : zG) (q : Nat) (x L U : Int32) : s_gives g q x L U 5 = n32 (q + 1) := gu_same _ _ _
theorem s_gives_q (g : zG) (q : Nat) (x L U : Int32) : s_gives g q x L U (242 + 5 * q + 0) = L ∧ s_gives g q x L U (242 + 5 * q + 1) = U ∧ s_gives g q x L U (242 + 5 * q + 2) = x ∧ s_gives g q x L U (242 + 5 * q + 3) = g 3 ∧ s_gives g q x L U (242 + 5 * q + 4) = nn := by
  unfold s_gives
  simp (disch := omega) only [gu_ne, gu_same, and_self]
section GIV
variable {g : zG} {q x : Nat} {L U : Int32}
theorem s_gives_n5 (hq : q < 100) : s_nat (s_gives g q (n32 x) L U) 5 = q + 1 := s_nat_n32 (s_gives_5 _ _ _ _ _) (by omega)
theorem s_gives_row {m w : Nat} (hm : m < q) (hw : w < 5) : s_gives g q (n32 x) L U (242 + 5 * m + w) = g (242 + 5 * m + w) := s_gives_ne _ _ _ _ _ (by omega) (by omega)
theorem s_gives_wt {y : Int32} {m : Nat} (hm : m < q) : s_wt (s_gives g q (n32 x) L U) y m = s_wt g y m := s_wt_congr y (fun w hw => s_gives_row hm hw)
theorem s_gives_wq {y : Int32} : s_wt (s_gives g q (n32 x) L U) y q = decide (n32 x = y) := by
  unfold s_wt
  rw [(s_gives_q g q (n32 x) L U).2.2.1, (s_gives_q g q (n32 x) L U).2.2.2.2, decide_eq_true rfl, Bool.and_true]
theorem s_gives_len (h5 : s_nat g 5 = q) (hq : q < 100) (y : Nat) : s_len (s_gives g q (n32 x) L U) y = s_len g y + (if n32 x = n32 y then 1 else 0) := by
  unfold s_len
  rw [s_gives_n5 hq, h5]
  show s_cnt _ q + (if s_wt _ _ q = true then 1 else 0) = _
  rw [s_gives_wq, s_cnt_congr (P := s_wt g (n32 y)) q (fun m hm => s_gives_wt hm)]
  simp only [decide_eq_true_eq]
theorem s_gives_most (h5 : s_nat g 5 = q) : s_most (s_gives g q (n32 x) L U) (q + 1) = s_most g q := by
  have e : s_most (s_gives g q (n32 x) L U) q = s_most g q := s_most_congr q (fun m hm => s_gives_row hm (by decide))
  have e1 : s_most (s_gives g q (n32 x) L U) (q + 1) = if s_gives g q (n32 x) L U (242 + 5 * q + 4) ≤ s_most (s_gives g q (n32 x) L U) q then s_most (s_gives g q (n32 x) L U) q else s_gives g q (n32 x) L U (242 + 5 * q + 4) := rfl
  rw [e1, e, (s_gives_q g q (n32 x) L U).2.2.2.2]
  have e4 : nn ≤ s_most g q := by
    rw [Int32.le_iff_toInt_le]
    have := s_most_nn g q
    have : nn.toInt = -1 := rfl
    omega
  rw [if_pos e4]
theorem s_gives_sumw : s_sumw (s_gives g q (n32 x) L U) (q + 1) = s_sumw g q := by
  have e : s_sumw (s_gives g q (n32 x) L U) q = s_sumw g q := s_sumw_congr q (fun m hm => s_gives_row hm (by decide))
  have e1 : s_sumw (s_gives g q (n32 x) L U) (q + 1) = s_sumw (s_gives g q (n32 x) L U) q + (if s_gives g q (n32 x) L U (242 + 5 * q + 4) = nn then 0 else (s_gives g q (n32 x) L U (242 + 5 * q + 4)).toInt64) := rfl
  rw [e1, e, (s_gives_q g q (n32 x) L U).2.2.2.2, if_pos rfl, Int64.add_zero]
theorem s_prec_ne {m : Nat} (h : s_prec g m m) : False := by
  rw [s_prec_i] at h
  omega
theorem s_qok_ne {f : Nat → Nat} (hq : s_qok g x f) {i j : Nat} (hi : i < s_len g x) (hj : j < s_len g x) (hij : i ≠ j) : f i ≠ f j := by
  intro he
  rcases Nat.lt_or_ge i j with h | h
  · have := hq.2.1 i j h hj
    rw [he] at this
    exact s_prec_ne this
  · have := hq.2.1 j i (by omega) hi
    rw [he] at this
    exact s_prec_ne this
/-- the queue of another station -/
theorem s_qok_oth (h5 : s_nat g 5 = q) (hq : q < 100) {y : Nat} {f : Nat → Nat} (hne : ¬ n32 x = n32 y) (H : s_qok g y f) : s_len (s_gives g q (n32 x) L U) y = s_len g y ∧ s_qok (s_gives g q (n32 x) L U) y f := by
  have el : s_len (s_gives g q (n32 x) L U) y = s_len g y := by rw [s_gives_len h5 hq, if_neg hne, Nat.add_zero]
  refine ⟨el, fun j hj => ?_, fun i j hij hj => ?_, fun m hm hw => ?_⟩
  · rw [el] at hj
    have := H.1 j hj
    rw [h5] at this
    rw [s_gives_n5 hq, s_gives_wt this.1]
    exact ⟨by omega, this.2⟩
  · rw [el] at hj
    have h1 := (H.1 i (by omega)).1
    have h2 := (H.1 j hj).1
    rw [h5] at h1 h2
    have := H.2.1 i j hij hj
    unfold s_prec at this ⊢
    rw [s_gives_row h1 (by decide), s_gives_row h2 (by decide)]
    exact this
  · rw [s_gives_n5 hq] at hm
    rw [el]
    by_cases hmq : m = q
    · subst hmq
      rw [s_gives_wq, decide_eq_false hne] at hw
      cases hw
    · rw [s_gives_wt (by omega)] at hw
      exact H.2.2 m (by omega) hw
/-- the queue that the message comes into -/
theorem s_qok_ins (h5 : s_nat g 5 = q) (hq : q < 100) {f : Nat → Nat} (H : s_qok g x f) {p : Nat} (hp : p ≤ s_len g x) (h1 : ∀ i, i < p → U ≤ g (242 + 5 * f i + 1)) (h2 : p = s_len g x ∨ g (242 + 5 * f p + 1) < U) : s_len (s_gives g q (n32 x) L U) x = s_len g x + 1 ∧ s_qok (s_gives g q (n32 x) L U) x (s_ins f p (s_len g x) q) := by
  have el : s_len (s_gives g q (n32 x) L U) x = s_len g x + 1 := by rw [s_gives_len h5 hq, if_pos rfl]
  have fl : ∀ j, j < s_len g x → f j < q := fun j hj => by have := (H.1 j hj).1; omega
  have uq := (s_gives_q g q (n32 x) L U).2.1
  have ur : ∀ j, j < s_len g x → s_gives g q (n32 x) L U (242 + 5 * f j + 1) = g (242 + 5 * f j + 1) := fun j hj => s_gives_row (fl j hj) (by decide)
  have old : ∀ i j, i < j → j < s_len g x → s_prec (s_gives g q (n32 x) L U) (f i) (f j) := fun i j hij hj => by
    have := H.2.1 i j hij hj
    unfold s_prec at this ⊢
    rw [ur i (by omega), ur j hj]
    exact this
  refine ⟨el, fun j hj => ?_, fun i j hij hj => ?_, fun m hm hw => ?_⟩
  · rw [el] at hj
    rw [s_gives_n5 hq]
    rcases Nat.lt_trichotomy j p with c | c | c
    · rw [s_ins_lt _ _ c]
      have := fl j (by omega)
      rw [s_gives_wt this]
      exact ⟨by omega, (H.1 j (by omega)).2⟩
    · subst c
      rw [s_ins_eq, s_gives_wq, decide_eq_true rfl]
      exact ⟨by omega, rfl⟩
    · rw [s_ins_gt _ _ c (by omega)]
      have := fl (j - 1) (by omega)
      rw [s_gives_wt this]
      exact ⟨by omega, (H.1 (j - 1) (by omega)).2⟩
  · rw [el] at hj
    rcases Nat.lt_trichotomy i p with c | c | c
    · rw [s_ins_lt _ _ c]
      rcases Nat.lt_trichotomy j p with d | d | d
      · rw [s_ins_lt _ _ d]; exact old i j hij (by omega)
      · subst d
        rw [s_ins_eq]
        unfold s_prec
        rw [uq, ur i (by omega)]
        have a1 := h1 i c
        have a2 := fl i (by omega)
        rw [Int32.le_iff_toInt_le] at a1
        by_cases he : U.toInt = (g (242 + 5 * f i + 1)).toInt
        · exact Or.inr ⟨(Int32.toInt_inj.1 he).symm, a2⟩
        · left; rw [Int32.lt_iff_toInt_lt]; omega
      · rw [s_ins_gt _ _ d (by omega)]; exact old i (j - 1) (by omega) (by omega)
    · subst c
      rw [s_ins_eq, s_ins_gt _ _ hij (by omega)]
      have h3 : g (242 + 5 * f i + 1) < U := by
        rcases h2 with h2 | h2
        · omega
        · exact h2
      left
      rw [uq, ur (j - 1) (by omega), Int32.lt_iff_toInt_lt]
      rw [Int32.lt_iff_toInt_lt] at h3
      by_cases hji : j - 1 = i
      · rw [hji]; exact h3
      · have := H.2.1 i (j - 1) (by omega) (by omega)
        rw [s_prec_i] at this
        omega
    · rw [s_ins_gt _ _ c (by omega), s_ins_gt _ _ (by omega) (by omega)]
      exact old (i - 1) (j - 1) (by omega) (by omega)
  · rw [s_gives_n5 hq] at hm
    rw [el]
    by_cases hmq : m = q
    · subst hmq
      exact ⟨p, by omega, s_ins_eq _ _⟩
    · rw [s_gives_wt (by omega)] at hw
      obtain ⟨j, hj, hjm⟩ := H.2.2 m (by omega) hw
      rcases Nat.lt_or_ge j p with c | c
      · exact ⟨j, by omega, by rw [s_ins_lt _ _ c]; exact hjm⟩
      · exact ⟨j + 1, by omega, by rw [s_ins_gt _ _ (by omega) (by omega)]; exact hjm⟩
end GIV
/-! the chain in the class -/
section CLASS
variable {σ : zSt} {a : Nat}
/-- what stands before and behind place k of a chain -/
def s_bef (f : Nat → Nat) (k : Nat) : Int32 := if k = 0 then nn else n32 (f (k - 1))
def s_fol (f : Nat → Nat) (len k : Nat) : Int32 := if k < len then n32 (f k) else nn
def s_C4 (T : zG) (f : Nat → Nat) (len q k : Nat) : zG := if k = 0 then gu T (6 * q + 5) (s_fol f len k) else gu (gu T (6 * q + 5) (s_fol f len k)) (6 * f (k - 1) + 5) (n32 q)
def s_S6 (S : zG) (len q k : Nat) : zG := if k = 0 then gu (gu S 5 (n32 q)) 6 (n32 (len + 1)) else gu S 6 (n32 (len + 1))
theorem c_enq56 (hL : zLs σ a) (hw : z_I σ (a + 3) 0 = n32 6) {p q len k : Nat} {f : Nat → Nat} (hp : z_ob σ p 6 = true) (hpa : a + 11 ≤ p) (hq : q < 100) (hf : ∀ j, j < len → f j < 100) (hk : k ≤ len) (h6 : z_I σ p 6 = n32 len) :
    f_X3_enqueue_60 σ (a + 2) p (n32 q) (s_bef f k) (s_fol f len k) = some (z_sA (z_sA σ (a + 4) (s_C4 (z_I σ (a + 4)) f len q k)) p (s_S6 (z_I σ p) len q k)) := by
  have o2 := hL.2.2.2.2.2.2.2.2.1
  have r2 := hL.2.2.2.2.2.2.2.2.2.1
  have o3 := hL.2.2.2.2.2.2.2.2.2.2.1
  have P1 := c_put hL hw hq (show 5 < 6 by decide) (s_fol f len k)
  unfold s_bef s_C4 s_S6
  by_cases hk0 : k = 0
  · subst hk0
    simp (disch := omega) only [f_X3_enqueue_60, f_X3_enqueue_96, ↓zl_eq, ↓zb_eq, ↓zb2_eq, ↓zc_some, ↓zc_none, ↓zb_pre, ↓zb2_pre, ↓zc_pre, ↓zex_eq, ↓reduceIte, Option.isSome_some, Option.isSome_none, Option.getD_some, n32_lit, n32_nn2, o2, r2, o3, P1, z_ob_sA, z_R_sA, hp, z_pI_eq, z_I_sA, z_I_sAn, z_sA_sA, gu_ne, h6, n32_add]
  · have hb := hf (k - 1) (by omega)
    have nb : (n32 (f (k - 1)) = nn) = False := eq_false (by rw [n32_ne (by omega)]; exact not_false)
    have P2 := c_put (σ := z_sA σ (a + 4) (gu (z_I σ (a + 4)) (6 * q + 5) (s_fol f len k))) hL (by rw [z_I_sAn _ _ _ (by omega)]; exact hw) hb (show 5 < 6 by decide) (n32 q)
    rw [z_I_sA, z_sA_sA] at P2
    simp (disch := omega) only [f_X3_enqueue_60, f_X3_enqueue_96, ↓zl_eq, ↓zb_eq, ↓zb2_eq, ↓zc_some, ↓zc_none, ↓zb_pre, ↓zb2_pre, ↓zc_pre, ↓zex_eq, ↓reduceIte, Option.isSome_some, Option.isSome_none, Option.getD_some, n32_lit, n32_nn2, o2, r2, o3, P1, P2, z_ob_sA, z_R_sA, hp, z_pI_eq, z_I_sA, z_I_sAn, z_sA_sA, gu_ne, h6, n32_add, if_neg hk0, nb]
theorem c_enqueue (hL : zLs σ a) (hw : z_I σ (a + 3) 0 = n32 6) {p q len : Nat} {f : Nat → Nat} {u : Nat → Int32} {U : Int32} (hp : z_ob σ p 6 = true) (hpa : a + 11 ≤ p) (hq : q < 100) (hln : len ≤ 100) (hf : ∀ j, j < len → f j < 100) (h6 : z_I σ p 6 = n32 len) (h5 : z_I σ p 5 = if 0 < len then n32 (f 0) else nn)
    (hfo : ∀ j, j < len → z_I σ (a + 4) (6 * f j + 5) = if j + 1 < len then n32 (f (j + 1)) else nn) (hu : ∀ j, j < len → z_I σ (a + 4) (6 * f j + 1) = u j) :
    ∃ k, k ≤ len ∧ (∀ i, i < k → U ≤ u i) ∧ (k = len ∨ u k < U) ∧ f_X3_enqueue σ (a + 2) p (n32 q) U = some (z_sA (z_sA σ (a + 4) (s_C4 (z_I σ (a + 4)) f len q k)) p (s_S6 (z_I σ p) len q k)) := by
  have o2 := hL.2.2.2.2.2.2.2.2.1
  have r2 := hL.2.2.2.2.2.2.2.2.2.1
  have o3 := hL.2.2.2.2.2.2.2.2.2.2.1
  obtain ⟨r, hr, hr2⟩ := zloop_inv (N := zN) (s := (nn, s_fol f len 0, n32 0)) (body := fun (t : Int32 × Int32 × Int32) => b_X3_enqueue_12 σ (a + 2) p (n32 q) U t.1 t.2.1 t.2.2)
    (Inv := fun k s => s = (s_bef f k, s_fol f len k, n32 k) ∧ ∀ i, i < k → U ≤ u i)
    (Post := fun r => ∃ k, k ≤ len ∧ (∀ i, i < k → U ≤ u i) ∧ (k = len ∨ u k < U) ∧ r = z_sA (z_sA σ (a + 4) (s_C4 (z_I σ (a + 4)) f len q k)) p (s_S6 (z_I σ p) len q k)) len (fun k s hk hi => by
      obtain ⟨rfl, hi⟩ := hi
      have E := c_enq56 hL hw hp hpa hq hf hk h6
      by_cases hkl : k = len
      · subst hkl
        refine Or.inl ⟨_, ?_, k, Nat.le_refl _, hi, Or.inl rfl, rfl⟩
        show b_X3_enqueue_12 σ (a + 2) p (n32 q) U (s_bef f k) (s_fol f k k) (n32 k) = _
        simp (disch := omega) only [b_X3_enqueue_12, ↓zl_eq, ↓zb_eq, ↓zb2_eq, ↓zc_some, ↓zc_none, ↓zb_pre, ↓zb2_pre, ↓zc_pre, ↓zex_eq, ↓reduceIte, Option.isSome_some, Option.isSome_none, Option.getD_some, hp, h6, n32_le, Nat.le_refl, E]
      · have hk2 : k < len := by omega
        have ef : s_fol f len k = n32 (f k) := if_pos hk2
        have A := c_at hL hw (hf k hk2) (show 1 < 6 by decide)
        rw [hu k hk2] at A
        have Fo := c_at hL hw (hf k hk2) (show 5 < 6 by decide)
        rw [hfo k hk2] at Fo
        have T : b_X3_enqueue_12 σ (a + 2) p (n32 q) U (s_bef f k) (s_fol f len k) (n32 k) = if U ≤ u k then some (.inl (s_bef f (k + 1), s_fol f len (k + 1), n32 (k + 1))) else some (.inr (z_sA (z_sA σ (a + 4) (s_C4 (z_I σ (a + 4)) f len q k)) p (s_S6 (z_I σ p) len q k))) := by
          have e1 : s_bef f (k + 1) = n32 (f k) := by unfold s_bef; rw [if_neg (by omega)]; rfl
          have e2 : s_fol f len (k + 1) = if k + 1 < len then n32 (f (k + 1)) else nn := rfl
          rw [e1, e2]
          simp (disch := omega) only [b_X3_enqueue_12, ↓zl_eq, ↓zb_eq, ↓zb2_eq, ↓zc_some, ↓zc_none, ↓zb_pre, ↓zb2_pre, ↓zc_pre, ↓zex_eq, ↓reduceIte, Option.isSome_some, Option.isSome_none, Option.getD_some, n32_lit, hp, h6, n32_le, E, o2, r2, o3]
          rw [if_neg (by omega), ef]
          simp (disch := omega) only [↓zl_eq, ↓zb_eq, ↓zb2_eq, ↓zc_some, ↓zc_none, ↓zb_pre, ↓zb2_pre, ↓zc_pre, ↓zex_eq, ↓reduceIte, Option.isSome_some, Option.isSome_none, Option.getD_some, n32_lit, o2, r2, o3, A, Fo, n32_add]
        by_cases hU : U ≤ u k
        · rw [if_pos hU] at T
          refine Or.inr ⟨hk2, _, T, rfl, fun i hi2 => ?_⟩
          by_cases hik : i = k
          · rw [hik]; exact hU
          · exact hi i (by omega)
        · rw [if_neg hU] at T
          exact Or.inl ⟨_, T, k, hk, hi, Or.inr (by rw [Int32.not_le] at hU; exact hU), rfl⟩) (by unfold zN; omega)
    ⟨rfl, fun i hi => by omega⟩
  obtain ⟨k, k1, k2, k3, k4⟩ := hr2
  refine ⟨k, k1, k2, k3, ?_⟩
  rw [← k4, ← hr]
  have e0 : z_I σ p 5 = s_fol f len 0 := h5
  simp only [f_X3_enqueue, f_X3_enqueue_12, ↓zl_eq, ↓zb_eq, ↓zb2_eq, ↓zc_some, ↓zc_none, ↓zb_pre, ↓zb2_pre, ↓zc_pre, ↓zex_eq, ↓reduceIte, Option.isSome_some, Option.isSome_none, Option.getD_some, n32_lit, n32_nn2, hp, e0]
end CLASS
