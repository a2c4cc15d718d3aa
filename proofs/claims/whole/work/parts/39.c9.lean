/-! QUEUES -/
theorem s_prec_i {g : zG} {m m' : Nat} : s_prec g m m' ↔ ((g (242 + 5 * m' + 1)).toInt < (g (242 + 5 * m + 1)).toInt ∨ ((g (242 + 5 * m + 1)).toInt = (g (242 + 5 * m' + 1)).toInt ∧ m < m')) := by
  unfold s_prec
  rw [Int32.lt_iff_toInt_lt, Int32.toInt_inj]
theorem s_nx_min (g : zG) (x b : Int32) : ∀ k, k < 2147483648 →
    (s_nx g x b k = nn ∧ ∀ m, m < k → (s_wt g x m && s_bh g b m) = false) ∨ ∃ c, c < k ∧ s_nx g x b k = n32 c ∧ (s_wt g x c && s_bh g b c) = true ∧ ∀ m, m < k → (s_wt g x m && s_bh g b m) = true → m = c ∨ s_prec g c m := by
  intro k
  induction k with
  | zero => intro _; exact Or.inl ⟨rfl, fun m hm => by omega⟩
  | succ k ih =>
    intro hk
    have e : s_nx g x b (k + 1) = if (s_wt g x k && s_bh g b k && (decide (s_nx g x b k = nn) || decide (g (242 + 5 * (s_nx g x b k).toNatClampNeg + 1) < g (242 + 5 * k + 1)))) = true then n32 k else s_nx g x b k := rfl
    cases hc : (s_wt g x k && s_bh g b k) with
    | false =>
      rw [hc] at e
      simp only [Bool.false_and, Bool.false_eq_true, if_false] at e
      rw [e]
      rcases ih (by omega) with ⟨h1, h2⟩ | ⟨c, h1, h2, h3, h4⟩
      · refine Or.inl ⟨h1, fun m hm => ?_⟩
        by_cases hmk : m = k
        · subst hmk; exact hc
        · exact h2 m (by omega)
      · refine Or.inr ⟨c, by omega, h2, h3, fun m hm hw => ?_⟩
        by_cases hmk : m = k
        · subst hmk; rw [hc] at hw; cases hw
        · exact h4 m (by omega) hw
    | true =>
      rw [hc] at e
      rcases ih (by omega) with ⟨h1, h2⟩ | ⟨c, h1, h2, h3, h4⟩
      · rw [h1] at e
        simp only [decide_true, Bool.true_or, Bool.and_self, if_true] at e
        refine Or.inr ⟨k, by omega, e, hc, fun m hm hw => ?_⟩
        by_cases hmk : m = k
        · exact Or.inl hmk
        · rw [h2 m (by omega)] at hw; cases hw
      · rw [h2, n32_toNat (by omega)] at e
        have hn : (n32 c = nn) = False := propext (n32_ne (by omega))
        simp only [hn, decide_false, Bool.false_or, Bool.true_and, decide_eq_true_eq] at e
        by_cases hlt : g (242 + 5 * c + 1) < g (242 + 5 * k + 1)
        · rw [if_pos hlt] at e
          refine Or.inr ⟨k, by omega, e, hc, fun m hm hw => ?_⟩
          by_cases hmk : m = k
          · exact Or.inl hmk
          · right
            rw [Int32.lt_iff_toInt_lt] at hlt
            rw [s_prec_i]
            rcases h4 m (by omega) hw with hmc | hp
            · subst hmc; exact Or.inl hlt
            · rw [s_prec_i] at hp; left; omega
        · rw [if_neg hlt] at e
          refine Or.inr ⟨c, by omega, e, h3, fun m hm hw => ?_⟩
          by_cases hmk : m = k
          · subst hmk
            right
            rw [Int32.lt_iff_toInt_lt] at hlt
            rw [s_prec_i]
            omega
          · exact h4 m (by omega) hw
theorem s_prec_asym {g : zG} {m m' : Nat} (h : s_prec g m m') (h2 : s_prec g m' m) : False := by
  rw [s_prec_i] at h h2; omega
/-- the first of a queue -/
theorem s_next0 {g : zG} {x : Nat} {f : Nat → Nat} (hq : s_qok g x f) (h5 : s_nat g 5 ≤ 100) : s_next g (n32 x) nn = if 0 < s_len g x then n32 (f 0) else nn := by
  obtain ⟨q1, q2, q3⟩ := hq
  have bh : ∀ m, s_bh g nn m = true := s_bh_nn g
  have e : s_next g (n32 x) nn = s_nx g (n32 x) nn (s_nat g 5) := rfl
  rw [e]
  rcases s_nx_min g (n32 x) nn (s_nat g 5) (by omega) with ⟨h1, h2⟩ | ⟨c, h1, h2, h3, h4⟩
  · by_cases hl : 0 < s_len g x
    · have := h2 (f 0) (q1 0 hl).1
      rw [(q1 0 hl).2, bh] at this; cases this
    · rw [if_neg hl]; exact h1
  · rw [bh, Bool.and_true] at h3
    obtain ⟨j, hj, hjc⟩ := q3 c h1 h3
    have hl : 0 < s_len g x := by omega
    rw [if_pos hl, h2]
    congr 1
    rcases h4 (f 0) (q1 0 hl).1 (by rw [(q1 0 hl).2, bh]; rfl) with h | h
    · exact h.symm
    · rcases Nat.eq_zero_or_pos j with hj0 | hj0
      · subst hj0; exact hjc.symm
      · have := q2 0 j hj0 hj
        rw [hjc] at this
        exact (s_prec_asym this h).elim
/-- the next one of a queue -/
theorem s_next1 {g : zG} {x : Nat} {f : Nat → Nat} (hq : s_qok g x f) (h5 : s_nat g 5 ≤ 100) {j : Nat} (hj : j < s_len g x) : s_next g (n32 x) (n32 (f j)) = if j + 1 < s_len g x then n32 (f (j + 1)) else nn := by
  obtain ⟨q1, q2, q3⟩ := hq
  have hfj := (q1 j hj).1
  have bh : ∀ m, m < s_nat g 5 → (s_bh g (n32 (f j)) m = true ↔ s_prec g (f j) m) := by
    intro m hm
    rw [s_bh_n g (by omega) m (by omega)]
    unfold s_prec
    simp only [Bool.or_eq_true, Bool.and_eq_true, decide_eq_true_eq]
    constructor
    · rintro (h | h)
      · exact Or.inl h
      · exact Or.inr ⟨h.1.symm, h.2⟩
    · rintro (h | h)
      · exact Or.inl h
      · exact Or.inr ⟨h.1.symm, h.2⟩
  have e : s_next g (n32 x) (n32 (f j)) = s_nx g (n32 x) (n32 (f j)) (s_nat g 5) := rfl
  rw [e]
  rcases s_nx_min g (n32 x) (n32 (f j)) (s_nat g 5) (by omega) with ⟨h1, h2⟩ | ⟨c, h1, h2, h3, h4⟩
  · by_cases hl : j + 1 < s_len g x
    · have h6 := h2 (f (j + 1)) (q1 _ hl).1
      have h7 := (bh (f (j + 1)) (q1 _ hl).1).2 (q2 j (j + 1) (by omega) hl)
      rw [(q1 _ hl).2, h7] at h6; cases h6
    · rw [if_neg hl]; exact h1
  · simp only [Bool.and_eq_true] at h3 h4
    obtain ⟨i, hi, hic⟩ := q3 c h1 h3.1
    have hpc := (bh c h1).1 h3.2
    have hij : j < i := by
      rcases Nat.lt_or_ge j i with h | h
      · exact h
      · rcases Nat.eq_or_lt_of_le h with h' | h'
        · subst h'; rw [hic] at hpc; rw [s_prec_i] at hpc; omega
        · have := q2 i j h' hj
          rw [hic] at this
          exact (s_prec_asym this hpc).elim
    have hl : j + 1 < s_len g x := by omega
    rw [if_pos hl, h2]
    congr 1
    rcases h4 (f (j + 1)) (q1 _ hl).1 ⟨(q1 _ hl).2, (bh _ (q1 _ hl).1).2 (q2 j (j + 1) (by omega) hl)⟩ with h | h
    · exact h.symm
    · rcases Nat.eq_or_lt_of_le (show j + 1 ≤ i by omega) with h' | h'
      · subst h'; exact hic.symm
      · have := q2 (j + 1) i h' hi
        rw [hic] at this
        exact (s_prec_asym this h).elim
theorem s_cnt_upd {P P' : Nat → Bool} {m : Nat} (hP : P m = true) (hP' : P' m = false) (he : ∀ k, k ≠ m → P' k = P k) : ∀ k, (k ≤ m → s_cnt P' k = s_cnt P k) ∧ (m < k → s_cnt P' k + 1 = s_cnt P k)
  | 0 => ⟨fun _ => rfl, fun h => by omega⟩
  | k + 1 => by
    obtain ⟨h1, h2⟩ := s_cnt_upd hP hP' he k
    have e1 : s_cnt P' (k + 1) = s_cnt P' k + (if P' k = true then 1 else 0) := rfl
    have e2 : s_cnt P (k + 1) = s_cnt P k + (if P k = true then 1 else 0) := rfl
    refine ⟨fun h => ?_, fun h => ?_⟩
    · rw [e1, e2, h1 (by omega), he k (by omega)]
    · rw [e1, e2]
      by_cases hk : k = m
      · subst hk
        rw [hP, hP', h1 (Nat.le_refl _)]
        simp
      · rw [he k hk]
        have := h2 (by omega)
        omega
/-- the array behind a message's wait -/
def s_wset (g : zG) (m : Nat) (v : Int32) : zG := gu g (242 + 5 * m + 4) v
theorem s_wset_wt {g : zG} {m : Nat} {v x : Int32} (hv : v ≠ nn) (k : Nat) : s_wt (s_wset g m v) x k = if k = m then false else s_wt g x k := by
  unfold s_wt s_wset
  by_cases hk : k = m
  · subst hk
    rw [if_pos rfl, gu_same]
    have : (v = nn) = False := eq_false hv
    simp only [this, decide_false, Bool.and_false]
  · rw [if_neg hk, gu_ne _ _ (by omega), gu_ne _ _ (by omega)]
theorem s_wset_5 {g : zG} {m : Nat} {v : Int32} : s_nat (s_wset g m v) 5 = s_nat g 5 := by
  unfold s_nat s_wset; rw [gu_ne _ _ (by omega)]
theorem s_wset_prec {g : zG} {m : Nat} {v : Int32} (i j : Nat) : s_prec (s_wset g m v) i j ↔ s_prec g i j := by
  unfold s_prec s_wset
  rw [gu_ne _ _ (by omega), gu_ne _ _ (by omega)]
/-- a queue whose first one is sent -/
theorem s_qok_sent {g : zG} {x : Nat} {f : Nat → Nat} (hq : s_qok g x f) (hl : 0 < s_len g x) {v : Int32} (hv : v ≠ nn) :
    s_len (s_wset g (f 0) v) x + 1 = s_len g x ∧ s_qok (s_wset g (f 0) v) x (fun j => f (j + 1)) := by
  obtain ⟨q1, q2, q3⟩ := hq
  have el : s_len (s_wset g (f 0) v) x + 1 = s_len g x := by
    unfold s_len
    rw [s_wset_5]
    exact (s_cnt_upd (m := f 0) (q1 0 hl).2 (by rw [s_wset_wt hv, if_pos rfl]) (fun k hk => by rw [s_wset_wt hv, if_neg hk]) _).2 (q1 0 hl).1
  refine ⟨el, ?_, ?_, ?_⟩
  · intro j hj
    have h1 := q1 (j + 1) (by omega)
    rw [s_wset_5, s_wset_wt hv]
    refine ⟨h1.1, ?_⟩
    have h2 := q2 0 (j + 1) (by omega) (by omega)
    rw [if_neg]
    · exact h1.2
    · intro he
      have he' : f (j + 1) = f 0 := he
      rw [he', s_prec_i] at h2
      omega
  · intro i j hij hj
    rw [s_wset_prec]
    exact q2 (i + 1) (j + 1) (by omega) (by omega)
  · intro m hm hw
    rw [s_wset_5] at hm
    rw [s_wset_wt hv] at hw
    by_cases hm0 : m = f 0
    · rw [if_pos hm0] at hw; cases hw
    · rw [if_neg hm0] at hw
      obtain ⟨j, hj, hjm⟩ := q3 m hm hw
      rcases j with _ | j
      · exact absurd hjm.symm hm0
      · exact ⟨j, by omega, hjm⟩
theorem s_qok_other {g : zG} {x : Nat} {f : Nat → Nat} {m : Nat} {v : Int32} (hq : s_qok g x f) (hv : v ≠ nn) (hx : s_wt g (n32 x) m = false) :
    s_len (s_wset g m v) x = s_len g x ∧ s_qok (s_wset g m v) x f := by
  obtain ⟨q1, q2, q3⟩ := hq
  have ew : ∀ k, s_wt (s_wset g m v) (n32 x) k = s_wt g (n32 x) k := by
    intro k
    rw [s_wset_wt hv]
    by_cases hk : k = m
    · subst hk; rw [if_pos rfl, hx]
    · rw [if_neg hk]
  have el : s_len (s_wset g m v) x = s_len g x := by
    unfold s_len
    rw [s_wset_5]
    exact s_cnt_congr _ (fun k _ => ew k)
  refine ⟨el, ?_, ?_, ?_⟩
  · intro j hj
    rw [el] at hj
    rw [s_wset_5, ew]
    exact q1 j hj
  · intro i j hij hj
    rw [el] at hj
    rw [s_wset_prec]
    exact q2 i j hij hj
  · intro k hk hw
    rw [s_wset_5] at hk
    rw [ew] at hw
    rw [el]
    exact q3 k hk hw
theorem s_most_nn (g : zG) : ∀ k, 0 ≤ (s_most g k).toInt
  | 0 => by unfold s_most; rw [n32_toInt (by omega)]; omega
  | k + 1 => by
    have := s_most_nn g k
    unfold s_most
    split
    · exact this
    · rename_i h
      rw [Int32.le_iff_toInt_le] at h
      omega
theorem s_most_upd {g : zG} {m : Nat} (hm : g (242 + 5 * m + 4) = nn) (v : Int32) : ∀ k, (k ≤ m → s_most (s_wset g m v) k = s_most g k) ∧ (m < k → s_most (s_wset g m v) k = if s_most g k < v then v else s_most g k)
  | 0 => ⟨fun _ => rfl, fun h => by omega⟩
  | k + 1 => by
    obtain ⟨h1, h2⟩ := s_most_upd hm v k
    have n0 := s_most_nn g k
    have e1 : s_most (s_wset g m v) (k + 1) = if s_wset g m v (242 + 5 * k + 4) ≤ s_most (s_wset g m v) k then s_most (s_wset g m v) k else s_wset g m v (242 + 5 * k + 4) := rfl
    have e2 : s_most g (k + 1) = if g (242 + 5 * k + 4) ≤ s_most g k then s_most g k else g (242 + 5 * k + 4) := rfl
    refine ⟨fun h => ?_, fun h => ?_⟩
    · rw [e1, e2, h1 (by omega)]
      have : s_wset g m v (242 + 5 * k + 4) = g (242 + 5 * k + 4) := gu_ne _ _ (by omega)
      rw [this]
    · by_cases hk : k = m
      · subst hk
        have e3 : s_wset g k v (242 + 5 * k + 4) = v := gu_same _ _ _
        rw [e1, e2, h1 (Nat.le_refl _), e3, hm]
        have e4 : nn ≤ s_most g k := by
          rw [Int32.le_iff_toInt_le]
          have : nn.toInt = -1 := rfl
          omega
        rw [if_pos e4]
        by_cases hv : v ≤ s_most g k
        · rw [if_pos hv, if_neg (by rw [Int32.not_lt]; exact hv)]
        · rw [if_neg hv, if_pos (by rw [Int32.not_le] at hv; exact hv)]
      · have e3 : s_wset g m v (242 + 5 * k + 4) = g (242 + 5 * k + 4) := gu_ne _ _ (by omega)
        rw [e1, e2, h2 (by omega), e3]
        generalize g (242 + 5 * k + 4) = w
        generalize s_most g k = M
        simp only [Int32.le_iff_toInt_le, Int32.lt_iff_toInt_lt]
        by_cases c1 : M.toInt < v.toInt <;> by_cases c2 : w.toInt ≤ M.toInt <;> simp only [c1, c2, if_true, if_false]
        · rw [if_pos (by omega)]
        · by_cases c3 : w.toInt ≤ v.toInt
          · rw [if_pos c3]
            by_cases c4 : w.toInt < v.toInt
            · rw [if_pos c4]
            · rw [if_neg c4]
              have : v.toInt = w.toInt := by omega
              exact Int32.toInt_inj.1 this
          · rw [if_neg c3, if_neg (by omega)]
        · rw [if_neg (by omega)]
theorem s_sumw_upd {g : zG} {m : Nat} (hm : g (242 + 5 * m + 4) = nn) {v : Int32} (hv : v ≠ nn) : ∀ k, (k ≤ m → s_sumw (s_wset g m v) k = s_sumw g k) ∧ (m < k → s_sumw (s_wset g m v) k = s_sumw g k + v.toInt64)
  | 0 => ⟨fun _ => rfl, fun h => by omega⟩
  | k + 1 => by
    obtain ⟨h1, h2⟩ := s_sumw_upd hm hv k
    have e1 : s_sumw (s_wset g m v) (k + 1) = s_sumw (s_wset g m v) k + (if s_wset g m v (242 + 5 * k + 4) = nn then 0 else (s_wset g m v (242 + 5 * k + 4)).toInt64) := rfl
    have e2 : s_sumw g (k + 1) = s_sumw g k + (if g (242 + 5 * k + 4) = nn then 0 else (g (242 + 5 * k + 4)).toInt64) := rfl
    refine ⟨fun h => ?_, fun h => ?_⟩
    · have e3 : s_wset g m v (242 + 5 * k + 4) = g (242 + 5 * k + 4) := gu_ne _ _ (by omega)
      rw [e1, e2, h1 (by omega), e3]
    · by_cases hk : k = m
      · subst hk
        have e3 : s_wset g k v (242 + 5 * k + 4) = v := gu_same _ _ _
        rw [e1, e2, h1 (Nat.le_refl _), e3, hm, if_neg hv, if_pos rfl, Int64.add_zero]
      · have e3 : s_wset g m v (242 + 5 * k + 4) = g (242 + 5 * k + 4) := gu_ne _ _ (by omega)
        rw [e1, e2, h2 (by omega), e3]
        rw [Int64.add_assoc, Int64.add_assoc, Int64.add_comm v.toInt64]
