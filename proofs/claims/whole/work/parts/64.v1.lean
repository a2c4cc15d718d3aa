/-! WHAT IS READ OFF A LINE: walks over the stations in the order of their addresses -/
def s_fA {β : Type} (P : Nat → Bool) (F : Nat → β → β) (b : β) : Nat → β
  | 0 => b
  | k + 1 => if P k = true then F k (s_fA P F b k) else s_fA P F b k
def s_fI {β : Type} (ad : Nat → Nat) (F : Nat → β → β) (b : β) : Nat → β
  | 0 => b
  | j + 1 => F (ad j) (s_fI ad F b j)
theorem s_fold {β : Type} {P : Nat → Bool} {F : Nat → β → β} {b : β} {ad : Nat → Nat} {n : Nat} (h1 : ∀ i, i < n → ad i < 32 ∧ P (ad i) = true) (h2 : ∀ i j, i < j → j < n → ad i < ad j) (h3 : ∀ x, x < 32 → P x = true → ∃ i, i < n ∧ ad i = x) : s_fA P F b 32 = s_fI ad F b n := by
  have key : ∀ k, k ≤ 32 → ∃ j, j ≤ n ∧ s_fA P F b k = s_fI ad F b j ∧ (∀ i, i < j → ad i < k) ∧ ∀ i, j ≤ i → i < n → k ≤ ad i := by
    intro k
    induction k with
    | zero => intro _; exact ⟨0, Nat.zero_le _, rfl, fun i hi => by omega, fun i _ _ => Nat.zero_le _⟩
    | succ k ih =>
      intro hk
      obtain ⟨j, hj, e, a1, a2⟩ := ih (by omega)
      have es : s_fA P F b (k + 1) = if P k = true then F k (s_fA P F b k) else s_fA P F b k := rfl
      by_cases hp : P k = true
      · obtain ⟨i, hi, hik⟩ := h3 k (by omega) hp
        have hij : i = j := by
          rcases Nat.lt_trichotomy i j with h | h | h
          · have := a1 i h; omega
          · exact h
          · have := h2 j i h hi
            have := a2 j (Nat.le_refl _) (by omega)
            omega
        subst hij
        refine ⟨i + 1, by omega, ?_, ?_, ?_⟩
        · rw [es, if_pos hp, e]
          show F k _ = F (ad i) _
          rw [hik]
        · intro i' hi'
          rcases Nat.lt_or_ge i' i with h | h
          · have := a1 i' h; omega
          · have : i' = i := by omega
            subst this; omega
        · intro i' h h'
          have := h2 i i' (by omega) h'
          omega
      · refine ⟨j, hj, by rw [es, if_neg hp, e], fun i hi => by have := a1 i hi; omega, fun i h h' => ?_⟩
        have h5 := a2 i h h'
        rcases Nat.lt_or_ge k (ad i) with h4 | h4
        · omega
        · have e6 : ad i = k := by omega
          have h7 := (h1 i h').2
          rw [e6] at h7
          exact absurd h7 hp
  obtain ⟨j, hj, e, a1, a2⟩ := key 32 (Nat.le_refl _)
  have : j = n := by
    rcases Nat.lt_or_ge j n with h | h
    · have := a2 j (Nat.le_refl _) h
      have := (h1 j h).1
      omega
    · omega
  rw [e, this]
def s_is (g : zG) (x : Nat) : Bool := decide (g (18 + 7 * x + 0) = n32 1)
theorem s_fold_A {β : Type} {F : Nat → β → β} {b : β} {ad : Nat → Nat} {n : Nat} {g : zG} (H : qA ad n g) : s_fA (s_is g) F b 32 = s_fI ad F b n := by
  refine s_fold (fun i hi => ⟨(H.2.1 i hi).1, ?_⟩) H.2.2.1 (fun x hx hp => ?_)
  · unfold s_is; rw [(H.2.1 i hi).2]; rfl
  · unfold s_is at hp
    rw [decide_eq_true_eq] at hp
    rcases H.2.2.2 x hx with h | h
    · rw [h] at hp; exact absurd hp (by decide)
    · exact h.2
def s_rc (P : Nat → Bool) (x c : Nat) : Nat := c + if P x = true then 1 else 0
theorem s_cnt_fA {P Q : Nat → Bool} (h : ∀ x, P x = true → Q x = true) : ∀ k, s_cnt P k = s_fA Q (s_rc P) 0 k
  | 0 => rfl
  | k + 1 => by
    have ih := s_cnt_fA h k
    unfold s_cnt s_fA
    rw [ih]
    by_cases hq : Q k = true
    · rw [if_pos hq]; rfl
    · rw [if_neg hq, if_neg (fun hp => hq (h k hp))]
      rfl
def s_one (_ c : Nat) : Nat := c + 1
theorem s_fI_one (ad : Nat → Nat) : ∀ n, s_fI ad s_one 0 n = n
  | 0 => rfl
  | n + 1 => by show s_fI ad s_one 0 n + 1 = n + 1; rw [s_fI_one ad n]
theorem s_sum_n {ad : Nat → Nat} {n : Nat} {g : zG} (H : qA ad n g) : s_sum (fun x => g (18 + 7 * x + 0)) 32 = n32 n := by
  have key : ∀ k, k ≤ 32 → s_sum (fun x => g (18 + 7 * x + 0)) k = n32 (s_fA (s_is g) s_one 0 k) := by
    intro k
    induction k with
    | zero => intro _; rfl
    | succ k ih =>
      intro hk
      have e1 : s_sum (fun x => g (18 + 7 * x + 0)) (k + 1) = s_sum (fun x => g (18 + 7 * x + 0)) k + g (18 + 7 * k + 0) := rfl
      have e2 : s_fA (s_is g) s_one 0 (k + 1) = if s_is g k = true then s_fA (s_is g) s_one 0 k + 1 else s_fA (s_is g) s_one 0 k := rfl
      rw [e1, e2, ih (by omega)]
      rcases H.2.2.2 k (by omega) with h | h
      · have e3 : s_is g k = false := by unfold s_is; rw [h]; rfl
        rw [h, e3, n32_add]; rfl
      · have e3 : s_is g k = true := by unfold s_is; rw [h.1]; rfl
        rw [h.1, e3, n32_add]; rfl
  rw [key 32 (Nat.le_refl _), s_fold_A H, s_fI_one]
theorem nn10 : ¬ n32 1 = n32 0 := by decide
theorem nn01 : ¬ n32 0 = n32 1 := by decide
theorem d01 : decide (n32 0 = n32 1) = false := by decide
theorem d11 : decide (n32 1 = n32 1) = true := by decide
theorem n01 : (n32 0 = n32 1) = False := eq_false (by decide)
theorem s_ring_is {g : zG} {x : Nat} (h : s_ring g x = true) : s_is g x = true := by
  unfold s_ring at h
  unfold s_is
  simp only [Bool.and_eq_true] at h
  exact h.1.1
section CLASS
variable {σ : zSt} {a n : Nat} {pl ad : Nat → Nat} {qu : Nat → Nat → Nat} {g : zG}
theorem c_qA (h : zC0 σ a pl ad qu n g) : qA ad n g := h.2.2.2.2.2.2.2.1
theorem s_ring_2 (H : s_sta g) {x : Nat} (hx : x < 32) (hz : g (18 + 7 * x + 0) = n32 1) : s_ring g x = decide (g (18 + 7 * x + 2) = n32 1) := by
  have st := H x hx hz
  unfold s_ring
  rcases st.2.1 with r | r
  · rw [r, d01, Bool.and_false]
  · rw [r, st.2.2.1 r, hz]; rfl
theorem c_ringSize (h : zCs σ a pl ad qu n g) : f_X2_ringSize σ a = some (n32 (s_cnt (s_ring g) 32)) := by
  have h0 := zC0_of h
  have hn := c_n8 h0
  have e5 := (c_L h0).1
  rw [s_cnt_fA (Q := s_is g) (fun x hx => s_ring_is hx), s_fold_A (c_qA h0)]
  unfold f_X2_ringSize f_X2_ringSize_4
  refine zloop_go (fun k => (n32 (s_fI ad (s_rc (s_ring g)) 0 k), n32 k)) _ n (fun k hk => ?_) ?_ (by unfold zN; omega)
  · show b_X2_ringSize_4 σ a (n32 (s_fI ad (s_rc (s_ring g)) 0 k)) (n32 k) = some (.inl (n32 (s_fI ad (s_rc (s_ring g)) 0 k + if s_ring g (ad k) = true then 1 else 0), n32 (k + 1)))
    have F := c_in h0 hk
    have ob := c_ob h0 hk
    have e2 := (c_S h0 hk).2.2.1
    have st := h.2.2.2.2 (ad k) (c_ad h0 hk).1 (c_ad h0 hk).2
    have er := s_ring_2 h.2.2.2.2 (c_ad h0 hk).1 (c_ad h0 hk).2
    simp (disch := omega) only [b_X2_ringSize_4, f_X2_ringSize_32, ↓zl_eq, ↓zb_eq, ↓zb2_eq, ↓zc_some, ↓zc_none, ↓zb_pre, ↓zb2_pre, ↓zc_pre, ↓zex_eq, ↓reduceIte, Option.isSome_some, Option.isSome_none, Option.getD_some, n32_lit, h.1.1, e5, n32_le, F, ob, e2, n32_add]
    rw [if_neg (by omega), er]
    rcases st.2.1 with r | r
    · rw [r, if_pos rfl, d01]; rfl
    · rw [r, if_neg nn10, d11]; rfl
  · show b_X2_ringSize_4 σ a _ (n32 n) = _
    simp (disch := omega) only [b_X2_ringSize_4, ↓zl_eq, ↓zb_eq, ↓zb2_eq, ↓zc_some, ↓zc_none, ↓zb_pre, ↓zb2_pre, ↓zc_pre, ↓zex_eq, ↓reduceIte, Option.isSome_some, Option.isSome_none, Option.getD_some, n32_lit, h.1.1, e5, n32_le, Nat.le_refl]
def s_cok (g : zG) (x : Nat) (b : Bool) : Bool := b && (decide (g (18 + 7 * x + 1) = n32 0) || decide (g (18 + 7 * x + 2) = n32 1))
theorem s_compl_fA (H : qA ad n g) : ∀ k, k ≤ 32 → s_compl g k = s_fA (s_is g) (s_cok g) true k
  | 0, _ => rfl
  | k + 1, hk => by
    have ih := s_compl_fA H k (by omega)
    unfold s_compl s_fA
    rw [ih]
    rcases H.2.2.2 k (by omega) with h | h
    · have e3 : s_is g k = false := by unfold s_is; rw [h]; rfl
      rw [e3, h]
      simp
    · have e3 : s_is g k = true := by unfold s_is; rw [h.1]; rfl
      rw [e3, h.1]
      have e4 : decide (n32 1 = n32 0) = false := by decide
      rw [e4, Bool.false_or]; rfl
theorem s_cok_f (n k : Nat) (h : s_fI ad (s_cok g) true k = false) : s_fI ad (s_cok g) true (k + n) = false := by
  induction n with
  | zero => exact h
  | succ n ih =>
    show s_cok g (ad (k + n)) (s_fI ad (s_cok g) true (k + n)) = false
    rw [ih]; rfl
theorem c_isComplete (h : zCs σ a pl ad qu n g) : f_X2_isComplete σ a = some (bi (s_compl g 32)) := by
  have h0 := zC0_of h
  have hn := c_n8 h0
  have e5 := (c_L h0).1
  rw [s_compl_fA (c_qA h0) 32 (Nat.le_refl _), s_fold_A (c_qA h0)]
  unfold f_X2_isComplete f_X2_isComplete_2
  obtain ⟨r, hr, hr2⟩ := zloop_inv (N := zN) (s := (0 : Int32)) (body := fun (t : Int32) => b_X2_isComplete_2 σ a t) (Inv := fun k s => s = n32 k ∧ s_fI ad (s_cok g) true k = true)
    (Post := fun r => r = bi (s_fI ad (s_cok g) true n)) n (fun k s hk hi => by
      obtain ⟨rfl, hi⟩ := hi
      by_cases hkn : k = n
      · subst hkn
        refine Or.inl ⟨bi true, ?_, by rw [hi]⟩
        show b_X2_isComplete_2 σ a (n32 k) = _
        simp (disch := omega) only [b_X2_isComplete_2, ↓zl_eq, ↓zb_eq, ↓zb2_eq, ↓zc_some, ↓zc_none, ↓zb_pre, ↓zb2_pre, ↓zc_pre, ↓zex_eq, ↓reduceIte, Option.isSome_some, Option.isSome_none, Option.getD_some, n32_lit, h.1.1, e5, n32_le, Nat.le_refl]
        rfl
      · have hk2 : k < n := by omega
        have F := c_in h0 hk2
        have ob := c_ob h0 hk2
        have e1 := (c_S h0 hk2).2.1
        have e2 := (c_S h0 hk2).2.2.1
        have st := h.2.2.2.2 (ad k) (c_ad h0 hk2).1 (c_ad h0 hk2).2
        have ek : s_fI ad (s_cok g) true (k + 1) = (true && (decide (g (18 + 7 * ad k + 1) = n32 0) || decide (g (18 + 7 * ad k + 2) = n32 1))) := by
          show s_cok g (ad k) (s_fI ad (s_cok g) true k) = _
          rw [hi]; rfl
        have E : b_X2_isComplete_2 σ a (n32 k) = if g (18 + 7 * ad k + 1) = n32 0 then some (.inl (n32 (k + 1))) else if g (18 + 7 * ad k + 2) = n32 0 then some (.inr (n32 0)) else some (.inl (n32 (k + 1))) := by
          simp (disch := omega) only [b_X2_isComplete_2, f_X2_isComplete_36, ↓zl_eq, ↓zb_eq, ↓zb2_eq, ↓zc_some, ↓zc_none, ↓zb_pre, ↓zb2_pre, ↓zc_pre, ↓zex_eq, ↓reduceIte, Option.isSome_some, Option.isSome_none, Option.getD_some, n32_lit, h.1.1, e5, n32_le, F, ob, e1, e2, n32_add]
          rw [if_neg (by omega)]
        by_cases h1 : g (18 + 7 * ad k + 1) = n32 0
        · rw [if_pos h1] at E
          refine Or.inr ⟨hk2, n32 (k + 1), E, rfl, ?_⟩
          rw [ek, h1]; rfl
        · rw [if_neg h1] at E
          rcases st.2.1 with r | r
          · rw [r, if_pos rfl] at E
            refine Or.inl ⟨n32 0, E, ?_⟩
            have e9 : s_fI ad (s_cok g) true (k + 1) = false := by
              rw [ek, r, d01, decide_eq_false h1]; rfl
            have := s_cok_f (n - (k + 1)) (k + 1) e9
            rw [show k + 1 + (n - (k + 1)) = n by omega] at this
            rw [this]; rfl
          · rw [r, if_neg nn10] at E
            refine Or.inr ⟨hk2, n32 (k + 1), E, rfl, ?_⟩
            rw [ek, r, d11, Bool.or_true]; rfl) (by unfold zN; omega) ⟨rfl, rfl⟩
  rw [hr, hr2]
/-- how many messages wait at stations that are on -/
def s_wtn (g : zG) : Nat → Nat
  | 0 => 0
  | k + 1 => s_wtn g k + (if s_isOn g k = true then s_len g k else 0)
theorem s_wtn_le (g : zG) (h5 : s_nat g 5 ≤ 100) : ∀ k, s_wtn g k ≤ 100 * k
  | 0 => Nat.le_refl _
  | k + 1 => by
    have := s_wtn_le g h5 k
    have h2 : s_len g k ≤ s_nat g 5 := s_len_le g k
    unfold s_wtn
    split <;> omega
theorem s_waiting_n (g : zG) : ∀ k, s_waiting g (s_nat g 5) k = n32 (s_wtn g k)
  | 0 => rfl
  | k + 1 => by
    unfold s_waiting s_wtn
    rw [s_waiting_n g k]
    split
    · rw [n32_add]; rfl
    · rw [n32_add]
def s_wk (g : zG) (x c : Nat) : Nat := c + if g (18 + 7 * x + 1) = n32 1 then s_len g x else 0
theorem s_wtn_fA (g : zG) : ∀ k, s_wtn g k = s_fA (s_is g) (s_wk g) 0 k
  | 0 => rfl
  | k + 1 => by
    unfold s_wtn s_fA
    rw [s_wtn_fA g k]
    by_cases hq : s_is g k = true
    · rw [if_pos hq]
      unfold s_is at hq
      rw [decide_eq_true_eq] at hq
      unfold s_wk s_isOn
      rw [hq, d11, Bool.true_and]
      simp only [decide_eq_true_eq]
    · rw [if_neg hq]
      have : s_isOn g k = false := by
        unfold s_is at hq
        unfold s_isOn
        rw [Bool.not_eq_true] at hq
        rw [hq, Bool.false_and]
      rw [this]; rfl
theorem c_Q (h : zC0 σ a pl ad qu n g) {i : Nat} (hi : i < n) : z_I σ (pl i) 6 = n32 (s_len g (ad i)) ∧ z_I σ (pl i) 5 = (if 0 < s_len g (ad i) then n32 (qu (ad i) 0) else nn) ∧
  (∀ j, j < s_len g (ad i) → z_I σ (a + 4) (6 * qu (ad i) j + 5) = if j + 1 < s_len g (ad i) then n32 (qu (ad i) (j + 1)) else nn) ∧ s_qok g (ad i) (qu (ad i)) := h.2.2.2.2.2.2.2.2.2 i hi
theorem c_isWaitedAt (h : zCs σ a pl ad qu n g) (h5 : s_nat g 5 ≤ 100) : f_X2_isWaitedAt σ a = some (bi (decide (0 < s_wtn g 32))) := by
  have h0 := zC0_of h
  have hn := c_n8 h0
  have e5 := (c_L h0).1
  rw [s_wtn_fA, s_fold_A (c_qA h0)]
  unfold f_X2_isWaitedAt f_X2_isWaitedAt_2
  have mono : ∀ d k, s_fI ad (s_wk g) 0 k ≤ s_fI ad (s_wk g) 0 (k + d) := by
    intro d k
    induction d with
    | zero => exact Nat.le_refl _
    | succ d ih =>
      refine Nat.le_trans ih ?_
      exact Nat.le_add_right _ _
  obtain ⟨r, hr, hr2⟩ := zloop_inv (N := zN) (s := (0 : Int32)) (body := fun (t : Int32) => b_X2_isWaitedAt_2 σ a t) (Inv := fun k s => s = n32 k ∧ s_fI ad (s_wk g) 0 k = 0)
    (Post := fun r => r = bi (decide (0 < s_fI ad (s_wk g) 0 n))) n (fun k s hk hi => by
      obtain ⟨rfl, hi⟩ := hi
      by_cases hkn : k = n
      · subst hkn
        refine Or.inl ⟨bi false, ?_, by rw [hi]; rfl⟩
        show b_X2_isWaitedAt_2 σ a (n32 k) = _
        simp (disch := omega) only [b_X2_isWaitedAt_2, ↓zl_eq, ↓zb_eq, ↓zb2_eq, ↓zc_some, ↓zc_none, ↓zb_pre, ↓zb2_pre, ↓zc_pre, ↓zex_eq, ↓reduceIte, Option.isSome_some, Option.isSome_none, Option.getD_some, n32_lit, h.1.1, e5, n32_le, Nat.le_refl]
        rfl
      · have hk2 : k < n := by omega
        have F := c_in h0 hk2
        have ob := c_ob h0 hk2
        have e1 := (c_S h0 hk2).2.1
        have e6 := (c_Q h0 hk2).1
        have l5 : s_len g (ad k) ≤ s_nat g 5 := s_len_le g (ad k)
        have st := h.2.2.2.2 (ad k) (c_ad h0 hk2).1 (c_ad h0 hk2).2
        have ek : s_fI ad (s_wk g) 0 (k + 1) = 0 + (if g (18 + 7 * ad k + 1) = n32 1 then s_len g (ad k) else 0) := by
          show s_wk g (ad k) (s_fI ad (s_wk g) 0 k) = _
          rw [hi]; rfl
        have E : b_X2_isWaitedAt_2 σ a (n32 k) = if g (18 + 7 * ad k + 1) = n32 0 then some (.inl (n32 (k + 1))) else if s_len g (ad k) ≤ 0 then some (.inl (n32 (k + 1))) else some (.inr (n32 1)) := by
          simp (disch := omega) only [b_X2_isWaitedAt_2, f_X2_isWaitedAt_36, ↓zl_eq, ↓zb_eq, ↓zb2_eq, ↓zc_some, ↓zc_none, ↓zb_pre, ↓zb2_pre, ↓zc_pre, ↓zex_eq, ↓reduceIte, Option.isSome_some, Option.isSome_none, Option.getD_some, n32_lit, h.1.1, e5, n32_le, F, ob, e1, e6, n32_add]
          rw [if_neg (by omega)]
        rcases st.1 with r | r
        · rw [r, if_pos rfl] at E
          refine Or.inr ⟨hk2, n32 (k + 1), E, rfl, ?_⟩
          rw [ek, r, if_neg nn01]
        · rw [r, if_neg nn10] at E
          rw [r, if_pos rfl] at ek
          by_cases hl : s_len g (ad k) ≤ 0
          · rw [if_pos hl] at E
            exact Or.inr ⟨hk2, n32 (k + 1), E, rfl, by rw [ek]; omega⟩
          · rw [if_neg hl] at E
            refine Or.inl ⟨n32 1, E, ?_⟩
            have := mono (n - (k + 1)) (k + 1)
            rw [show k + 1 + (n - (k + 1)) = n by omega] at this
            rw [decide_eq_true (by omega)]; rfl) (by unfold zN; omega) ⟨rfl, rfl⟩
  rw [hr, hr2]
end CLASS
