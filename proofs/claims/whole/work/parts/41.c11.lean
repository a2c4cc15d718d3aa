/-- the time is a number, and what is said of messages by it -/
def s_mo (g : zG) : Prop := g 3 = n32 (s_nat g 3) ∧ ∀ m, m < s_nat g 5 → (∃ l, 1 ≤ l ∧ l ≤ 20 ∧ g (242 + 5 * m + 0) = n32 l) ∧ ∃ w, w ≤ s_nat g 3 ∧ g (242 + 5 * m + 3) = n32 w
theorem s_nat_n32 {g : zG} {j k : Nat} (h : g j = n32 k) (hk : k < 2147483648) : s_nat g j = k := by unfold s_nat; rw [h, n32_toNat hk]
theorem s_mo_t {g g' : zG} (H : s_mo g) {d : Nat} (h3 : g' 3 = n32 (s_nat g 3 + d)) (hb : s_nat g 3 + d < 2147483648) (h5 : g' 5 = g 5) (hm : ∀ m, m < s_nat g 5 → g' (242 + 5 * m + 0) = g (242 + 5 * m + 0) ∧ g' (242 + 5 * m + 3) = g (242 + 5 * m + 3)) : s_mo g' := by
  have e3 := s_nat_n32 h3 hb
  have e5 : s_nat g' 5 = s_nat g 5 := by unfold s_nat; rw [h5]
  refine ⟨by rw [e3]; exact h3, fun m hm' => ?_⟩
  rw [e5] at hm'
  obtain ⟨h1, w, h2, h4⟩ := H.2 m hm'
  rw [(hm m hm').1, (hm m hm').2, e3]
  exact ⟨h1, w, by omega, h4⟩
theorem s_sends_3 (g : zG) (m : Nat) : s_sends g m 3 = g 3 + g (242 + 5 * m + 0) := by
  unfold s_sends s_sent
  split
  · exact s_takes_3 _ _
  · rw [gu_ne _ _ (by decide), gu_ne _ _ (by decide), gu_ne _ _ (by omega), s_takes_3]
theorem s_mo_sends {g : zG} (H : s_mo g) {m : Nat} (hm : m < s_nat g 5) {B : Nat} (hb : s_nat g 3 + 20 ≤ B) (hB : B < 2147483648) : s_mo (s_sends g m) ∧ s_nat (s_sends g m) 3 ≤ s_nat g 3 + 20 ∧ s_nat (s_sends g m) 5 = s_nat g 5 := by
  obtain ⟨⟨l, h1, h2, h3⟩, _⟩ := H.2 m hm
  have e3 : s_sends g m 3 = n32 (s_nat g 3 + l) := by
    rw [s_sends_3, h3]
    conv => lhs; rw [H.1]
    rw [n32_add]
  have e5 : s_sends g m 5 = g 5 := s_sends_ne _ _ (by decide) (by decide) (by decide) (by decide) (by omega)
  refine ⟨s_mo_t H e3 (by omega) e5 (fun k _ => ⟨s_sends_ne _ _ (by omega) (by omega) (by omega) (by omega) (by omega), s_sends_ne _ _ (by omega) (by omega) (by omega) (by omega) (by omega)⟩), ?_, by unfold s_nat; rw [e5]⟩
  rw [s_nat_n32 e3 (by omega)]; omega
theorem s_sends_len {g : zG} {x : Nat} {f : Nat → Nat} (hq : s_qok g x f) (hl : 0 < s_len g x) (hv : g 3 - g (242 + 5 * f 0 + 3) ≠ nn) : (s_spoilt g (f 0) = true → s_len (s_sends g (f 0)) x = s_len g x) ∧ (s_spoilt g (f 0) = false → s_len (s_sends g (f 0)) x + 1 = s_len g x) := by
  constructor
  · intro hs
    unfold s_sends
    rw [if_pos hs]
    exact s_len_congr ⟨s_takes_ne _ _ (by decide) (by decide), fun m w _ _ => s_takes_ne _ _ (by omega) (by omega)⟩ x
  · intro hs
    unfold s_sends
    rw [if_neg (by simp [hs])]
    have hms : sMs (s_wset g (f 0) (g 3 - g (242 + 5 * f 0 + 3))) (s_sent g (s_takes g (g (242 + 5 * f 0 + 0))) (f 0)) := by
      unfold s_sent s_wset
      refine ⟨?_, fun m w _ _ => ?_⟩
      · rw [gu_ne _ _ (by decide), gu_ne _ _ (by decide), gu_ne _ _ (by omega), gu_ne _ _ (by omega), s_takes_ne _ _ (by decide) (by decide)]
      · rw [gu_ne _ _ (by omega), gu_ne _ _ (by omega)]
        unfold gu
        by_cases he : 242 + 5 * m + w = 242 + 5 * f 0 + 4
        · rw [if_pos he, if_pos he]
        · rw [if_neg he, if_neg he, s_takes_ne _ _ (by omega) (by omega)]
    rw [s_len_congr hms]
    exact (s_qok_sent hq hl hv).1
theorem s_sends_10 (g : zG) (m : Nat) : s_sends g m 10 = if s_spoilt g m = true then g 10 else g 10 + n32 1 := by
  unfold s_sends s_sent
  split
  · rw [s_takes_ne _ _ (by decide) (by decide)]
  · rw [gu_ne _ _ (by decide), gu_same]
theorem n32_1ne : n32 0 ≠ nn := by decide
section CLASS
variable {a n : Nat} {pl ad : Nat → Nat}
theorem c_wait {g : zG} (H : s_mo g) {m : Nat} (hm : m < s_nat g 5) (hb : s_nat g 3 < 2147483648) : g 3 - g (242 + 5 * m + 3) ≠ nn := by
  obtain ⟨_, w, h1, h2⟩ := H.2 m hm
  rw [h2]
  conv => lhs; lhs; rw [H.1]
  rw [n32_sub h1]
  intro he
  rw [n32_ne (by omega)] at he
  exact he
theorem c_sendLoop {i : Nat} (hi : i < n) (t0 al : Int32) {B : Nat} (hB : B < 2147483648) : ∀ (k : Nat) (σ : zSt) (qu : Nat → Nat → Nat) (g : zG) (c : Nat), zCs σ a pl ad qu n g → s_nat g 5 ≤ 100 → s_mo g → s_len g (ad i) ≤ k → c + s_len g (ad i) ≤ 100 → s_nat g 3 + 20 * s_len g (ad i) + 20 ≤ B → ∀ N, k < N →
    ∃ σ' c' qu', zloop (fun (t : zSt × Int32 × Int32) => b_X8_sendMessages_21 a (pl i) al t0 t.1 t.2.1 t.2.2) N (σ, n32 c, n32 0) = some (n32 c', σ') ∧ zAn σ σ' a pl ad qu' n (s_sl (n32 (ad i)) t0 al k g false) ∧ s_fin (n32 (ad i)) t0 al k g false ∧ c ≤ c' ∧ s_sl (n32 (ad i)) t0 al k g false 10 = g 10 + n32 (c' - c) ∧ s_nat (s_sl (n32 (ad i)) t0 al k g false) 3 ≤ s_nat g 3 + 20 * s_len g (ad i) + 20 ∧ s_mo (s_sl (n32 (ad i)) t0 al k g false) := by
  have stop : ∀ (σ : zSt) (qu : Nat → Nat → Nat) (g : zG) (c : Nat), zCs σ a pl ad qu n g → s_nat g 5 ≤ 100 → c + s_len g (ad i) ≤ 100 → s_stop (n32 (ad i)) t0 al g false = true → b_X8_sendMessages_21 a (pl i) al t0 σ (n32 c) (n32 0) = some (.inr (n32 c, σ)) := by
    intro σ qu g c h h5 hc hst
    have h0 := zC0_of h
    have hQ := h.2.2.1.2.2.2.2.2.2.2 i hi
    have hnx := s_next0 hQ.2.2.2 h5
    have e9 := (c_L h0).2.2.2.2.1
    simp (disch := omega) only [b_X8_sendMessages_21, f_X8_sendMessages_73, ↓zl_eq, ↓zb_eq, ↓zb2_eq, ↓zc_some, ↓zc_none, ↓zb_pre, ↓zb2_pre, ↓zc_pre, ↓zex_eq, ↓reduceIte, Option.isSome_some, Option.isSome_none, Option.getD_some, n32_lit, n32_le, c_ob h0 hi, hQ.1, h0.1.1, e9]
    by_cases hl : 0 < s_len g (ad i)
    · rw [if_neg (by omega), if_neg (by omega)]
      unfold s_stop at hst
      rw [hnx, if_pos hl] at hst
      have hn : (n32 (qu (ad i) 0) = nn) = False := propext (n32_ne (by have := (hQ.2.2.2.1 0 hl).1; omega))
      simp only [hn, Bool.false_or, decide_false, decide_eq_true_eq] at hst
      rw [if_neg (by rw [Int32.not_lt]; exact hst)]
    · by_cases hc2 : 100 ≤ c
      · rw [if_pos hc2]
      · rw [if_neg hc2, if_pos (by omega)]
  intro k
  induction k with
  | zero =>
    intro σ qu g c h h5 hmo hk hc hb N hN
    obtain ⟨N, rfl⟩ : ∃ N', N = N' + 1 := ⟨N - 1, by omega⟩
    have hQ := h.2.2.1.2.2.2.2.2.2.2 i hi
    have hnx := s_next0 hQ.2.2.2 h5
    rw [if_neg (by omega)] at hnx
    have hst : s_stop (n32 (ad i)) t0 al g false = true := by unfold s_stop; rw [hnx]; simp
    refine ⟨σ, c, qu, zloop_r (stop σ qu g c h h5 hc hst), ⟨zFr_r a σ, rfl, h.2.2.1⟩, hst, Nat.le_refl _, ?_, by show s_nat g 3 ≤ _; omega, hmo⟩
    rw [Nat.sub_self]
    exact (Int32.add_zero _).symm
  | succ k ih =>
    intro σ qu g c h h5 hmo hk hc hb N hN
    obtain ⟨N, rfl⟩ : ∃ N', N = N' + 1 := ⟨N - 1, by omega⟩
    have h0 := zC0_of h
    have hQ := h.2.2.1.2.2.2.2.2.2.2 i hi
    have hnx := s_next0 hQ.2.2.2 h5
    by_cases hst : s_stop (n32 (ad i)) t0 al g false = true
    · have es : s_sl (n32 (ad i)) t0 al (k + 1) g false = g := by rw [s_sl]; rw [if_pos hst]
      rw [es]
      refine ⟨σ, c, qu, zloop_r (stop σ qu g c h h5 hc hst), ⟨zFr_r a σ, rfl, h.2.2.1⟩, Or.inl hst, Nat.le_refl _, ?_, by omega, hmo⟩
      rw [Nat.sub_self]
      exact (Int32.add_zero _).symm
    · have hl : 0 < s_len g (ad i) := by
        rcases Nat.eq_zero_or_pos (s_len g (ad i)) with hz | hz
        · rw [if_neg (by omega)] at hnx
          exact absurd (by unfold s_stop; rw [hnx]; simp) hst
        · exact hz
      rw [if_pos hl] at hnx
      have hm := (hQ.2.2.2.1 0 hl).1
      have hv := c_wait hmo hm (by omega)
      obtain ⟨σ1, E, A⟩ := c_sendFirst h h5 hi hl hv
      have hne : ¬ n32 (qu (ad i) 0) = nn := by rw [n32_ne (by omega)]; exact not_false
      have hal : ¬ al ≤ g 3 - t0 := by
        intro hz
        exact hst (by unfold s_stop; simp [hz])
      have e9 := (c_L h0).2.2.2.2.1
      have hjn : (s_next g (n32 (ad i)) nn).toNatClampNeg = qu (ad i) 0 := by rw [hnx, n32_toNat (by omega)]
      have es : s_sl (n32 (ad i)) t0 al (k + 1) g false = s_sl (n32 (ad i)) t0 al k (s_sends g (qu (ad i) 0)) (s_spoilt g (qu (ad i) 0)) := by
        rw [s_sl]; rw [if_neg hst, hjn]
      obtain ⟨mo1, mo2, mo3⟩ := s_mo_sends hmo hm (B := B) (by omega) hB
      have hlen := s_sends_len hQ.2.2.2 hl hv
      have hbody : b_X8_sendMessages_21 a (pl i) al t0 σ (n32 c) (n32 0) = (if s_spoilt g (qu (ad i) 0) = true then some (.inr (n32 c, σ1)) else some (.inl (σ1, n32 (c + 1), n32 0))) := by
        simp (disch := omega) only [b_X8_sendMessages_21, f_X8_sendMessages_53, f_X8_sendMessages_73, ↓zl_eq, ↓zb_eq, ↓zb2_eq, ↓zc_some, ↓zc_none, ↓zb_pre, ↓zb2_pre, ↓zc_pre, ↓zex_eq, ↓reduceIte, Option.isSome_some, Option.isSome_none, Option.getD_some, n32_lit, n32_le, c_ob h0 hi, hQ.1, h0.1.1, e9, E, bi_0n, n32_add]
        rw [if_neg (by omega), if_neg (by omega), if_pos (by rw [← Int32.not_le]; exact hal)]
        cases s_spoilt g (qu (ad i) 0) <;> rfl
      rw [es]
      cases hs : s_spoilt g (qu (ad i) 0) with
      | true =>
        rw [hs] at hbody A
        simp only [if_true] at A hbody
        have hst2 : s_stop (n32 (ad i)) t0 al (s_sends g (qu (ad i) 0)) true = true := by simp [s_stop]
        have es2 : s_sl (n32 (ad i)) t0 al k (s_sends g (qu (ad i) 0)) true = s_sends g (qu (ad i) 0) := by
          cases k with
          | zero => rfl
          | succ k => rw [s_sl]; rw [if_pos hst2]
        rw [es2]
        refine ⟨σ1, c, qu, zloop_r hbody, A, Or.inr ?_, Nat.le_refl _, ?_, by omega, mo1⟩
        · rw [hjn, hs]
          cases k with
          | zero => exact hst2
          | succ k => exact Or.inl hst2
        · rw [Nat.sub_self, s_sends_10, if_pos hs]
          exact (Int32.add_zero _).symm
      | false =>
        rw [hs] at hbody A
        simp only [if_false, Bool.false_eq_true] at A hbody
        have h1 : zCs σ1 a pl ad (s_tl qu (ad i)) n (s_sends g (qu (ad i) 0)) := by
          refine ⟨zLs_fr A.1 h.1, zPl_fr A.1 h.2.1, A.2.2, ?_, s_sta_congr (fun j _ _ => s_sends_ne _ _ (by omega) (by omega) (by omega) (by omega) (by omega)) h.2.2.2.2⟩
          rw [s_sends_ne _ _ (by decide) (by decide) (by decide) (by decide) (by omega)]
          exact h.2.2.2.1
        have hl2 := hlen.2 hs
        obtain ⟨σ2, c2, qu2, E2, A2, F2, C2, D2, T2, M2⟩ := ih σ1 (s_tl qu (ad i)) (s_sends g (qu (ad i) 0)) (c + 1) h1 (by rw [mo3]; exact h5) mo1 (by omega) (by omega) (by omega) N (by omega)
        refine ⟨σ2, c2, qu2, (zloop_l hbody).trans E2, ⟨zFr_t A.1 A2.1, A2.2.1.trans A.2.1, A2.2.2⟩, Or.inr ?_, by omega, ?_, by omega, M2⟩
        · rw [hjn, hs]; exact F2
        · rw [D2, s_sends_10, if_neg (by rw [hs]; decide), Int32.add_assoc, n32_add]
          congr 2; omega
end CLASS
