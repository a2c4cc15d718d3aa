theorem s_low_no {P : Nat → Bool} {h0 : Int32} (h : ∀ x, x < 32 → P x = false) : ∀ k, k ≤ 32 → s_low P h0 k = h0
  | 0, _ => rfl
  | k + 1, hk => by
    unfold s_low
    rw [h (31 - k) (by omega), s_low_no h k (by omega)]
    rfl
theorem s_low_yes {P : Nat → Bool} {h0 : Int32} {x : Nat} (hx : x < 32) (hP : P x = true) (hlt : ∀ y, y < x → P y = false) : ∀ k, 32 - x ≤ k → k ≤ 32 → s_low P h0 k = n32 x
  | 0, h1, _ => by omega
  | k + 1, h1, h2 => by
    unfold s_low
    by_cases he : 31 - k = x
    · rw [he, hP]; rfl
    · rw [hlt (31 - k) (by omega), s_low_yes hx hP hlt k (by omega) (by omega)]; rfl
def s_pick (g : zG) (b : Bool) (x : Nat) : Bool := if b = true then s_ring g x else s_isOn g x
theorem s_pick_is {g : zG} {b : Bool} {x : Nat} (h : s_pick g b x = true) : g (18 + 7 * x + 0) = n32 1 := by
  unfold s_pick at h
  cases b
  · simp only [Bool.false_eq_true, if_false, s_isOn, Bool.and_eq_true, decide_eq_true_eq] at h; exact h.1
  · simp only [if_true, s_ring, Bool.and_eq_true, decide_eq_true_eq] at h; exact h.1.1
section CLASS
variable {σ : zSt} {a n : Nat} {pl ad : Nat → Nat} {qu : Nat → Nat → Nat} {g : zG}
theorem c_in (h : zC0 σ a pl ad qu n g) {i : Nat} (hi : i < n) : f_X2_stationIn σ a (n32 i) = some (some (pl i)) := c_stationIn h.1 h.2.1 (c_n8 h) (c_L h).1 hi
theorem c_lowest (h : zCs σ a pl ad qu n g) (b : Bool) :
    (f_X8_lowest σ a (bi b) = some none ∧ ∀ x, x < 32 → s_pick g b x = false) ∨ ∃ i, i < n ∧ s_pick g b (ad i) = true ∧ (∀ y, y < ad i → s_pick g b y = false) ∧ f_X8_lowest σ a (bi b) = some (some (pl i)) := by
  have h0 := zC0_of h
  have hn := c_n8 h0
  have hRA := h.2.2.1.2.2.2.2.2.1
  obtain ⟨r, hr, hr2⟩ := zloop_inv (N := zN) (s := (0 : Int32)) (body := fun (t : Int32) => b_X8_lowest_2 σ a (bi b) t) (Inv := fun k s => s = n32 k ∧ ∀ j, j < k → s_pick g b (ad j) = false)
    (Post := fun r => (r = none ∧ ∀ j, j < n → s_pick g b (ad j) = false) ∨ ∃ i, i < n ∧ s_pick g b (ad i) = true ∧ (∀ j, j < i → s_pick g b (ad j) = false) ∧ r = some (pl i)) n (fun k s hk hi => by
      obtain ⟨rfl, hi⟩ := hi
      by_cases hkn : k = n
      · subst hkn
        refine Or.inl ⟨none, ?_, Or.inl ⟨rfl, hi⟩⟩
        simp (disch := omega) only [b_X8_lowest_2, ↓zl_eq, ↓zb_eq, ↓zb2_eq, ↓zc_some, ↓zc_none, ↓zb_pre, ↓zb2_pre, ↓zc_pre, ↓zex_eq, ↓reduceIte, Option.isSome_some, Option.isSome_none, Option.getD_some, h0.1.1, (c_L h0).1, n32_le, Nat.le_refl]
      · have hk2 : k < n := by omega
        have hk3 := c_ad h0 hk2
        have S := c_S h0 hk2
        have st := h.2.2.2.2 (ad k) hk3.1 hk3.2
        have e5 := (c_L h0).1
        have T : ∀ r, s_pick g b (ad k) = r → (b_X8_lowest_2 σ a (bi b) (n32 k)) = if r = true then some (.inr (some (pl k))) else some (.inl (n32 (k + 1))) := by
          intro r hr
          subst hr
          simp (disch := omega) only [b_X8_lowest_2, f_X8_lowest_40, f_X8_lowest_38, ↓zl_eq, ↓zb_eq, ↓zb2_eq, ↓zc_some, ↓zc_none, ↓zb_pre, ↓zb2_pre, ↓zc_pre, ↓zex_eq, ↓reduceIte, Option.isSome_some, Option.isSome_none, Option.getD_some, n32_lit, h0.1.1, e5, n32_le, c_in h0 hk2, c_ob h0 hk2, S.2.1, S.2.2.1, bi_0n, n32_add]
          rw [if_neg (by omega)]
          unfold s_pick s_ring s_isOn
          rw [hk3.2]
          rcases st.1 with ho | ho
          · rw [ho]
            cases b <;> simp [n10]
            all_goals exact fun hz => absurd hz (by decide)
          · rw [ho]
            rcases st.2.1 with hq | hq
            · rw [hq]
              cases b
              · simp only [n10, if_true, if_false, Bool.false_eq_true, decide_true, Bool.and_self]
              · simp only [n10, if_true, if_false, Bool.true_eq_false, decide_true, Bool.and_self, Bool.true_and, decide_eq_true_eq]
                rw [if_neg (by decide)]
            · rw [hq]
              cases b <;> simp only [n10, if_true, if_false, Bool.false_eq_true, decide_true, Bool.and_self]
        by_cases hp : s_pick g b (ad k) = true
        · exact Or.inl ⟨some (pl k), (T true hp), Or.inr ⟨k, hk2, hp, hi, rfl⟩⟩
        · have hpf : s_pick g b (ad k) = false := by simpa using hp
          refine Or.inr ⟨hk2, n32 (k + 1), (T false hpf), rfl, fun j hj => ?_⟩
          by_cases hjk : j = k
          · subst hjk; exact hpf
          · exact hi j (by omega)) (by unfold zN; omega) ⟨rfl, fun j hj => by omega⟩
  have hf : f_X8_lowest σ a (bi b) = some r := hr
  rcases hr2 with ⟨rfl, hn2⟩ | ⟨i, hi, hp, hlt, rfl⟩
  · refine Or.inl ⟨hf, fun x hx => ?_⟩
    cases hpx : s_pick g b x with
    | false => rfl
    | true =>
      rcases hRA.2.2.2 x hx with h0' | ⟨_, i, hi, rfl⟩
      · rw [s_pick_is hpx] at h0'; exact absurd h0' (by decide)
      · rw [hn2 i hi] at hpx; cases hpx
  · refine Or.inr ⟨i, hi, hp, fun y hy => ?_, hf⟩
    have hai := c_ad h0 hi
    cases hpx : s_pick g b y with
    | false => rfl
    | true =>
      rcases hRA.2.2.2 y (by omega) with h0' | ⟨_, j, hj, rfl⟩
      · rw [s_pick_is hpx] at h0'; exact absurd h0' (by decide)
      · have hji : j < i := by
          rcases Nat.lt_or_ge j i with hlt' | hge
          · exact hlt'
          · rcases Nat.lt_or_ge i j with h1 | h1
            · have := hRA.2.2.1 i j h1 hj; omega
            · have : i = j := by omega
              subst this; omega
        rw [hlt j hji] at hpx; cases hpx
theorem s_sta_tok {x : Nat} (H : s_sta g) (hx : x < 32) (hon : g (18 + 7 * x + 1) = n32 1) : s_sta (s_tok g x) := by
  intro y hy h0
  unfold s_tok at h0 ⊢
  by_cases hr : s_ring g x = true
  · simp only [hr, if_true] at h0 ⊢
    simp (disch := omega) only [gu_ne] at h0 ⊢
    exact H y hy h0
  · simp only [hr, if_false, Bool.false_eq_true] at h0 ⊢
    simp (disch := omega) only [gu_ne] at h0
    have := H y hy h0
    by_cases hyx : y = x
    · subst hyx
      simp (disch := omega) only [gu_ne, gu_same]
      exact ⟨this.1, Or.inr trivial, fun _ => hon, ⟨y, hy, rfl⟩, this.2.2.2.2⟩
    · simp (disch := omega) only [gu_ne]
      exact this
theorem c_anew16 (h : zCs σ a pl ad qu n g) {i : Nat} (hi : i < n) (hon : g (18 + 7 * ad i + 1) = n32 1) :
    ∃ σ', f_X8_makeAnew_16 σ a (some (pl i)) = some (some (pl i), σ') ∧ zAn σ σ' a pl ad qu n (s_tok g (ad i)) := by
  have h0 := zC0_of h
  have hai := c_ad h0 hi
  have S := c_S h0 hi
  have st := h.2.2.2.2 (ad i) hai.1 hai.2
  have e9 := (c_L h0).2.2.2.2.1
  have e7 := (c_L h0).2.2.1
  have hL := h0.1
  have A1 := c_time h0 (g 3 + g 1 * n32 (6 + 2 * ad i))
  generalize hσ1 : z_pI σ a 9 (g 3 + g 1 * n32 (6 + 2 * ad i)) = σ1 at A1
  have h1 := zC0_step h0 A1
  have S1 := c_S h1 hi
  have fin : ∀ (σ2 : zSt) (g2 : zG), zC0 σ2 a pl ad qu n g2 → g2 12 = g 12 → ∃ σ', f_X8_makeAnew_65 σ2 a (pl i) = some (some (pl i), σ') ∧ zAn σ2 σ' a pl ad qu n (gu (gu g2 4 (n32 (ad i))) 12 (g 12 + n32 1)) := by
    intro σ2 g2 h2 e12
    have A3 := c_hold h2 (n32 (ad i))
    generalize hσ3 : z_pI σ2 a 10 (n32 (ad i)) = σ3 at A3
    have h3 := zC0_step h2 A3
    have c3 : z_I σ3 (a + 8) 3 = g 12 := by rw [c_C h3 (by decide), gu_ne _ _ (by decide)]; exact e12
    refine ⟨_, ?_, zAn_t A3 (c_cnt h3 (i := 3) (by decide) (g 12 + n32 1))⟩
    have hL3 := h3.1
    simp only [f_X8_makeAnew_65, ↓zl_eq, ↓zb_eq, ↓zb2_eq, ↓zc_some, ↓zc_none, ↓zb_pre, ↓zb2_pre, ↓zc_pre, ↓zex_eq, ↓reduceIte, Option.isSome_some, Option.isSome_none, Option.getD_some, n32_lit, c_ob h2 hi, h2.1.1, (c_S h2 hi).1, hσ3, hL.1, hL.2.1, hL.2.2.1, hL.2.2.2.1, hL.2.2.2.2.1, hL.2.2.2.2.2.1, hL.2.2.2.2.2.2.1, hL.2.2.2.2.2.2.2.1, hL.2.2.2.2.2.2.2.2.1, hL.2.2.2.2.2.2.2.2.2.1, hL.2.2.2.2.2.2.2.2.2.2.1, hL.2.2.2.2.2.2.2.2.2.2.2.1, hL.2.2.2.2.2.2.2.2.2.2.2.2.1, hL.2.2.2.2.2.2.2.2.2.2.2.2.2.1, hL.2.2.2.2.2.2.2.2.2.2.2.2.2.2.1, hL.2.2.2.2.2.2.2.2.2.2.2.2.2.2.2.1, hL.2.2.2.2.2.2.2.2.2.2.2.2.2.2.2.2.1, hL.2.2.2.2.2.2.2.2.2.2.2.2.2.2.2.2.2.1, hL.2.2.2.2.2.2.2.2.2.2.2.2.2.2.2.2.2.2.1, hL.2.2.2.2.2.2.2.2.2.2.2.2.2.2.2.2.2.2.2.1, hL.2.2.2.2.2.2.2.2.2.2.2.2.2.2.2.2.2.2.2.2.1, hL.2.2.2.2.2.2.2.2.2.2.2.2.2.2.2.2.2.2.2.2.2.1, hL.2.2.2.2.2.2.2.2.2.2.2.2.2.2.2.2.2.2.2.2.2.2.1, hL.2.2.2.2.2.2.2.2.2.2.2.2.2.2.2.2.2.2.2.2.2.2.2.1, hL.2.2.2.2.2.2.2.2.2.2.2.2.2.2.2.2.2.2.2.2.2.2.2.2.1, hL.2.2.2.2.2.2.2.2.2.2.2.2.2.2.2.2.2.2.2.2.2.2.2.2.2, hL3.1, hL3.2.2.2.2.1, hL3.2.2.2.2.2.2.2.2.2.2.2.2.2.2.2.2.2.2.2.2.2.1, c3]
  have r1 : z_I σ1 (pl i) 2 = g (18 + 7 * ad i + 2) := by rw [S1.2.2.1, gu_ne _ _ (by omega)]
  have e12 : gu g 3 (g 3 + g 1 * n32 (6 + 2 * ad i)) 12 = g 12 := gu_ne _ _ (by decide)
  rcases st.2.1 with hr | hr
  · have hrf : ¬ s_ring g (ad i) = true := by
      simp only [s_ring, hr, Bool.and_eq_true, decide_eq_true_eq, not_and]; intro _; decide
    have A2 := c_sta h1 hi (f := 2) (w := 2) (by unfold s_fw; omega) (n32 1)
    generalize hσ2 : z_pI σ1 (pl i) 2 (n32 1) = σ2 at A2
    have h2 := zC0_step h1 A2
    have A3 := c_sta h2 hi (f := 3) (w := 3) (by unfold s_fw; omega) (n32 (ad i))
    generalize hσ3 : z_pI σ2 (pl i) 3 (n32 (ad i)) = σ3 at A3
    have h3 := zC0_step h2 A3
    obtain ⟨σ', E, A⟩ := fin σ3 _ h3 (by simp (disch := omega) only [gu_ne])
    refine ⟨σ', ?_, ?_⟩
    · simp only [f_X8_makeAnew_16, ↓zl_eq, ↓zb_eq, ↓zb2_eq, ↓zc_some, ↓zc_none, ↓zb_pre, ↓zb2_pre, ↓zc_pre, ↓zex_eq, ↓reduceIte, Option.isSome_some, Option.isSome_none, Option.getD_some, n32_lit, h0.1.1, c_ob h0 hi, e9, e7, S.1, n32_mul, n32_add, hσ1, c_ob h1 hi, r1, hr, hσ2, c_ob h2 hi, (c_S h2 hi).1, hσ3, E]
    · have et : s_tok g (ad i) = gu (gu (gu (gu (gu g 3 (g 3 + g 1 * n32 (6 + 2 * ad i))) (18 + 7 * ad i + 2) (n32 1)) (18 + 7 * ad i + 3) (n32 (ad i))) 4 (n32 (ad i))) 12 (g 12 + n32 1) := by
        unfold s_tok; simp only [hrf, if_false, Bool.false_eq_true]
      rw [et]
      exact zAn_t A1 (zAn_t A2 (zAn_t A3 A))
  · have hrt : s_ring g (ad i) = true := by simp only [s_ring, hr, hon, hai.2, decide_true, Bool.and_self]
    obtain ⟨σ', E, A⟩ := fin σ1 _ h1 e12
    refine ⟨σ', ?_, ?_⟩
    · simp only [f_X8_makeAnew_16, ↓zl_eq, ↓zb_eq, ↓zb2_eq, ↓zc_some, ↓zc_none, ↓zb_pre, ↓zb2_pre, ↓zc_pre, ↓zex_eq, ↓reduceIte, Option.isSome_some, Option.isSome_none, Option.getD_some, n32_lit, h0.1.1, c_ob h0 hi, e9, e7, S.1, n32_mul, n32_add, hσ1, c_ob h1 hi, r1, hr, n10, E]
    · have et : s_tok g (ad i) = gu (gu (gu g 3 (g 3 + g 1 * n32 (6 + 2 * ad i))) 4 (n32 (ad i))) 12 (g 12 + n32 1) := by
        unfold s_tok; simp only [hrt, if_true]
      rw [et]
      exact zAn_t A1 A
theorem c_anew (h : zCs σ a pl ad qu n g) :
    (s_h2 g = nn ∧ f_X8_makeAnew σ a = some (none, σ)) ∨ ∃ i σ', i < n ∧ s_h2 g = n32 (ad i) ∧ g (18 + 7 * ad i + 1) = n32 1 ∧ f_X8_makeAnew σ a = some (some (pl i), σ') ∧ zAn σ σ' a pl ad qu n (s_tok g (ad i)) := by
  have h0 := zC0_of h
  have b1 : (1 : Int32) = bi true := rfl
  have b0 : (0 : Int32) = bi false := rfl
  rcases c_lowest h true with ⟨E, hno⟩ | ⟨i, hi, hp, hlt, E⟩
  · rcases c_lowest h false with ⟨E2, hno2⟩ | ⟨i, hi, hp, hlt, E2⟩
    · refine Or.inl ⟨?_, ?_⟩
      · unfold s_h2 s_h1
        rw [s_low_no (P := s_ring g) (fun x hx => hno x hx) 32 (Nat.le_refl _), s_low_no (P := s_isOn g) (fun x hx => hno2 x hx) 32 (Nat.le_refl _)]
      · simp only [f_X8_makeAnew, f_X8_makeAnew_16, ↓zl_eq, ↓zb_eq, ↓zb2_eq, ↓zc_some, ↓zc_none, ↓zb_pre, ↓zb2_pre, ↓zc_pre, ↓zex_eq, ↓reduceIte, Option.isSome_some, Option.isSome_none, Option.getD_some, Bool.false_eq_true, b1, b0, E, E2]
    · have hai := c_ad h0 hi
      have hon : g (18 + 7 * ad i + 1) = n32 1 := by
        simp only [s_pick, Bool.false_eq_true, if_false, s_isOn, Bool.and_eq_true, decide_eq_true_eq] at hp; exact hp.2
      obtain ⟨σ', E3, A⟩ := c_anew16 h hi hon
      refine Or.inr ⟨i, σ', hi, ?_, hon, ?_, A⟩
      · unfold s_h2 s_h1
        rw [s_low_no (P := s_ring g) (fun x hx => hno x hx) 32 (Nat.le_refl _)]
        exact s_low_yes hai.1 hp hlt 32 (by omega) (Nat.le_refl _)
      · simp only [f_X8_makeAnew, ↓zl_eq, ↓zb_eq, ↓zb2_eq, ↓zc_some, ↓zc_none, ↓zb_pre, ↓zb2_pre, ↓zc_pre, ↓zex_eq, ↓reduceIte, Option.isSome_some, Option.isSome_none, Option.getD_some, Bool.false_eq_true, b1, b0, E, E2, E3]
  · have hai := c_ad h0 hi
    have hon : g (18 + 7 * ad i + 1) = n32 1 := by
      simp only [s_pick, if_true, s_ring, Bool.and_eq_true, decide_eq_true_eq] at hp; exact hp.1.2
    obtain ⟨σ', E3, A⟩ := c_anew16 h hi hon
    refine Or.inr ⟨i, σ', hi, ?_, hon, ?_, A⟩
    · unfold s_h2
      exact s_low_yes hai.1 hp hlt 32 (by omega) (Nat.le_refl _)
    · simp only [f_X8_makeAnew, ↓zl_eq, ↓zb_eq, ↓zb2_eq, ↓zc_some, ↓zc_none, ↓zb_pre, ↓zb2_pre, ↓zc_pre, ↓zex_eq, ↓reduceIte, Option.isSome_some, Option.isSome_none, Option.getD_some, b1, E, E3]
end CLASS
