theorem n10 : (n32 1 = n32 0) = False := eq_false (by decide)
/-- a line that is the array, with no more said of it -/
def zC0 (σ : zSt) (a : Nat) (pl ad : Nat → Nat) (qu : Nat → Nat → Nat) (n : Nat) (g : zG) : Prop := zLs σ a ∧ zPl σ a pl ∧ zRep σ a pl ad qu n g
theorem zC0_of {σ : zSt} {a : Nat} {pl ad : Nat → Nat} {qu : Nat → Nat → Nat} {n : Nat} {g : zG} (h : zCs σ a pl ad qu n g) : zC0 σ a pl ad qu n g := ⟨h.1, h.2.1, h.2.2.1⟩
theorem zC0_step {σ σ' : zSt} {a : Nat} {pl ad : Nat → Nat} {qu : Nat → Nat → Nat} {n : Nat} {g g' : zG} (h : zC0 σ a pl ad qu n g) (h2 : zAn σ σ' a pl ad qu n g') : zC0 σ' a pl ad qu n g' :=
  ⟨zLs_fr h2.1 h.1, zPl_fr h2.1 h.2.1, h2.2.2⟩
def s_fw (f w : Nat) : Prop := (f = 1 ∧ w = 1) ∨ (f = 2 ∧ w = 2) ∨ (f = 3 ∧ w = 3) ∨ (f = 4 ∧ w = 4) ∨ (f = 7 ∧ w = 5) ∨ (f = 8 ∧ w = 6)
section CLASS
variable {σ : zSt} {a n : Nat} {pl ad : Nat → Nat} {qu : Nat → Nat → Nat} {g : zG}
theorem c_sta (h : zC0 σ a pl ad qu n g) {i f w : Nat} (hi : i < n) (hfw : s_fw f w) (v : Int32) : zAn σ (z_pI σ (pl i) f v) a pl ad qu n (gu g (18 + 7 * ad i + w) v) := by
  have hn := h.2.2.2.2.2.2.2.1.1
  have hp := (h.2.1.1 i (by omega)).2.2
  rw [z_pI_eq]
  exact ⟨zFr_sA _ (by omega) (by omega) _, (by simp (disch := omega) only [z_I_sA, z_I_sAn, z_J_sA]), zRep_sta h.2.1 h.2.2 hi hfw v⟩
theorem c_cnt (h : zC0 σ a pl ad qu n g) {i : Nat} (hi : i < 7) (v : Int32) : zAn σ (z_pI σ (a + 8) i v) a pl ad qu n (gu g (9 + i) v) := by
  rw [z_pI_eq]
  exact ⟨zFr_sA _ (by omega) (by omega) _, (by simp (disch := omega) only [z_I_sA, z_I_sAn, z_J_sA]), zRep_count h.2.1 h.2.2 hi v⟩
theorem c_hold (h : zC0 σ a pl ad qu n g) (v : Int32) : zAn σ (z_pI σ a 10 v) a pl ad qu n (gu g 4 v) := by
  rw [z_pI_eq]
  exact ⟨zFr_sA _ (by omega) (by omega) _, (by simp (disch := omega) only [z_I_sA, z_I_sAn, z_J_sA]), zRep_holder h.2.1 h.2.2 v⟩
theorem c_time (h : zC0 σ a pl ad qu n g) (v : Int32) : zAn σ (z_pI σ a 9 v) a pl ad qu n (gu g 3 v) := by
  rw [z_pI_eq]
  exact ⟨zFr_sA _ (by omega) (by omega) _, (by simp (disch := omega) only [z_I_sA, z_I_sAn, z_J_sA]), zRep_time h.2.1 h.2.2 v⟩
theorem c_n8 (h : zC0 σ a pl ad qu n g) : n ≤ 8 := h.2.2.2.2.2.2.2.1.1
theorem c_ob (h : zC0 σ a pl ad qu n g) {i : Nat} (hi : i < n) : z_ob σ (pl i) 6 = true := (h.2.1.1 i (by have := c_n8 h; omega)).2.1
theorem c_S (h : zC0 σ a pl ad qu n g) {i : Nat} (hi : i < n) : z_I σ (pl i) 0 = n32 (ad i) ∧ z_I σ (pl i) 1 = g (18 + 7 * ad i + 1) ∧ z_I σ (pl i) 2 = g (18 + 7 * ad i + 2) ∧ z_I σ (pl i) 3 = g (18 + 7 * ad i + 3) ∧ z_I σ (pl i) 4 = g (18 + 7 * ad i + 4) ∧ z_I σ (pl i) 7 = g (18 + 7 * ad i + 5) ∧ z_I σ (pl i) 8 = g (18 + 7 * ad i + 6) := h.2.2.2.2.2.2.2.2.1 i hi
theorem c_ad (h : zC0 σ a pl ad qu n g) {i : Nat} (hi : i < n) : ad i < 32 ∧ g (18 + 7 * ad i + 0) = n32 1 := h.2.2.2.2.2.2.2.1.2.1 i hi
theorem c_L (h : zC0 σ a pl ad qu n g) : z_I σ a 5 = n32 n ∧ z_I σ a 6 = g 0 ∧ z_I σ a 7 = g 1 ∧ z_I σ a 8 = g 2 ∧ z_I σ a 9 = g 3 ∧ z_I σ a 10 = g 4 := h.2.2.1
theorem c_C (h : zC0 σ a pl ad qu n g) {i : Nat} (hi : i < 7) : z_I σ (a + 8) i = g (9 + i) := h.2.2.2.2.2.2.1.1 i hi
theorem c_tickp (h : zC0 σ a pl ad qu n g) : zAn σ (z_pI σ a 9 (g 3 + g 1)) a pl ad qu n (s_tick g) := c_time h _
/-- the others are asked -/
theorem c_ask {i : Nat} (hi : i < n) : ∀ (k : Nat) (σ : zSt) (g : zG) (to c : Nat), to < 32 → zCs σ a pl ad qu n g → g 4 = n32 (ad i) → (ad i + 32 - to) % 32 ≤ k → c + (ad i + 32 - to) % 32 ≤ 31 → ∀ N, k < N →
    ∃ σ', zloop (fun (t : zSt × Int32 × Int32) => b_X8_askOthers_10 a (pl i) t.1 t.2.1 t.2.2) N (σ, n32 to, n32 c) = some σ' ∧ zAn σ σ' a pl ad qu n (s_end (s_ask (ad i) k g to).1 (ad i) (s_ask (ad i) k g to).2) := by
  have stop : ∀ (σ : zSt) (g : zG) (c : Nat), zCs σ a pl ad qu n g → g 4 = n32 (ad i) → c ≤ 31 → ∃ σ', b_X8_askOthers_10 a (pl i) σ (n32 (ad i)) (n32 c) = some (.inr σ') ∧ zAn σ σ' a pl ad qu n (s_end g (ad i) (ad i)) := by
    intro σ g c h h4 hc
    have h0 := zC0_of h
    have A := c_sta h0 hi (f := 3) (w := 3) (by unfold s_fw; omega) (n32 (ad i))
    refine ⟨z_pI σ (pl i) 3 (n32 (ad i)), ?_, ?_⟩
    · simp (disch := omega) only [b_X8_askOthers_10, f_X8_askOthers_54, ↓zl_eq, ↓zb_eq, ↓zb2_eq, ↓zc_some, ↓zc_none, ↓zb_pre, ↓zb2_pre, ↓zc_pre, ↓zex_eq, ↓reduceIte, Option.isSome_some, Option.isSome_none, Option.getD_some, n32_lit, n32_lt, c_ob h0 hi, (c_S h0 hi).1]
      rw [if_neg (by omega)]
    · unfold s_end
      have hai := (c_ad h0 hi).1
      have e : gu g (18 + 7 * ad i + 3) (n32 (ad i)) 4 = n32 (ad i) := by rw [gu_ne _ _ (by omega)]; exact h4
      have e2 : gu (gu g (18 + 7 * ad i + 3) (n32 (ad i))) 4 (n32 (ad i)) = gu g (18 + 7 * ad i + 3) (n32 (ad i)) := by
        conv => lhs; rw [← e]
        have := gu_id (gu g (18 + 7 * ad i + 3) (n32 (ad i))) 4
        rw [e] at this ⊢
        exact this
      rw [e2]
      exact A
  intro k
  induction k with
  | zero =>
    intro σ g to c ht h h4 hd hc N hN
    obtain ⟨N, rfl⟩ : ∃ N', N = N' + 1 := ⟨N - 1, by omega⟩
    have hai := (c_ad (zC0_of h) hi).1
    have : to = ad i := by omega
    subst this
    obtain ⟨σ', E, A⟩ := stop σ g c h h4 (by omega)
    exact ⟨σ', zloop_r E, A⟩
  | succ k ih =>
    intro σ g to c ht h h4 hd hc N hN
    obtain ⟨N, rfl⟩ : ∃ N', N = N' + 1 := ⟨N - 1, by omega⟩
    have h0 := zC0_of h
    have hai := (c_ad h0 hi).1
    by_cases he : to = ad i
    · subst he
      obtain ⟨σ', E, A⟩ := stop σ g c h h4 (by omega)
      refine ⟨σ', zloop_r E, ?_⟩
      have : s_ask (ad i) (k + 1) g (ad i) = (g, ad i) := by rw [s_ask]; rw [if_pos rfl]
      rw [this]
      exact A
    · obtain ⟨σ1, E, A⟩ := c_reaches h ht
      have hm := Nat.mod_lt (to + 1) (show 32 > 0 by decide)
      have B : ∀ r, f_X8_reaches σ a (n32 to) = some r → True := fun _ _ => trivial
      by_cases hcc : s_l1 g = false ∧ s_ring (s_takes g (n32 1)) to = true
      · rw [if_pos hcc] at A
        rw [hcc.1, hcc.2] at E
        have es : s_ask (ad i) (k + 1) g to = (s_takes g (n32 1), to) := by rw [s_ask]; rw [if_neg he, if_pos hcc]
        rw [es]
        have h1 := zC0_step h0 A
        have A2 := c_sta h1 hi (f := 3) (w := 3) (by unfold s_fw; omega) (n32 to)
        have h2 := zC0_step h1 A2
        have A3 := c_hold h2 (n32 to)
        refine ⟨_, zloop_r ?_, zAn_t A (zAn_t A2 A3)⟩
        show b_X8_askOthers_10 a (pl i) σ (n32 to) (n32 c) = _
        simp (disch := omega) only [b_X8_askOthers_10, f_X8_askOthers_54, ↓zl_eq, ↓zb_eq, ↓zb2_eq, ↓zc_some, ↓zc_none, ↓zb_pre, ↓zb2_pre, ↓zc_pre, ↓zex_eq, ↓reduceIte, Option.isSome_some, Option.isSome_none, Option.getD_some, n32_lit, n32_lt, n32_eq, c_ob h0 hi, (c_S h0 hi).1, if_neg he, E, bi_0n, Bool.not_false, Bool.and_self, Bool.true_eq_false, c_ob h1 hi, z_ob_pI, h1.1.1]
        rw [if_neg (by omega)]
      · rw [if_neg hcc] at A
        have hcf : (!s_l1 g && s_ring (s_takes g (n32 1)) to) = false := by
          cases hl : s_l1 g <;> cases hr : s_ring (s_takes g (n32 1)) to <;> simp [hl, hr] at hcc ⊢
        rw [hcf] at E
        have h1 := zCs_step h A (by rw [s_tick_ne _ (by decide), s_takes_ne _ _ (by decide) (by decide)]) (s_sta_tick (s_sta_takes _ h.2.2.2.2))
        obtain ⟨σ2, E2, A2⟩ := ih σ1 _ ((to + 1) % 32) (c + 1) hm h1 (by rw [s_tick_ne _ (by omega), s_takes_ne _ _ (by omega) (by omega)]; exact h4) (by omega) (by omega) N (by omega)
        have es : s_ask (ad i) (k + 1) g to = s_ask (ad i) k (s_tick (s_takes g (n32 1))) ((to + 1) % 32) := by rw [s_ask]; rw [if_neg he, if_neg hcc]
        rw [es]
        refine ⟨σ2, (zloop_l (t := (σ1, n32 ((to + 1) % 32), n32 (c + 1))) ?_).trans E2, zAn_t A A2⟩
        show b_X8_askOthers_10 a (pl i) σ (n32 to) (n32 c) = _
        simp (disch := omega) only [b_X8_askOthers_10, f_X8_askOthers_54, ↓zl_eq, ↓zb_eq, ↓zb2_eq, ↓zc_some, ↓zc_none, ↓zb_pre, ↓zb2_pre, ↓zc_pre, ↓zex_eq, ↓reduceIte, Option.isSome_some, Option.isSome_none, Option.getD_some, n32_lit, n32_lt, n32_eq, c_ob h0 hi, (c_S h0 hi).1, if_neg he, E, bi_0n, c_addr _ ht, n32_add]
        rw [if_neg (by omega)]
theorem c_others (h : zCs σ a pl ad qu n g) {i nx : Nat} (hi : i < n) (hx : nx < 32) (h3 : g (18 + 7 * ad i + 3) = n32 nx) (h4 : g 4 = n32 (ad i)) :
    ∃ σ', f_X8_askOthers σ a (pl i) = some σ' ∧ zAn σ σ' a pl ad qu n (s_end (s_ask (ad i) 32 g ((nx + 1) % 32)).1 (ad i) (s_ask (ad i) 32 g ((nx + 1) % 32)).2) := by
  have h0 := zC0_of h
  have e3 : z_I σ (pl i) 3 = n32 nx := (c_S h0 hi).2.2.2.1.trans h3
  have hm := Nat.mod_lt (nx + 1) (show 32 > 0 by decide)
  obtain ⟨σ', E, A⟩ := c_ask hi 32 σ g ((nx + 1) % 32) 0 hm h h4 (by omega) (by omega) zN (by decide)
  refine ⟨σ', ?_, A⟩
  simp (disch := omega) only [f_X8_askOthers, f_X8_askOthers_10, ↓zl_eq, ↓zb_eq, ↓zb2_eq, ↓zc_some, ↓zc_none, ↓zb_pre, ↓zb2_pre, ↓zc_pre, ↓zex_eq, ↓reduceIte, Option.isSome_some, Option.isSome_none, Option.getD_some, n32_lit, c_ob h0 hi, e3, c_addr _ hx]
  exact E
/-- a station comes into the ring -/
def s_ci (g : zG) (h to : Nat) : Bool × zG :=
  if s_l1 g = true then (false, s_takes g (n32 1)) else if s_free (s_takes g (n32 1)) to = true then (if s_l1 (s_takes g (n32 1)) = true then (false, s_takes (s_takes g (n32 1)) (n32 1)) else (true, s_come (s_takes (s_takes g (n32 1)) (n32 1)) h to)) else (false, s_takes g (n32 1))
theorem s_poll_ci (g : zG) (h to : Nat) : s_poll g h to = if (s_ci (gu g (18 + 7 * h + 4) (n32 to)) h to).1 = true then (s_ci (gu g (18 + 7 * h + 4) (n32 to)) h to).2 else s_tick (s_ci (gu g (18 + 7 * h + 4) (n32 to)) h to).2 := by
  unfold s_poll s_ci s_asked
  generalize gu g (18 + 7 * h + 4) (n32 to) = g1
  generalize s_takes g1 (n32 1) = g2
  cases s_l1 g1 <;> cases s_free g2 to <;> cases s_l1 g2 <;> simp only [↓reduceIte, Bool.false_eq_true]
theorem c_comes (h : zCs σ a pl ad qu n g) {i to : Nat} (hi : i < n) (ht : to < 32) (h4 : g (18 + 7 * ad i + 4) = n32 to) :
    ∃ σ', f_X8_comesIn σ a (pl i) = some (bi (s_ci g (ad i) to).1, σ') ∧ zAn σ σ' a pl ad qu n (s_ci g (ad i) to).2 := by
  have h0 := zC0_of h
  obtain ⟨σ1, e1, A1⟩ := c_trans h (n32 1)
  have h1 := zCs_step h A1 (s_takes_ne _ _ (by decide) (by decide)) (s_sta_takes _ h.2.2.2.2)
  have h10 := zC0_of h1
  have hl : s_loud g (g 3) (g 3 + n32 1 - n32 1) = s_l1 g := rfl
  rw [hl] at e1
  have hai := (c_ad h0 hi).1
  have e4 : z_I σ1 (pl i) 4 = n32 to := by rw [(c_S h10 hi).2.2.2.2.1, s_takes_ne _ _ (by omega) (by omega)]; exact h4
  unfold s_ci
  cases hs : s_l1 g with
  | true =>
    rw [hs] at e1
    refine ⟨σ1, ?_, A1⟩
    simp only [f_X8_comesIn, f_X8_comesIn_20, f_X8_comesIn_39, ↓zl_eq, ↓zb_eq, ↓zb2_eq, ↓zc_some, ↓zc_none, ↓zb_pre, ↓zb2_pre, ↓zc_pre, ↓zex_eq, ↓reduceIte, Option.isSome_some, Option.isSome_none, Option.getD_some, n32_lit, h.1.1, e1, bi_0n, Bool.not_true]
    rfl
  | false =>
    rw [hs] at e1
    simp only [Bool.false_eq_true, if_false]
    rcases c_is h1 ht with hz | ⟨hz, k, hk, rfl⟩
    · have F := c_find0 h1 ht (by rw [hz]; decide)
      have hf : s_free (s_takes g (n32 1)) to = false := by
        unfold s_free; rw [hz]; rfl
      rw [hf]
      refine ⟨σ1, ?_, A1⟩
      simp only [f_X8_comesIn, f_X8_comesIn_20, f_X8_comesIn_39, ↓zl_eq, ↓zb_eq, ↓zb2_eq, ↓zc_some, ↓zc_none, ↓zb_pre, ↓zb2_pre, ↓zc_pre, ↓zex_eq, ↓reduceIte, Option.isSome_some, Option.isSome_none, Option.getD_some, n32_lit, h.1.1, h1.1.1, e1, bi_0n, Bool.not_false, Bool.true_eq_false, c_ob h10 hi, e4, F]
      rfl
    · have F := c_find1 h1 hk
      have hst := h1.2.2.2.2 (ad k) ht hz
      have s1 := (c_S h10 hk).2.1
      have s2 := (c_S h10 hk).2.2.1
      rcases hst.1 with ho | ho
      · have hf : s_free (s_takes g (n32 1)) (ad k) = false := by
          unfold s_free; rw [ho, hz]; rfl
        rw [hf]
        refine ⟨σ1, ?_, A1⟩
        rw [ho] at s1
        simp only [f_X8_comesIn, f_X8_comesIn_20, f_X8_comesIn_39, ↓zl_eq, ↓zb_eq, ↓zb2_eq, ↓zc_some, ↓zc_none, ↓zb_pre, ↓zb2_pre, ↓zc_pre, ↓zex_eq, ↓reduceIte, Option.isSome_some, Option.isSome_none, Option.getD_some, n32_lit, h.1.1, h1.1.1, e1, bi_0n, Bool.not_false, Bool.true_eq_false, c_ob h10 hi, e4, F, c_ob h10 hk, s1]
        rfl
      · rcases hst.2.1 with hr | hr
        · have hf : s_free (s_takes g (n32 1)) (ad k) = true := by
            unfold s_free; rw [ho, hz, hr]; rfl
          rw [hf]
          rw [ho] at s1
          rw [hr] at s2
          obtain ⟨σ2, e2, A2⟩ := c_trans h1 (n32 1)
          have hl2 : s_loud (s_takes g (n32 1)) (s_takes g (n32 1) 3) (s_takes g (n32 1) 3 + n32 1 - n32 1) = s_l1 (s_takes g (n32 1)) := rfl
          rw [hl2] at e2
          have h20 := zC0_step h10 A2
          cases hs2 : s_l1 (s_takes g (n32 1)) with
          | true =>
            rw [hs2] at e2
            refine ⟨σ2, ?_, zAn_t A1 A2⟩
            simp (disch := omega) only [f_X8_comesIn, f_X8_comesIn_20, f_X8_comesIn_39, ↓zl_eq, ↓zb_eq, ↓zb2_eq, ↓zc_some, ↓zc_none, ↓zb_pre, ↓zb2_pre, ↓zc_pre, ↓zex_eq, ↓reduceIte, Option.isSome_some, Option.isSome_none, Option.getD_some, n32_lit, h.1.1, h1.1.1, e1, bi_0n, Bool.not_false, Bool.not_true, Bool.true_eq_false, c_ob h10 hi, e4, F, c_ob h10 hk, s1, s2, n10, e2]
            rfl
          | false =>
            rw [hs2] at e2
            have A3 := c_sta h20 hk (f := 2) (w := 2) (by unfold s_fw; omega) (n32 1)
            generalize hg3 : s_takes (s_takes g (n32 1)) (n32 1) = g2 at *
            generalize hσ3 : z_pI σ2 (pl k) 2 (n32 1) = σ3 at A3
            have h30 := zC0_step h20 A3
            have r3 : z_I σ3 (pl i) 3 = g2 (18 + 7 * ad i + 3) := by rw [(c_S h30 hi).2.2.2.1, gu_ne _ _ (by omega)]
            have A4 := c_sta h30 hk (f := 3) (w := 3) (by unfold s_fw; omega) (g2 (18 + 7 * ad i + 3))
            generalize hσ4 : z_pI σ3 (pl k) 3 (g2 (18 + 7 * ad i + 3)) = σ4 at A4
            have h40 := zC0_step h30 A4
            have A5 := c_sta h40 hk (f := 4) (w := 4) (by unfold s_fw; omega) (n32 (ad k))
            generalize hσ5 : z_pI σ4 (pl k) 4 (n32 (ad k)) = σ5 at A5
            have h50 := zC0_step h40 A5
            have A6 := c_sta h50 hi (f := 3) (w := 3) (by unfold s_fw; omega) (n32 (ad k))
            generalize hσ6 : z_pI σ5 (pl i) 3 (n32 (ad k)) = σ6 at A6
            have h60 := zC0_step h50 A6
            have c4 : z_I σ6 (a + 8) 4 = g2 13 := by
              rw [c_C h60 (by decide)]
              simp (disch := omega) only [gu_ne]
            have A7 := c_cnt h60 (i := 4) (by decide) (g2 13 + n32 1)
            have L6 := h60.1
            refine ⟨_, ?_, zAn_t A1 (zAn_t A2 (zAn_t A3 (zAn_t A4 (zAn_t A5 (zAn_t A6 A7)))))⟩
            simp (disch := omega) only [f_X8_comesIn, f_X8_comesIn_20, f_X8_comesIn_39, ↓zl_eq, ↓zb_eq, ↓zb2_eq, ↓zc_some, ↓zc_none, ↓zb_pre, ↓zb2_pre, ↓zc_pre, ↓zex_eq, ↓reduceIte, Option.isSome_some, Option.isSome_none, Option.getD_some, n32_lit, h.1.1, h1.1.1, e1, bi_0n, Bool.not_false, Bool.true_eq_false, c_ob h10 hi, e4, F, c_ob h10 hk, s1, s2, n10, e2, c_ob h20 hk, hσ3, c_ob h30 hi, c_ob h30 hk, r3, hσ4, c_ob h40 hk, (c_S h40 hk).1, hσ5, c_ob h50 hk, c_ob h50 hi, (c_S h50 hk).1, hσ6, L6.1, L6.2.2.2.2.1, L6.2.2.2.2.2.2.2.2.2.2.2.2.2.2.2.2.2.2.2.2.2.1, c4]
            rfl
        · have hf : s_free (s_takes g (n32 1)) (ad k) = false := by
            unfold s_free; rw [hr]; simp only [Bool.and_eq_false_iff]; exact Or.inr rfl
          rw [hf]
          refine ⟨σ1, ?_, A1⟩
          rw [ho] at s1
          rw [hr] at s2
          simp (disch := omega) only [f_X8_comesIn, f_X8_comesIn_20, f_X8_comesIn_39, ↓zl_eq, ↓zb_eq, ↓zb2_eq, ↓zc_some, ↓zc_none, ↓zb_pre, ↓zb2_pre, ↓zc_pre, ↓zex_eq, ↓reduceIte, Option.isSome_some, Option.isSome_none, Option.getD_some, n32_lit, h.1.1, h1.1.1, e1, bi_0n, Bool.not_false, Bool.true_eq_false, c_ob h10 hi, e4, F, c_ob h10 hk, s1, s2, n10]
          rfl
end CLASS
