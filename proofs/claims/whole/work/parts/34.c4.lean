theorem n32_nb : ∀ x, x < 32 → (n32 x + n32 1) &&& n32 31 = n32 ((x + 1) % 32) := by decide +kernel
theorem n32_bw : ∀ h, h < 32 → ∀ x, x < 32 → (n32 x - n32 h - n32 1) &&& n32 31 = n32 (s_bhd h x - 1) := by decide +kernel
theorem n32_ds : ∀ h, h < 32 → ∀ x, x < 32 → (n32 x - n32 h) &&& n32 31 = n32 (if s_bhd h x = 32 then 0 else s_bhd h x) := by decide +kernel
/-- what stands at a station -/
def s_sta (g : zG) : Prop := ∀ x, x < 32 → g (18 + 7 * x + 0) = n32 1 →
  (g (18 + 7 * x + 1) = n32 0 ∨ g (18 + 7 * x + 1) = n32 1) ∧ (g (18 + 7 * x + 2) = n32 0 ∨ g (18 + 7 * x + 2) = n32 1) ∧ (g (18 + 7 * x + 2) = n32 1 → g (18 + 7 * x + 1) = n32 1) ∧ (∃ y, y < 32 ∧ g (18 + 7 * x + 3) = n32 y) ∧ ∃ y, y < 32 ∧ g (18 + 7 * x + 4) = n32 y
theorem s_sta_congr {g g' : zG} (h : ∀ j, 18 ≤ j → j < 242 → g' j = g j) (H : s_sta g) : s_sta g' := by
  intro x hx h0
  rw [h _ (by omega) (by omega)] at h0
  have := H x hx h0
  rw [h _ (by omega) (by omega), h _ (by omega) (by omega), h _ (by omega) (by omega), h _ (by omega) (by omega)]
  exact this
theorem s_sta_takes {g : zG} (t : Int32) (H : s_sta g) : s_sta (s_takes g t) := s_sta_congr (fun j _ _ => s_takes_ne _ _ (by omega) (by omega)) H
theorem s_sta_tick {g : zG} (H : s_sta g) : s_sta (s_tick g) := s_sta_congr (fun j _ _ => s_tick_ne _ (by omega)) H
/-- the class's side of a part of a visit: what is asked of a line -/
def zCs (σ : zSt) (a : Nat) (pl ad : Nat → Nat) (qu : Nat → Nat → Nat) (n : Nat) (g : zG) : Prop :=
  zLs σ a ∧ zPl σ a pl ∧ zRep σ a pl ad qu n g ∧ (∃ z, z ≤ 20 ∧ g 6 = n32 z) ∧ s_sta g
/-- and what is answered -/
def zAn (σ σ' : zSt) (a : Nat) (pl ad : Nat → Nat) (qu : Nat → Nat → Nat) (n : Nat) (g : zG) : Prop :=
  zFr a σ σ' ∧ z_I σ' (a + 10) = z_I σ (a + 10) ∧ zRep σ' a pl ad qu n g
theorem zCs_step {σ σ' : zSt} {a : Nat} {pl ad : Nat → Nat} {qu : Nat → Nat → Nat} {n : Nat} {g g' : zG} (h : zCs σ a pl ad qu n g) (h2 : zAn σ σ' a pl ad qu n g') (h6 : g' 6 = g 6) (hs : s_sta g') : zCs σ' a pl ad qu n g' :=
  ⟨zLs_fr h2.1 h.1, zPl_fr h2.1 h.2.1, h2.2.2, by rw [h6]; exact h.2.2.2.1, hs⟩
theorem zAn_t {σ σ' σ'' : zSt} {a : Nat} {pl ad : Nat → Nat} {qu : Nat → Nat → Nat} {n : Nat} {g g' : zG} (h : zAn σ σ' a pl ad qu n g) (h2 : zAn σ' σ'' a pl ad qu n g') : zAn σ σ'' a pl ad qu n g' :=
  ⟨zFr_t h.1 h2.1, h2.2.1.trans h.2.1, h2.2.2⟩
section CLASS
variable {σ : zSt} {a n : Nat} {pl ad : Nat → Nat} {qu : Nat → Nat → Nat} {g : zG}
theorem c_find1 (h : zCs σ a pl ad qu n g) {i : Nat} (hi : i < n) : f_X2_stationWith σ a (n32 (ad i)) = some (some (pl i)) := by
  obtain ⟨hL, hP, ⟨hRL, hRW, hRM, hRN, hRC, hRA, hRS, hRQ⟩, _, _⟩ := h
  exact c_stationWith1 hL hP hRA.1 hRL.1 (fun i hi => ⟨(hRA.2.1 i hi).1, (hRS i hi).1⟩) hRA.2.2.1 hi
theorem c_find0 (h : zCs σ a pl ad qu n g) {x : Nat} (hx : x < 32) (h0 : ¬ g (18 + 7 * x + 0) = n32 1) : f_X2_stationWith σ a (n32 x) = some none := by
  obtain ⟨hL, hP, ⟨hRL, hRW, hRM, hRN, hRC, hRA, hRS, hRQ⟩, _, _⟩ := h
  refine c_stationWith0 hL hP hRA.1 hRL.1 _ (fun i hi he => h0 ?_)
  have h32 := (hRA.2.1 i hi).1
  rw [(hRS i hi).1, n32_eq (by omega) (by omega)] at he
  rw [← he]; exact (hRA.2.1 i hi).2
theorem c_findn (h : zCs σ a pl ad qu n g) : f_X2_stationWith σ a nn = some none := by
  obtain ⟨hL, hP, ⟨hRL, hRW, hRM, hRN, hRC, hRA, hRS, hRQ⟩, _, _⟩ := h
  refine c_stationWith0 hL hP hRA.1 hRL.1 _ (fun i hi he => ?_)
  have h32 := (hRA.2.1 i hi).1
  rw [(hRS i hi).1, n32_ne (by omega)] at he
  exact he
theorem c_is (h : zCs σ a pl ad qu n g) {x : Nat} (hx : x < 32) : g (18 + 7 * x + 0) = n32 0 ∨ (g (18 + 7 * x + 0) = n32 1 ∧ ∃ i, i < n ∧ ad i = x) := h.2.2.1.2.2.2.2.2.1.2.2.2 x hx
theorem c_addr (σ : zSt) {x : Nat} (hx : x < 32) : f_X9_addressBehind σ (n32 x) = some (n32 ((x + 1) % 32)) := by
  simp only [f_X9_addressBehind, n32_lit, n32_nb x hx]
theorem c_trans (h : zCs σ a pl ad qu n g) (t : Int32) : ∃ σ', f_X2_transmit σ a t = some (bi (!s_loud g (g 3) (g 3 + t - n32 1)), σ') ∧ zAn σ σ' a pl ad qu n (s_takes g t) :=
  c_transmit h.1 h.2.1 h.2.2.1 h.2.2.2.1 t
theorem c_tick (h : zCs σ a pl ad qu n g) : zAn σ (z_sA σ a (gu (z_I σ a) 9 (z_I σ a 9 + z_I σ a 7))) a pl ad qu n (s_tick g) := by
  have e9 : z_I σ a 9 = g 3 := h.2.2.1.1.2.2.2.2.1
  have e7 : z_I σ a 7 = g 1 := h.2.2.1.1.2.2.1
  rw [e9, e7]
  exact ⟨zFr_sA σ (Nat.le_refl _) (by omega) _, (by simp (disch := omega) only [z_I_sA, z_I_sAn, z_J_sA]), zRep_time h.2.1 h.2.2.1 _⟩
theorem c_reaches (h : zCs σ a pl ad qu n g) {x : Nat} (hx : x < 32) :
    ∃ σ', f_X8_reaches σ a (n32 x) = some (bi (!s_l1 g && s_ring (s_takes g (n32 1)) x), σ') ∧ zAn σ σ' a pl ad qu n (if s_l1 g = false ∧ s_ring (s_takes g (n32 1)) x = true then s_takes g (n32 1) else s_tick (s_takes g (n32 1))) := by
  obtain ⟨σ1, e1, A1⟩ := c_trans h (n32 1)
  have h1 := zCs_step h A1 (s_takes_ne _ _ (by decide) (by decide)) (s_sta_takes _ h.2.2.2.2)
  have A2 := c_tick h1
  have hl : s_loud g (g 3) (g 3 + n32 1 - n32 1) = s_l1 g := rfl
  rw [hl] at e1
  have T : f_X8_reaches_38 σ1 a = some (n32 0, z_sA σ1 a (gu (z_I σ1 a) 9 (z_I σ1 a 9 + z_I σ1 a 7))) := by
    have hL := h1.1
    simp only [f_X8_reaches_38, ↓zl_eq, ↓zb_eq, ↓zb2_eq, ↓zc_some, ↓zc_none, ↓zb_pre, ↓zb2_pre, ↓zc_pre, ↓zex_eq, ↓reduceIte, Option.isSome_some, Option.isSome_none, Option.getD_some, hL.1, hL.2.1, hL.2.2.1, hL.2.2.2.1, hL.2.2.2.2.1, hL.2.2.2.2.2.1, hL.2.2.2.2.2.2.1, hL.2.2.2.2.2.2.2.1, hL.2.2.2.2.2.2.2.2.1, hL.2.2.2.2.2.2.2.2.2.1, hL.2.2.2.2.2.2.2.2.2.2.1, hL.2.2.2.2.2.2.2.2.2.2.2.1, hL.2.2.2.2.2.2.2.2.2.2.2.2.1, hL.2.2.2.2.2.2.2.2.2.2.2.2.2.1, hL.2.2.2.2.2.2.2.2.2.2.2.2.2.2.1, hL.2.2.2.2.2.2.2.2.2.2.2.2.2.2.2.1, hL.2.2.2.2.2.2.2.2.2.2.2.2.2.2.2.2.1, hL.2.2.2.2.2.2.2.2.2.2.2.2.2.2.2.2.2.1, hL.2.2.2.2.2.2.2.2.2.2.2.2.2.2.2.2.2.2.1, hL.2.2.2.2.2.2.2.2.2.2.2.2.2.2.2.2.2.2.2.1, hL.2.2.2.2.2.2.2.2.2.2.2.2.2.2.2.2.2.2.2.2.1, hL.2.2.2.2.2.2.2.2.2.2.2.2.2.2.2.2.2.2.2.2.2.1, hL.2.2.2.2.2.2.2.2.2.2.2.2.2.2.2.2.2.2.2.2.2.2.1, hL.2.2.2.2.2.2.2.2.2.2.2.2.2.2.2.2.2.2.2.2.2.2.2.1, hL.2.2.2.2.2.2.2.2.2.2.2.2.2.2.2.2.2.2.2.2.2.2.2.2.1, hL.2.2.2.2.2.2.2.2.2.2.2.2.2.2.2.2.2.2.2.2.2.2.2.2.2, z_pI_eq, n32_lit]
  have hL := h.1
  have hL1 := h1.1
  cases hs : s_l1 g with
  | true =>
    rw [hs] at e1
    refine ⟨_, ?_, zAn_t A1 (by rw [if_neg (by simp)]; exact A2)⟩
    simp only [f_X8_reaches, f_X8_reaches_17, ↓zl_eq, ↓zb_eq, ↓zb2_eq, ↓zc_some, ↓zc_none, ↓zb_pre, ↓zb2_pre, ↓zc_pre, ↓zex_eq, ↓reduceIte, Option.isSome_some, Option.isSome_none, Option.getD_some, n32_lit, hL.1, hL.2.1, hL.2.2.1, hL.2.2.2.1, hL.2.2.2.2.1, hL.2.2.2.2.2.1, hL.2.2.2.2.2.2.1, hL.2.2.2.2.2.2.2.1, hL.2.2.2.2.2.2.2.2.1, hL.2.2.2.2.2.2.2.2.2.1, hL.2.2.2.2.2.2.2.2.2.2.1, hL.2.2.2.2.2.2.2.2.2.2.2.1, hL.2.2.2.2.2.2.2.2.2.2.2.2.1, hL.2.2.2.2.2.2.2.2.2.2.2.2.2.1, hL.2.2.2.2.2.2.2.2.2.2.2.2.2.2.1, hL.2.2.2.2.2.2.2.2.2.2.2.2.2.2.2.1, hL.2.2.2.2.2.2.2.2.2.2.2.2.2.2.2.2.1, hL.2.2.2.2.2.2.2.2.2.2.2.2.2.2.2.2.2.1, hL.2.2.2.2.2.2.2.2.2.2.2.2.2.2.2.2.2.2.1, hL.2.2.2.2.2.2.2.2.2.2.2.2.2.2.2.2.2.2.2.1, hL.2.2.2.2.2.2.2.2.2.2.2.2.2.2.2.2.2.2.2.2.1, hL.2.2.2.2.2.2.2.2.2.2.2.2.2.2.2.2.2.2.2.2.2.1, hL.2.2.2.2.2.2.2.2.2.2.2.2.2.2.2.2.2.2.2.2.2.2.1, hL.2.2.2.2.2.2.2.2.2.2.2.2.2.2.2.2.2.2.2.2.2.2.2.1, hL.2.2.2.2.2.2.2.2.2.2.2.2.2.2.2.2.2.2.2.2.2.2.2.2.1, hL.2.2.2.2.2.2.2.2.2.2.2.2.2.2.2.2.2.2.2.2.2.2.2.2.2, e1, T, bi_0n, Bool.not_true]
    rfl
  | false =>
    rw [hs] at e1
    by_cases hr : s_ring (s_takes g (n32 1)) x = true
    · refine ⟨σ1, ?_, by rw [if_pos ⟨rfl, hr⟩]; exact A1⟩
      simp only [s_ring, Bool.and_eq_true, decide_eq_true_eq] at hr
      obtain ⟨i, hi, rfl⟩ : ∃ i, i < n ∧ ad i = x := by
        rcases c_is h1 hx with h0 | h0
        · rw [h0] at hr; exact absurd hr.1.1 (by decide)
        · exact h0.2
      have F := c_find1 h1 hi
      have RSi := h1.2.2.1.2.2.2.2.2.2.1 i hi
      have hob := (h1.2.1.1 i (by have := h1.2.2.1.2.2.2.2.2.1.1; omega)).2.1
      have hr2 : s_ring (s_takes g (n32 1)) (ad i) = true := by simp only [s_ring, hr.1.1, hr.1.2, hr.2, decide_true, Bool.and_self]
      have e11 : z_I σ1 (pl i) 1 = n32 1 := RSi.2.1.trans hr.1.2
      have e12 : z_I σ1 (pl i) 2 = n32 1 := RSi.2.2.1.trans hr.2
      simp (disch := omega) only [f_X8_reaches, f_X8_reaches_17, ↓zl_eq, ↓zb_eq, ↓zb2_eq, ↓zc_some, ↓zc_none, ↓zb_pre, ↓zb2_pre, ↓zc_pre, ↓zex_eq, ↓reduceIte, Option.isSome_some, Option.isSome_none, Option.getD_some, n32_lit, hL.1, hL1.1, e1, T, bi_0n, F, hob, e11, e12, n32_eq, hr2, Bool.not_false, Bool.true_eq_false]
      simp only [Nat.one_ne_zero, if_false, Bool.and_self]
      rfl
    · refine ⟨_, ?_, zAn_t A1 (by rw [if_neg (by simp [hr])]; exact A2)⟩
      have hrf : s_ring (s_takes g (n32 1)) x = false := by simpa using hr
      rcases c_is h1 hx with h0 | ⟨h0, i, hi, rfl⟩
      · have F := c_find0 h1 hx (by rw [h0]; decide)
        simp (disch := omega) only [f_X8_reaches, f_X8_reaches_17, ↓zl_eq, ↓zb_eq, ↓zb2_eq, ↓zc_some, ↓zc_none, ↓zb_pre, ↓zb2_pre, ↓zc_pre, ↓zex_eq, ↓reduceIte, Option.isSome_some, Option.isSome_none, Option.getD_some, n32_lit, hL.1, hL1.1, e1, T, bi_0n, F, hrf, Bool.not_false, Bool.true_eq_false, Bool.and_false]
        rfl
      · have F := c_find1 h1 hi
        have RSi := h1.2.2.1.2.2.2.2.2.2.1 i hi
        have hob := (h1.2.1.1 i (by have := h1.2.2.1.2.2.2.2.2.1.1; omega)).2.1
        have hst := h1.2.2.2.2 (ad i) hx h0
        simp only [s_ring, h0, decide_true, Bool.true_and, Bool.and_eq_true, decide_eq_true_eq, not_and] at hr
        have e11 := RSi.2.1
        have e12 := RSi.2.2.1
        simp (disch := omega) only [f_X8_reaches, f_X8_reaches_17, ↓zl_eq, ↓zb_eq, ↓zb2_eq, ↓zc_some, ↓zc_none, ↓zb_pre, ↓zb2_pre, ↓zc_pre, ↓zex_eq, ↓reduceIte, Option.isSome_some, Option.isSome_none, Option.getD_some, n32_lit, hL.1, hL1.1, e1, T, bi_0n, F, hob, e11, e12, hrf, Bool.not_false, Bool.true_eq_false, Bool.and_false]
        rcases hst.1 with ho | ho
        · simp only [ho, if_true]; rfl
        · rcases hst.2.1 with hq | hq
          · simp only [hq, if_true, ite_self]; rfl
          · exact absurd hq (hr ho)
end CLASS
