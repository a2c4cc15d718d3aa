section CLASS
variable {σ : zSt} {a n : Nat} {pl ad : Nat → Nat} {qu : Nat → Nat → Nat} {g : zG}
theorem c_settingValue (h : zCs σ a pl ad qu n g) {what : Nat} (hw : what < 9) : f_X2_settingValue σ a (n32 what) = some (s_set g what) := by
  have h0 := zC0_of h
  have hL := h.1
  obtain ⟨l5, l6, l7, l8, l9, l10⟩ := c_L h0
  have R := c_ringSize h
  have eN : z_I σ (a + 5) 2 = g 6 := h.2.2.1.2.2.2.1.1
  have eM : z_I σ (a + 2) 1 = g 5 := h.2.2.1.2.2.1.1
  have o1 := hL.1
  have r1 := hL.2.2.1
  have r2 := hL.2.2.2.1
  have o2 := hL.2.2.2.2.2.2.2.2.1
  have o5 := hL.2.2.2.2.2.2.2.2.2.2.2.2.2.2.1
  have e3 := s_sum_n (c_qA h0)
  unfold s_set
  rw [e3]
  simp (disch := omega) only [f_X2_settingValue, f_X3_number, ↓zl_eq, ↓zb_eq, ↓zb2_eq, ↓zc_some, ↓zc_none, ↓zb_pre, ↓zb2_pre, ↓zc_pre, ↓zex_eq, ↓reduceIte, Option.isSome_some, Option.isSome_none, Option.getD_some, n32_lit, n32_eq, o1, l5, l6, l7, l8, l9, l10, R, r1, r2, o2, o5, eN, eM]
  rcases (show what = 0 ∨ what = 1 ∨ what = 2 ∨ what = 3 ∨ what = 4 ∨ what = 5 ∨ what = 6 ∨ what = 7 ∨ what = 8 by omega) with rfl | rfl | rfl | rfl | rfl | rfl | rfl | rfl | rfl <;> simp
theorem c_value6 (h : zCs σ a pl ad qu n g) {i what : Nat} (hi : i < n) (hw : what < 7) : f_X6_value σ (pl i) (n32 what) = some (s_stv g (ad i) what (s_nat g 5)) := by
  have h0 := zC0_of h
  have ob := c_ob h0 hi
  obtain ⟨s0, s1, s2, s3, s4, s7, s8⟩ := c_S h0 hi
  have e6 := (c_Q h0 hi).1
  have st := h.2.2.2.2 (ad i) (c_ad h0 hi).1 (c_ad h0 hi).2
  unfold s_stv
  simp (disch := omega) only [f_X6_value, f_X6_value_52, f_X6_value_65, ↓zl_eq, ↓zb_eq, ↓zb2_eq, ↓zc_some, ↓zc_none, ↓zb_pre, ↓zb2_pre, ↓zc_pre, ↓zex_eq, ↓reduceIte, Option.isSome_some, Option.isSome_none, Option.getD_some, n32_lit, n32_eq, ob, s1, s2, s3, s4, s7, s8, e6]
  have e1 : (if g (18 + 7 * ad i + 1) = n32 0 then some (n32 0) else some (n32 1)) = some (g (18 + 7 * ad i + 1)) := by
    rcases st.1 with r | r
    · rw [r, if_pos rfl]
    · rw [r, if_neg nn10]
  have e2 : (if g (18 + 7 * ad i + 2) = n32 0 then some (n32 0) else some (n32 1)) = some (g (18 + 7 * ad i + 2)) := by
    rcases st.2.1 with r | r
    · rw [r, if_pos rfl]
    · rw [r, if_neg nn10]
  have el : s_cnt (s_wt g (n32 (ad i))) (s_nat g 5) = s_len g (ad i) := rfl
  rw [e1, e2, el]
  rcases (show what = 0 ∨ what = 1 ∨ what = 2 ∨ what = 3 ∨ what = 4 ∨ what = 5 ∨ what = 6 by omega) with rfl | rfl | rfl | rfl | rfl | rfl | rfl <;> simp
theorem c_value0 (h : zC0 σ a pl ad qu n g) {i : Nat} (hi : i < 7) : f_X0_value σ (a + 8) (n32 i) = some (g (9 + i)) := by
  have o8 := h.1.2.2.2.2.2.2.2.2.2.2.2.2.2.2.2.2.2.2.2.2.2.1
  have c0 := c_C h (i := 0) (by decide)
  have c1 := c_C h (i := 1) (by decide)
  have c2 := c_C h (i := 2) (by decide)
  have c3 := c_C h (i := 3) (by decide)
  have c4 := c_C h (i := 4) (by decide)
  have c5 := c_C h (i := 5) (by decide)
  have c6 := c_C h (i := 6) (by decide)
  simp (disch := omega) only [f_X0_value, ↓zl_eq, ↓zb_eq, ↓zb2_eq, ↓zc_some, ↓zc_none, ↓zb_pre, ↓zb2_pre, ↓zc_pre, ↓zex_eq, ↓reduceIte, Option.isSome_some, Option.isSome_none, Option.getD_some, n32_lit, n32_eq, o8, c0, c1, c2, c3, c4, c5, c6]
  rcases (show i = 0 ∨ i = 1 ∨ i = 2 ∨ i = 3 ∨ i = 4 ∨ i = 5 ∨ i = 6 by omega) with rfl | rfl | rfl | rfl | rfl | rfl | rfl <;> simp
theorem c_logLength (h : zC0 σ a pl ad qu n g) {mv : Nat} (hmv : mv < 2147483648) (h9 : g 9 = n32 mv) (h7 : g 7 = n32 (min mv 40)) : f_X2_logLength σ a = some (g 7) := by
  have e0 : z_I σ (a + 8) 0 = n32 mv := (c_C h (i := 0) (by decide)).trans h9
  have o1 := h.1.1
  have r3 := h.1.2.2.2.2.1
  have o8 := h.1.2.2.2.2.2.2.2.2.2.2.2.2.2.2.2.2.2.2.2.2.2.1
  simp only [f_X2_logLength, ↓zl_eq, ↓zb_eq, ↓zb2_eq, ↓zc_some, ↓zc_none, ↓zb_pre, ↓zb2_pre, ↓zc_pre, ↓zex_eq, ↓reduceIte, Option.isSome_some, Option.isSome_none, Option.getD_some, n32_lit, o1, r3, o8, e0]
  rw [h7]
  congr 1
  by_cases h : 40 < mv
  · rw [if_pos (by rw [n32_lt (by omega) (by omega)]; exact h)]; congr 1; omega
  · rw [if_neg (by rw [n32_lt (by omega) (by omega)]; exact h)]; congr 1; omega
theorem c_logValue (h : zC0 σ a pl ad qu n g) (hG : qG σ a g) {mv : Nat} (hmv : mv ≤ 2000000000) (h9 : g 9 = n32 mv) (h7 : g 7 = n32 (min mv 40)) {i w : Nat} (hi : i < min mv 40) (hw : w < 4) : f_X2_logValue σ a (n32 i) (n32 w) = some (g (782 + 4 * i + w)) := by
  have e0 : z_I σ (a + 8) 0 = n32 mv := (c_C h (i := 0) (by decide)).trans h9
  have o1 := h.1.1
  have r3 := h.1.2.2.2.2.1
  have r4 := h.1.2.2.2.2.2.1
  have o8 := h.1.2.2.2.2.2.2.2.2.2.2.2.2.2.2.2.2.2.2.2.2.2.1
  have o9 := h.1.2.2.2.2.2.2.2.2.2.2.2.2.2.2.2.2.2.2.2.2.2.2.1
  have LL := c_logLength h (by omega) h9 h7
  rw [h7] at LL
  have n7 : s_nat g 7 = min mv 40 := s_nat_n32 h7 (by omega)
  have n9 : s_nat g 9 = mv := s_nat_n32 h9 (by omega)
  have hm := Nat.mod_lt (mv - min mv 40 + i) (show 40 > 0 by decide)
  have ex : n32 mv - n32 (min mv 40) = n32 (mv - min mv 40) := n32_sub (by omega)
  have em : n32 (mv - min mv 40 + i) - n32 (mv - min mv 40 + i) / n32 40 * n32 40 = n32 ((mv - min mv 40 + i) % 40) := n32_mod (by omega) (by omega)
  have A := c_at4 (σ := σ) h.1 h.2.2.2.1.2 hm hw
  have G := hG i w (by rw [n7]; exact hi) hw
  rw [n7, n9] at G
  simp only [f_X2_logValue, ↓zl_eq, ↓zb_eq, ↓zb2_eq, ↓zc_some, ↓zc_none, ↓zb_pre, ↓zb2_pre, ↓zc_pre, ↓zex_eq, ↓reduceIte, Option.isSome_some, Option.isSome_none, Option.getD_some, n32_lit, o1, r3, r4, o8, o9, LL, e0, ex, n32_add, em, A, G]
/-- the station at a place that is none -/
theorem c_in0 (h : zC0 σ a pl ad qu n g) (x : Int32) (hx : ¬ (0 ≤ x.toInt ∧ x.toInt < n)) : f_X2_stationIn σ a x = some none := by
  have hn := c_n8 h
  have e5 := (c_L h).1
  have o1 := h.1.1
  have r0 := h.1.2.1
  have z0 : ((0 : Int32).toInt) = 0 := rfl
  unfold f_X2_stationIn f_X2_stationIn_30 f_X2_stationIn_31
  by_cases h1 : x < 0
  · rw [if_pos h1]
  · rw [if_neg h1, if_pos o1, e5]
    rw [Int32.lt_iff_toInt_lt] at h1
    have h2 : n32 n ≤ x := by rw [Int32.le_iff_toInt_le, n32_toInt (by omega)]; omega
    rw [if_pos h2]
end CLASS
