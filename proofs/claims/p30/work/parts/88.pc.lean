/-! THE DIGEST -/
def s_hs (F : Nat → Int64) (h : Int64) : Nat → Int64
  | 0 => h
  | k + 1 => 31 * s_hs F h k + F k
def s_hst (g : zG) (qu : Nat → Nat → Nat) (x : Nat) (h : Int64) : Int64 := s_hs (fun j => (n32 (qu x j)).toInt64) (s_hs (fun w => (s_stv g x w (s_nat g 5)).toInt64) (31 * h + (n32 x).toInt64) 7) (s_len g x)
def s_hlog (g : zG) (h : Int64) : Int64 := s_hs (fun k => (g (782 + k)).toInt64) (31 * h + (g 7).toInt64) (4 * s_nat g 7)
def s_hcnt (g : zG) (h : Int64) : Int64 := s_hlog g (31 * s_hs (fun w => (g (9 + w)).toInt64) h 7 + (g 8).toInt64)
def s_hmes (g : zG) (h : Int64) : Int64 := s_hcnt g (s_hs (fun k => (g (242 + k)).toInt64) h (5 * s_nat g 5))
def s_hall (g : zG) (qu : Nat → Nat → Nat) (h : Int64) : Int64 := s_hmes g (s_fA (s_is g) (s_hst g qu) (s_hs (fun w => (s_set g w).toInt64) h 9) 32)
section CLASS
variable {σ : zSt} {a n : Nat} {pl ad : Nat → Nat} {qu : Nat → Nat → Nat} {g : zG}
theorem c_withLog (h : zC0 σ a pl ad qu n g) (hG : qG σ a g) {mv : Nat} (hmv : mv ≤ 2000000000) (h9 : g 9 = n32 mv) (h7 : g 7 = n32 (min mv 40)) (H : Int64) : f_X2_withLog σ a H = some (s_hlog g H) := by
  have o1 := h.1.1
  have LL := c_logLength h (by omega) h9 h7
  have n7 : s_nat g 7 = min mv 40 := s_nat_n32 h7 (by omega)
  unfold s_hlog
  rw [n7]
  simp only [f_X2_withLog, f_X9_mixed, ↓zl_eq, ↓zb_eq, ↓zb2_eq, ↓zc_some, ↓zc_none, ↓zb_pre, ↓zb2_pre, ↓zc_pre, ↓zex_eq, ↓reduceIte, Option.isSome_some, Option.isSome_none, Option.getD_some, o1, LL]
  rw [h7]
  generalize (31 * H + (n32 (min mv 40)).toInt64) = H1
  unfold f_X2_withLog_16
  refine zloop_go (N := zN) (fun i => (s_hs (fun k => (g (782 + k)).toInt64) H1 (4 * i), n32 i)) _ (min mv 40) (fun i hi => ?_) ?_ (by unfold zN; omega)
  · show b_X2_withLog_16 σ a (n32 (min mv 40)) (s_hs (fun k => (g (782 + k)).toInt64) H1 (4 * i)) (n32 i) = some (.inl (s_hs (fun k => (g (782 + k)).toInt64) H1 (4 * (i + 1)), n32 (i + 1)))
    unfold b_X2_withLog_16
    rw [if_neg (by rw [n32_le (by omega) (by omega)]; omega)]
    unfold f_X2_withLog_25
    refine zloop_go (N := zN) (fun w => (s_hs (fun k => (g (782 + k)).toInt64) H1 (4 * i + w), n32 w)) _ 4 (fun w hw => ?_) ?_ (by unfold zN; omega)
    · show b_X2_withLog_25 σ a (n32 (min mv 40)) (n32 i) (s_hs (fun k => (g (782 + k)).toInt64) H1 (4 * i + w)) (n32 w) = some (.inl (31 * s_hs (fun k => (g (782 + k)).toInt64) H1 (4 * i + w) + (g (782 + (4 * i + w))).toInt64, n32 (w + 1)))
      have V := c_logValue h hG hmv h9 h7 hi hw
      rw [← Nat.add_assoc]
      simp (disch := omega) only [b_X2_withLog_25, f_X9_mixed, ↓zl_eq, ↓zb_eq, ↓zb2_eq, ↓zc_some, ↓zc_none, ↓zb_pre, ↓zb2_pre, ↓zc_pre, ↓zex_eq, ↓reduceIte, Option.isSome_some, Option.isSome_none, Option.getD_some, n32_lit, n32_le, o1, V, n32_add]
      rw [if_neg (by omega)]
    · show b_X2_withLog_25 σ a (n32 (min mv 40)) (n32 i) (s_hs (fun k => (g (782 + k)).toInt64) H1 (4 * i + 4)) (n32 4) = _
      simp (disch := omega) only [b_X2_withLog_25, ↓zl_eq, ↓zb_eq, ↓zb2_eq, ↓zc_some, ↓zc_none, ↓zb_pre, ↓zb2_pre, ↓zc_pre, ↓zex_eq, ↓reduceIte, Option.isSome_some, Option.isSome_none, Option.getD_some, n32_lit, n32_le, Nat.le_refl, n32_add, Nat.mul_succ]
  · show b_X2_withLog_16 σ a (n32 (min mv 40)) (s_hs (fun k => (g (782 + k)).toInt64) H1 (4 * min mv 40)) (n32 (min mv 40)) = _
    unfold b_X2_withLog_16
    rw [if_pos (by rw [n32_le (by omega) (by omega)]; omega)]
    rfl
theorem c_h116 (h : zC0 σ a pl ad qu n g) (hG : qG σ a g) {mv : Nat} (hmv : mv ≤ 2000000000) (h9 : g 9 = n32 mv) (h7 : g 7 = n32 (min mv 40)) (H : Int64) : f_X2_hashed_116 σ a H (n32 0) = some (s_hcnt g H) := by
  have o1 := h.1.1
  have r3 := h.1.2.2.2.2.1
  have o8 := h.1.2.2.2.2.2.2.2.2.2.2.2.2.2.2.2.2.2.2.2.2.2.1
  have c7 : z_I σ (a + 8) 7 = g 8 := h.2.2.2.2.2.2.1.2.1
  unfold s_hcnt
  have WL := c_withLog h hG hmv h9 h7 (31 * s_hs (fun w => (g (9 + w)).toInt64) H 7 + (g 8).toInt64)
  unfold f_X2_hashed_116
  refine zloop_go (N := zN) (fun w => (s_hs (fun w => (g (9 + w)).toInt64) H w, n32 w)) _ 7 (fun w hw => ?_) ?_ (by unfold zN; omega)
  · show b_X2_hashed_116 σ a (s_hs (fun w => (g (9 + w)).toInt64) H w) (n32 w) = some (.inl (31 * s_hs (fun w => (g (9 + w)).toInt64) H w + (g (9 + w)).toInt64, n32 (w + 1)))
    have V := c_value0 h hw
    simp (disch := omega) only [b_X2_hashed_116, f_X9_mixed, ↓zl_eq, ↓zb_eq, ↓zb2_eq, ↓zc_some, ↓zc_none, ↓zb_pre, ↓zb2_pre, ↓zc_pre, ↓zex_eq, ↓reduceIte, Option.isSome_some, Option.isSome_none, Option.getD_some, n32_lit, n32_lt, o1, r3, o8, V, n32_add]
    rw [if_neg (by omega)]
  · show b_X2_hashed_116 σ a (s_hs (fun w => (g (9 + w)).toInt64) H 7) (n32 7) = _
    simp (disch := omega) only [b_X2_hashed_116, f_X9_mixed, ↓zl_eq, ↓zb_eq, ↓zb2_eq, ↓zc_some, ↓zc_none, ↓zb_pre, ↓zb2_pre, ↓zc_pre, ↓zex_eq, ↓reduceIte, Option.isSome_some, Option.isSome_none, Option.getD_some, n32_lit, n32_lt, o1, r3, o8, c7, WL]
    rw [if_pos (by omega)]
theorem c_h63 (h : zC0 σ a pl ad qu n g) (hG : qG σ a g) (h5 : s_nat g 5 ≤ 100) (h52 : g 5 = n32 (s_nat g 5)) {mv : Nat} (hmv : mv ≤ 2000000000) (h9 : g 9 = n32 mv) (h7 : g 7 = n32 (min mv 40)) (H : Int64) : f_X2_hashed_63 σ a H (n32 0) = some (s_hmes g H) := by
  have o1 := h.1.1
  have r1 := h.1.2.2.1
  have o3 := h.1.2.2.2.2.2.2.2.2.1
  have eM : z_I σ (a + 2) 1 = n32 (s_nat g 5) := h.2.2.2.2.1.1.trans h52
  unfold s_hmes
  have W := c_h116 h hG hmv h9 h7 (s_hs (fun k => (g (242 + k)).toInt64) H (5 * s_nat g 5))
  unfold f_X2_hashed_63
  refine zloop_go (N := zN) (fun m => (s_hs (fun k => (g (242 + k)).toInt64) H (5 * m), n32 m)) _ (s_nat g 5) (fun m hm => ?_) ?_ (by unfold zN; omega)
  · show b_X2_hashed_63 σ a (s_hs (fun k => (g (242 + k)).toInt64) H (5 * m)) (n32 m) = some (.inl (s_hs (fun k => (g (242 + k)).toInt64) H (5 * (m + 1)), n32 (m + 1)))
    have I : f_X2_hashed_78 σ a (n32 m) (s_hs (fun k => (g (242 + k)).toInt64) H (5 * m)) (n32 0) = some (.inl (s_hs (fun k => (g (242 + k)).toInt64) H (5 * (m + 1)), n32 (m + 1))) := by
      unfold f_X2_hashed_78
      refine zloop_go (N := zN) (fun w => (s_hs (fun k => (g (242 + k)).toInt64) H (5 * m + w), n32 w)) _ 5 (fun w hw => ?_) ?_ (by unfold zN; omega)
      · show b_X2_hashed_78 σ a (n32 m) (s_hs (fun k => (g (242 + k)).toInt64) H (5 * m + w)) (n32 w) = some (.inl (31 * s_hs (fun k => (g (242 + k)).toInt64) H (5 * m + w) + (g (242 + (5 * m + w))).toInt64, n32 (w + 1)))
        have V := c_value h.1 h.2.2.2.1.1 (m := m) (w := w) (by omega) (by omega)
        rw [h.2.2.2.2.1.2 m w hm hw] at V
        rw [← Nat.add_assoc]
        simp (disch := omega) only [b_X2_hashed_78, f_X9_mixed, ↓zl_eq, ↓zb_eq, ↓zb2_eq, ↓zc_some, ↓zc_none, ↓zb_pre, ↓zb2_pre, ↓zc_pre, ↓zex_eq, ↓reduceIte, Option.isSome_some, Option.isSome_none, Option.getD_some, n32_lit, n32_lt, o1, r1, o3, V, n32_add]
        rw [if_neg (by omega)]
      · show b_X2_hashed_78 σ a (n32 m) (s_hs (fun k => (g (242 + k)).toInt64) H (5 * m + 5)) (n32 5) = _
        simp (disch := omega) only [b_X2_hashed_78, ↓zl_eq, ↓zb_eq, ↓zb2_eq, ↓zc_some, ↓zc_none, ↓zb_pre, ↓zb2_pre, ↓zc_pre, ↓zex_eq, ↓reduceIte, Option.isSome_some, Option.isSome_none, Option.getD_some, n32_lit, n32_lt, n32_add, Nat.mul_succ]
        rw [if_pos (by omega)]
    simp (disch := omega) only [b_X2_hashed_63, f_X3_number, ↓zl_eq, ↓zb_eq, ↓zb2_eq, ↓zc_some, ↓zc_none, ↓zb_pre, ↓zb2_pre, ↓zc_pre, ↓zex_eq, ↓reduceIte, Option.isSome_some, Option.isSome_none, Option.getD_some, n32_lit, n32_le, o1, r1, o3, eM, I]
    rw [if_neg (by omega)]
  · show b_X2_hashed_63 σ a (s_hs (fun k => (g (242 + k)).toInt64) H (5 * s_nat g 5)) (n32 (s_nat g 5)) = _
    simp (disch := omega) only [b_X2_hashed_63, f_X3_number, ↓zl_eq, ↓zb_eq, ↓zb2_eq, ↓zc_some, ↓zc_none, ↓zb_pre, ↓zb2_pre, ↓zc_pre, ↓zex_eq, ↓reduceIte, Option.isSome_some, Option.isSome_none, Option.getD_some, n32_lit, n32_le, Nat.le_refl, o1, r1, o3, eM, W]
theorem c_withStation (h : zCs σ a pl ad qu n g) (h5 : s_nat g 5 ≤ 100) {i : Nat} (hi : i < n) (H : Int64) : f_X2_withStation σ a H (some (pl i)) = some (s_hst g qu (ad i) H) := by
  have h0 := zC0_of h
  have ob := c_ob h0 hi
  have e0 := (c_S h0 hi).1
  obtain ⟨q6, q5, q3, qk⟩ := c_Q h0 hi
  have o1 := h.1.1
  have r1 := h.1.2.2.1
  have o3 := h.1.2.2.2.2.2.2.2.2.1
  have hlen := s_len_le g (ad i)
  have hai := (c_ad h0 hi).1
  have L56 : ∀ H1, f_X2_withStation_56 σ a (pl i) H1 (s_fol (qu (ad i)) (s_len g (ad i)) 0) (n32 0) = some (s_hs (fun j => (n32 (qu (ad i) j)).toInt64) H1 (s_len g (ad i))) := by
    intro H1
    unfold f_X2_withStation_56
    refine zloop_go (N := zN) (fun j => (s_hs (fun j => (n32 (qu (ad i) j)).toInt64) H1 j, s_fol (qu (ad i)) (s_len g (ad i)) j, n32 j)) _ (s_len g (ad i)) (fun j hj => ?_) ?_ (by unfold zN; omega)
    · show b_X2_withStation_56 σ a (pl i) (s_hs (fun j => (n32 (qu (ad i) j)).toInt64) H1 j) (s_fol (qu (ad i)) (s_len g (ad i)) j) (n32 j) = some (.inl (31 * s_hs (fun j => (n32 (qu (ad i) j)).toInt64) H1 j + (n32 (qu (ad i) j)).toInt64, s_fol (qu (ad i)) (s_len g (ad i)) (j + 1), n32 (j + 1)))
      have ef : s_fol (qu (ad i)) (s_len g (ad i)) j = n32 (qu (ad i) j) := if_pos hj
      have hq := (qk.1 j hj).1
      have Fo := c_follower h.1 h0.2.2.2.1.1 (m := qu (ad i) j) (by omega)
      rw [q3 j hj] at Fo
      have Fo2 : f_X3_follower σ (a + 2) (n32 (qu (ad i) j)) = some (s_fol (qu (ad i)) (s_len g (ad i)) (j + 1)) := Fo
      rw [ef]
      simp (disch := omega) only [b_X2_withStation_56, f_X9_mixed, ↓zl_eq, ↓zb_eq, ↓zb2_eq, ↓zc_some, ↓zc_none, ↓zb_pre, ↓zb2_pre, ↓zc_pre, ↓zex_eq, ↓reduceIte, Option.isSome_some, Option.isSome_none, Option.getD_some, n32_lit, n32_le, ob, q6, o1, r1, o3, Fo2, n32_add]
      rw [if_neg (by omega)]
    · show b_X2_withStation_56 σ a (pl i) (s_hs (fun j => (n32 (qu (ad i) j)).toInt64) H1 (s_len g (ad i))) (s_fol (qu (ad i)) (s_len g (ad i)) (s_len g (ad i))) (n32 (s_len g (ad i))) = _
      simp (disch := omega) only [b_X2_withStation_56, ↓zl_eq, ↓zb_eq, ↓zb2_eq, ↓zc_some, ↓zc_none, ↓zb_pre, ↓zb2_pre, ↓zc_pre, ↓zex_eq, ↓reduceIte, Option.isSome_some, Option.isSome_none, Option.getD_some, n32_le, Nat.le_refl, ob, q6]
  have L20 : ∀ H1, f_X2_withStation_20 σ a (pl i) H1 (n32 0) = some (s_hs (fun j => (n32 (qu (ad i) j)).toInt64) (s_hs (fun w => (s_stv g (ad i) w (s_nat g 5)).toInt64) H1 7) (s_len g (ad i))) := by
    intro H1
    unfold f_X2_withStation_20
    refine zloop_go (N := zN) (fun w => (s_hs (fun w => (s_stv g (ad i) w (s_nat g 5)).toInt64) H1 w, n32 w)) _ 7 (fun w hw => ?_) ?_ (by unfold zN; omega)
    · show b_X2_withStation_20 σ a (pl i) (s_hs (fun w => (s_stv g (ad i) w (s_nat g 5)).toInt64) H1 w) (n32 w) = some (.inl (31 * s_hs (fun w => (s_stv g (ad i) w (s_nat g 5)).toInt64) H1 w + (s_stv g (ad i) w (s_nat g 5)).toInt64, n32 (w + 1)))
      have V := c_value6 h hi hw
      simp (disch := omega) only [b_X2_withStation_20, f_X9_mixed, ↓zl_eq, ↓zb_eq, ↓zb2_eq, ↓zc_some, ↓zc_none, ↓zb_pre, ↓zb2_pre, ↓zc_pre, ↓zex_eq, ↓reduceIte, Option.isSome_some, Option.isSome_none, Option.getD_some, n32_lit, n32_lt, ob, V, n32_add]
      rw [if_neg (by omega)]
    · show b_X2_withStation_20 σ a (pl i) (s_hs (fun w => (s_stv g (ad i) w (s_nat g 5)).toInt64) H1 7) (n32 7) = _
      have q5' : z_I σ (pl i) 5 = s_fol (qu (ad i)) (s_len g (ad i)) 0 := q5
      simp (disch := omega) only [b_X2_withStation_20, ↓zl_eq, ↓zb_eq, ↓zb2_eq, ↓zc_some, ↓zc_none, ↓zb_pre, ↓zb2_pre, ↓zc_pre, ↓zex_eq, ↓reduceIte, Option.isSome_some, Option.isSome_none, Option.getD_some, n32_lit, n32_lt, ob, q5', L56]
      rw [if_pos (by omega)]
  unfold s_hst
  simp only [f_X2_withStation, f_X9_mixed, ↓zl_eq, ↓zb_eq, ↓zb2_eq, ↓zc_some, ↓zc_none, ↓zb_pre, ↓zb2_pre, ↓zc_pre, ↓zex_eq, ↓reduceIte, Option.isSome_some, Option.isSome_none, Option.getD_some, n32_lit, ob, e0, L20]
theorem c_hashed (h : zCs σ a pl ad qu n g) (hG : qG σ a g) (h5 : s_nat g 5 ≤ 100) (h52 : g 5 = n32 (s_nat g 5)) {mv : Nat} (hmv : mv ≤ 2000000000) (h9 : g 9 = n32 mv) (h7 : g 7 = n32 (min mv 40)) (H : Int64) : f_X2_hashed σ a H = some (s_hall g qu H) := by
  have h0 := zC0_of h
  have hn := c_n8 h0
  have o1 := h.1.1
  have e5 := (c_L h0).1
  unfold s_hall
  rw [s_fold_A (c_qA h0)]
  have L33 : ∀ H1, f_X2_hashed_33 σ a H1 (n32 0) = some (s_hmes g (s_fI ad (s_hst g qu) H1 n)) := by
    intro H1
    have W := c_h63 h0 hG h5 h52 hmv h9 h7 (s_fI ad (s_hst g qu) H1 n)
    unfold f_X2_hashed_33
    refine zloop_go (N := zN) (fun i => (s_fI ad (s_hst g qu) H1 i, n32 i)) _ n (fun i hi => ?_) ?_ (by unfold zN; omega)
    · show b_X2_hashed_33 σ a (s_fI ad (s_hst g qu) H1 i) (n32 i) = some (.inl (s_hst g qu (ad i) (s_fI ad (s_hst g qu) H1 i), n32 (i + 1)))
      have F := c_in h0 hi
      have V := c_withStation h h5 hi (s_fI ad (s_hst g qu) H1 i)
      simp (disch := omega) only [b_X2_hashed_33, ↓zl_eq, ↓zb_eq, ↓zb2_eq, ↓zc_some, ↓zc_none, ↓zb_pre, ↓zb2_pre, ↓zc_pre, ↓zex_eq, ↓reduceIte, Option.isSome_some, Option.isSome_none, Option.getD_some, n32_lit, n32_le, o1, e5, F, V, n32_add]
      rw [if_neg (by omega)]
    · show b_X2_hashed_33 σ a (s_fI ad (s_hst g qu) H1 n) (n32 n) = _
      simp (disch := omega) only [b_X2_hashed_33, ↓zl_eq, ↓zb_eq, ↓zb2_eq, ↓zc_some, ↓zc_none, ↓zb_pre, ↓zb2_pre, ↓zc_pre, ↓zex_eq, ↓reduceIte, Option.isSome_some, Option.isSome_none, Option.getD_some, n32_lit, n32_le, Nat.le_refl, o1, e5, W]
  unfold f_X2_hashed f_X2_hashed_5
  refine zloop_go (N := zN) (fun w => (s_hs (fun w => (s_set g w).toInt64) H w, n32 w)) _ 9 (fun w hw => ?_) ?_ (by unfold zN; omega)
  · show b_X2_hashed_5 σ a (s_hs (fun w => (s_set g w).toInt64) H w) (n32 w) = some (.inl (31 * s_hs (fun w => (s_set g w).toInt64) H w + (s_set g w).toInt64, n32 (w + 1)))
    have V := c_settingValue h hw
    simp (disch := omega) only [b_X2_hashed_5, f_X9_mixed, ↓zl_eq, ↓zb_eq, ↓zb2_eq, ↓zc_some, ↓zc_none, ↓zb_pre, ↓zb2_pre, ↓zc_pre, ↓zex_eq, ↓reduceIte, Option.isSome_some, Option.isSome_none, Option.getD_some, n32_lit, n32_lt, o1, V, n32_add]
    rw [if_neg (by omega)]
  · show b_X2_hashed_5 σ a (s_hs (fun w => (s_set g w).toInt64) H 9) (n32 9) = _
    simp (disch := omega) only [b_X2_hashed_5, ↓zl_eq, ↓zb_eq, ↓zb2_eq, ↓zc_some, ↓zc_none, ↓zb_pre, ↓zb2_pre, ↓zc_pre, ↓zex_eq, ↓reduceIte, Option.isSome_some, Option.isSome_none, Option.getD_some, n32_lit, n32_lt, L33]
    rw [if_pos (by omega)]
end CLASS
