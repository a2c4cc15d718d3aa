section LAW
variable {σ : zSt} {b k tl : Nat} {g : zG} {gs : Nat → zG} {tx : Nat → Int32} {B V : Nat} {xs : Nat → Int32} {L : Nat} {l4 : Int32}
/-- the end of a case whose answer is yes or no -/
theorem L_finb {σ2 : zSt} {r : Int32} {c : Bool} {β : Type} {X Y : Option β} {A : Int64 → Int64 → Option β} (hA : ∀ s, A s s = X) (o : z_ob σ2 (b + 118) 9 = true) (t : z_I σ2 (b + 118) 4 = r) (O : zOut σ2 b) (hJ : r = 0 → z_J σ2 (b + 123) 0 = (bi c).toInt64) :
    (if z_ob σ2 (b + 118) 9 = true then zb (f_X10_thrown σ2 (b + 118)) (fun r9 => if r9 = r then (if r = 0 then (if z_ar σ2 (b + 123) 2 = true then (if z_ix (0 : Int32) (z_ln σ2 (b + 123)) = true then (if bi c = 0 then A (0 : Int64) (z_J σ2 (b + 123) (0 : Int32).toNatClampNeg) else A (1 : Int64) (z_J σ2 (b + 123) (0 : Int32).toNatClampNeg)) else none) else none) else X) else Y) else none) = X := by
  have e : f_X10_thrown σ2 (b + 118) = some (z_I σ2 (b + 118) 4) := by unfold f_X10_thrown; rw [if_pos o]
  rw [if_pos o, e, zb_eq, t, if_pos rfl]
  by_cases h0 : r = 0
  · have hJ' : z_J σ2 (b + 123) (0 : Int32).toNatClampNeg = (bi c).toInt64 := hJ h0
    rw [if_pos h0, if_pos O.1, if_pos (zOut_ix O), hJ']
    cases c with
    | false =>
      rw [if_pos (by decide)]
      exact hA 0
    | true =>
      rw [if_neg (by decide)]
      exact hA 1
  · rw [if_neg h0]
theorem L_976 (h : zW σ b g k gs tl tx B V) (hB : B = 1740000) (hV : V ≤ 1000000) (i1 : z_ix (l4 + (1 : Int32)) L = true) : zE b B V l4 (f_L_law_976 xs L σ b (b + 118) (b + 123) l4) := by
  obtain ⟨r, c, g', k', gs', tl', tx', ⟨σ1, E1, C1, Q1, O1, J1⟩, HM, hI, hgs, hk, ht, htx⟩ := p_isNoisy' h hB hV (xs (l4 + (1 : Int32)).toNatClampNeg)
  have M1 := zM_reg Q1 h.2.1
  obtain ⟨σ2, E2', M2, F2, T2⟩ := HM σ1 M1
  have E2 : f_X10_isNoisy σ1 (b + 118) (xs (l4 + (1 : Int32)).toNatClampNeg) = some (bi c, σ2) := E2'
  have W := zW_fin C1 O1 M2 F2 hI hgs hk ht htx
  refine ⟨σ2, g', k', gs', tl', tx', ?_, W.1⟩
  unfold f_L_law_976
  rw [if_pos i1, E1, zb2_eq, if_pos i1, if_pos (zM_ob M1), E2, zb2_eq]
  refine L_finb (A := fun s0 s1 => f_L_law_1030 xs L σ2 b (b + 118) (b + 123) l4 s0 s1) (fun s => ?_) (zM_ob M2) T2 W.2.1 (fun h0 => by rw [W.2.2]; exact J1 h0)
  show f_L_law_1030 xs L σ2 b (b + 118) (b + 123) l4 s s = _
  unfold f_L_law_1030
  rw [if_pos ((lg_cmp_eq _ _).2 rfl)]
theorem L_264 (h : zW σ b g k gs tl tx B V) (hB : B = 1740000) (hV : V ≤ 1000000) (i1 : z_ix (l4 + (1 : Int32)) L = true) (i2 : z_ix (l4 + (2 : Int32)) L = true) (on : Bool) (hon : ∀ (β : Type) (X Y : β), (if xs (l4 + (2 : Int32)).toNatClampNeg = 0 then X else Y) = if on = true then Y else X) : zE b B V l4 (f_L_law_237 xs L σ b (b + 118) (b + 123) l4 (bi on) (xs (l4 + (1 : Int32)).toNatClampNeg) (some b)) := by
  obtain ⟨r, c, g', k', gs', tl', tx', ⟨σ1, E1, C1, Q1, O1, J1⟩, HM, hI, hgs, hk, ht, htx⟩ := p_setOn h hB hV (xs (l4 + (1 : Int32)).toNatClampNeg) on
  have M1 := zM_reg Q1 h.2.1
  obtain ⟨σ2, E2', M2, F2, T2⟩ := HM σ1 M1
  have E2 : f_X10_setOn σ1 (b + 118) (xs (l4 + (1 : Int32)).toNatClampNeg) (bi on) = some (bi c, σ2) := E2'
  have W := zW_fin C1 O1 M2 F2 hI hgs hk ht htx
  refine ⟨σ2, g', k', gs', tl', tx', ?_, W.1⟩
  have FN : f_L_law_264 xs L σ1 b (b + 118) (b + 123) l4 r (bi on) (xs (l4 + (1 : Int32)).toNatClampNeg) (some (b + 118)) = some (.inl (σ2, l4 + (4 : Int32))) := by
    unfold f_L_law_264
    rw [zc_some, if_pos (zM_ob M1), E2, zb2_eq]
    refine L_finb (A := fun s0 s1 => f_L_law_298 xs L σ2 b (b + 118) (b + 123) l4 s0 s1) (fun s => ?_) (zM_ob M2) T2 W.2.1 (fun h0 => by rw [W.2.2]; exact J1 h0)
    show f_L_law_298 xs L σ2 b (b + 118) (b + 123) l4 s s = _
    unfold f_L_law_298
    rw [if_pos ((lg_cmp_eq _ _).2 rfl)]
  unfold f_L_law_237
  rw [zc_some, E1, zb2_eq, if_pos i1, if_pos i2, hon]
  cases on with
  | false => exact FN
  | true => exact FN
theorem L_216 (h : zW σ b g k gs tl tx B V) (hB : B = 1740000) (hV : V ≤ 1000000) (i1 : z_ix (l4 + (1 : Int32)) L = true) (i2 : z_ix (l4 + (2 : Int32)) L = true) : zE b B V l4 (f_L_law_216 xs L σ b (b + 118) (b + 123) l4) := by
  unfold f_L_law_216
  rw [if_pos i1, if_pos i2]
  by_cases hz : xs (l4 + (2 : Int32)).toNatClampNeg = 0
  · rw [if_pos hz]
    exact L_264 h hB hV i1 i2 false (fun β X Y => by rw [if_pos hz]; rfl)
  · rw [if_neg hz]
    exact L_264 h hB hV i1 i2 true (fun β X Y => by rw [if_neg hz]; rfl)
/-- equal numbers are equal -/
theorem dd_same {β : Type} (D : UInt64) (X Y : Option β) : (if Op.cmpValue (FP.dcmp D D) .l = 0 then X else if Op.cmpValue (FP.dcmp D D) .l = 0 then Y else if Op.cmpValue (FP.dcmp D D) .l = 0 then Y else X) = X := by
  by_cases hc : Op.cmpValue (FP.dcmp D D) .l = 0
  · rw [if_pos hc]
  · rw [if_neg hc, if_neg hc, if_neg hc]
def s_wm (g : zG) (w : Bool) : UInt64 := if g 10 = n32 0 then FP.dconst0 else if w = true then FP.i2d (s_most g (s_nat g 5)) else FP.ddiv (FP.l2d (s_sumw g (s_nat g 5))) (FP.i2d (g 10))
theorem toI_ne {x : Int32} (h : ¬ x = n32 0) : x.toInt ≠ 0 := fun he => h (Int32.toInt_inj.1 (by rw [he]; rfl))
theorem s_most_0 {g : zG} : ∀ k, (∀ m, m < k → g (242 + 5 * m + 4) = nn) → s_most g k = n32 0
  | 0, _ => rfl
  | k + 1, h => by
    unfold s_most
    rw [s_most_0 k (fun m hm => h m (by omega)), h k (by omega), if_pos (by decide)]
theorem s_ds_0 {g : zG} (H : s_ds g) (h5 : s_nat g 5 ≤ 100) (h : g 10 = n32 0) : s_most g (s_nat g 5) = n32 0 := by
  unfold s_ds at H
  have hle := s_cnt_le (s_done g) (s_nat g 5)
  rw [h, n32_eq (by omega) (by omega)] at H
  refine s_most_0 _ (fun m hm => ?_)
  by_cases hd : g (242 + 5 * m + 4) = nn
  · exact hd
  · have hp : s_done g m = true := by unfold s_done; rw [decide_eq_false hd]; rfl
    have pos : ∀ k, m < k → 0 < s_cnt (s_done g) k := by
      intro k
      induction k with
      | zero => intro hk; omega
      | succ k ih =>
        intro hk
        unfold s_cnt
        by_cases hmk : m = k
        · rw [← hmk, hp, if_pos rfl]; omega
        · have := ih (by omega); omega
    have := pos _ hm
    omega
theorem n_divL (x : Int64) {n : Int32} (h : ¬ n = n32 0) : vf_n64b (FP.ddiv (FP.l2d x) (FP.i2d n)) = true := by
  unfold vf_n64b
  exact decide_eq_true (fp_divL x (toI_ne h))
theorem n_divI (x : Int32) {n : Int32} (h : ¬ n = n32 0) : vf_n64b (FP.ddiv (FP.i2d x) (FP.i2d n)) = true := by
  unfold vf_n64b
  exact decide_eq_true (fp_divI x (toI_ne h))
theorem c_waits (h : zW σ b g k gs tl tx B V) (w : Bool) : f_X9_waits σ b (bi w) = some (s_wm g w) := by
  have hI := h.2.2.1
  obtain ⟨o8, r0, o2, pl, ad, qu, n, hs, hG⟩ := zC_open h.1 hI
  have h0 := zC0_of hs
  obtain ⟨q1, q2, q3, q4⟩ := h0.2.2.2.2.2.2.1
  have e1 : z_I σ (b + 1 + 8) 1 = g 10 := q1 1 (by decide)
  have r3 := hs.1.2.2.2.2.1
  have o3 := hs.1.2.2.2.2.2.2.2.2.2.2.2.2.2.2.2.2.2.2.2.2.2.1
  unfold s_wm
  by_cases hz : g 10 = n32 0
  · rw [if_pos hz]
    simp only [f_X9_waits, ↓zl_eq, ↓zb_eq, ↓zb2_eq, ↓zc_some, ↓zc_none, ↓zb_pre, ↓zb2_pre, ↓zc_pre, ↓zex_eq, ↓reduceIte, Option.isSome_some, Option.isSome_none, Option.getD_some, n32_lit, o8, r0, o2, r3, o3, e1, hz]
  · rw [if_neg hz]
    cases w with
    | true =>
      simp only [f_X9_waits, f_X9_waits_40, ↓zl_eq, ↓zb_eq, ↓zb2_eq, ↓zc_some, ↓zc_none, ↓zb_pre, ↓zb2_pre, ↓zc_pre, ↓zex_eq, ↓reduceIte, Option.isSome_some, Option.isSome_none, Option.getD_some, n32_lit, o8, r0, o2, r3, o3, e1, if_neg hz, bt0', q3]
    | false =>
      rw [if_neg (by decide)]
      simp only [f_X9_waits, f_X9_waits_40, ↓zl_eq, ↓zb_eq, ↓zb2_eq, ↓zc_some, ↓zc_none, ↓zb_pre, ↓zb2_pre, ↓zc_pre, ↓zex_eq, ↓reduceIte, Option.isSome_some, Option.isSome_none, Option.getD_some, n32_lit, o8, r0, o2, r3, o3, e1, if_neg hz, bf0', q4, n_divL _ hz]
theorem m_waits (h : zW σ b g k gs tl tx B V) (w : Bool) : f_X10_waits σ (b + 118) (bi w) = some (s_wm g w, z_sA σ (b + 118) (gu (z_I σ (b + 118)) 4 (n32 0))) := by
  have hI := h.2.2.1
  obtain ⟨h5, h52⟩ := s_I_5 hI
  have hM := h.2.1
  have T := zM_thr hM (n32 0)
  have oM := hM.1.1
  have E0 : f_X10_waits σ (b + 118) (bi w) = f_X10_waits_12 (z_sA σ (b + 118) (gu (z_I σ (b + 118)) 4 (n32 0))) (b + 118) (bi w) (n32 0) 0 (n32 0) := by
    simp only [f_X10_waits, ↓zl_eq, ↓zb_eq, ↓zb2_eq, ↓zc_some, ↓zc_none, ↓zb_pre, ↓zb2_pre, ↓zc_pre, ↓zex_eq, ↓reduceIte, Option.isSome_some, Option.isSome_none, Option.getD_some, n32_lit, oM, z_pI_eq]
  rw [E0]
  generalize z_sA σ (b + 118) (gu (z_I σ (b + 118)) 4 (n32 0)) = σ1 at T
  obtain ⟨T, _, _⟩ := T
  have m1 := T.1
  have f1 : b + 118 + 1 = b + 119 := rfl
  have mg := T.2.1
  unfold zMs at m1
  rw [f1] at m1
  have mg1 : z_I σ1 (b + 118 + 1) = g := mg
  have e5 : z_I σ1 (b + 119) 5 = n32 (s_nat g 5) := by rw [mg]; exact h52
  unfold f_X10_waits_12
  refine zloop_go (N := zN) (fun i => (s_most g i, s_sumw g i, n32 i)) _ (s_nat g 5) (fun i hi => ?_) ?_ (by unfold zN; omega)
  · show b_X10_waits_12 σ1 (b + 118) (bi w) (s_most g i) (s_sumw g i) (n32 i) = some (.inl (if g (242 + 5 * i + 4) ≤ s_most g i then s_most g i else g (242 + 5 * i + 4), s_sumw g i + (if g (242 + 5 * i + 4) = nn then 0 else (g (242 + 5 * i + 4)).toInt64), n32 (i + 1)))
    have OF := m_ofM T.1 (x := i) (w := 4) (by omega) (by decide)
    rw [mg1] at OF
    simp (disch := omega) only [b_X10_waits_12, f_X10_waits_44, f_X10_waits_59, ↓zl_eq, ↓zb_eq, ↓zb2_eq, ↓zc_some, ↓zc_none, ↓zb_pre, ↓zb2_pre, ↓zc_pre, ↓zex_eq, ↓reduceIte, Option.isSome_some, Option.isSome_none, Option.getD_some, n32_lit, n32_nn2, n32_le, n32_ix, n32_toNat, n32_add, m1.1, m1.2.1, m1.2.2.2.2.2.1, m1.2.2.2.2.2.2.2.2.2.1, e5, OF]
    rw [if_neg (by omega)]
    by_cases c1 : g (242 + 5 * i + 4) ≤ s_most g i
    · by_cases c2 : g (242 + 5 * i + 4) = nn
      · rw [if_pos c1, if_pos c1, if_pos c2, if_pos c2]
      · rw [if_pos c1, if_pos c1, if_neg c2, if_neg c2]
    · by_cases c2 : g (242 + 5 * i + 4) = nn
      · rw [if_neg c1, if_neg c1, if_pos c2, if_pos c2]
      · rw [if_neg c1, if_neg c1, if_neg c2, if_neg c2]
  · show b_X10_waits_12 σ1 (b + 118) (bi w) (s_most g (s_nat g 5)) (s_sumw g (s_nat g 5)) (n32 (s_nat g 5)) = _
    have e10 : z_I σ1 (b + 119) 10 = g 10 := by rw [mg]
    unfold s_wm
    cases w with
    | true =>
      simp (disch := omega) only [b_X10_waits_12, f_X10_waits_101, ↓zl_eq, ↓zb_eq, ↓zb2_eq, ↓zc_some, ↓zc_none, ↓zb_pre, ↓zb2_pre, ↓zc_pre, ↓zex_eq, ↓reduceIte, Option.isSome_some, Option.isSome_none, Option.getD_some, n32_lit, n32_le, Nat.le_refl, n32_ix, n32_toNat, m1.1, m1.2.1, m1.2.2.2.2.2.1, m1.2.2.2.2.2.2.2.2.2.1, e5, bt0']
      by_cases hz : g 10 = n32 0
      · rw [if_pos hz, s_ds_0 hI.2.2.1 h5 hz]; rfl
      · rw [if_neg hz]
    | false =>
      by_cases hz : g 10 = n32 0
      · rw [if_pos hz]
        simp (disch := omega) only [b_X10_waits_12, f_X10_waits_101, ↓zl_eq, ↓zb_eq, ↓zb2_eq, ↓zc_some, ↓zc_none, ↓zb_pre, ↓zb2_pre, ↓zc_pre, ↓zex_eq, ↓reduceIte, Option.isSome_some, Option.isSome_none, Option.getD_some, n32_lit, n32_le, Nat.le_refl, n32_ix, n32_toNat, m1.1, m1.2.1, m1.2.2.2.2.2.1, m1.2.2.2.2.2.2.2.2.2.1, e5, bf0', e10, hz]
      · rw [if_neg hz, if_neg (by decide)]
        simp (disch := omega) only [b_X10_waits_12, f_X10_waits_101, ↓zl_eq, ↓zb_eq, ↓zb2_eq, ↓zc_some, ↓zc_none, ↓zb_pre, ↓zb2_pre, ↓zc_pre, ↓zex_eq, ↓reduceIte, Option.isSome_some, Option.isSome_none, Option.getD_some, n32_lit, n32_le, Nat.le_refl, n32_ix, n32_toNat, m1.1, m1.2.1, m1.2.2.2.2.2.1, m1.2.2.2.2.2.2.2.2.2.1, e5, bf0', e10, if_neg hz, n_divL _ hz]
theorem L_1168 (h : zW σ b g k gs tl tx B V) (i1 : z_ix (l4 + (1 : Int32)) L = true) (w : Bool) (hw : ∀ (β : Type) (X Y : β), (if xs (l4 + (1 : Int32)).toNatClampNeg = 0 then X else Y) = if w = true then Y else X) : zE b B V l4 (f_L_law_1148 xs L σ b (b + 118) (b + 123) l4 (bi w) (some b)) := by
  have o8 := h.1.1.1
  have oM := h.2.1.1.1
  have E9 := c_waits h w
  have E10 := m_waits h w
  refine ⟨_, g, k, gs, tl, tx, ?_, zW_q h⟩
  have FN : f_L_law_1168 xs L σ b (b + 118) (b + 123) l4 (s_wm g w) (bi w) (some (b + 118)) = some (.inl (z_sA σ (b + 118) (gu (z_I σ (b + 118)) 4 (n32 0)), l4 + (4 : Int32))) := by
    unfold f_L_law_1168
    rw [zc_some, if_pos oM, E10, zb2_eq]
    exact dd_same _ _ _
  unfold f_L_law_1148
  rw [zc_some, if_pos o8, E9, zb_eq, if_pos i1, hw]
  cases w with
  | false => exact FN
  | true => exact FN
theorem L_1133 (h : zW σ b g k gs tl tx B V) (i1 : z_ix (l4 + (1 : Int32)) L = true) : zE b B V l4 (f_L_law_1133 xs L σ b (b + 118) (b + 123) l4) := by
  unfold f_L_law_1133
  rw [if_pos i1]
  by_cases hz : xs (l4 + (1 : Int32)).toNatClampNeg = 0
  · rw [if_pos hz]
    exact L_1168 h i1 false (fun β X Y => by rw [if_pos hz]; rfl)
  · rw [if_neg hz]
    exact L_1168 h i1 true (fun β X Y => by rw [if_neg hz]; rfl)
def s_us (g : zG) : UInt64 := if g 3 = n32 0 then FP.dconst0 else FP.ddiv (FP.i2d (g 15)) (FP.i2d (g 3))
theorem L_1202 (h : zW σ b g k gs tl tx B V) : zE b B V l4 (f_L_law_1202 xs L σ b (b + 118) (b + 123) l4) := by
  have hI := h.2.2.1
  obtain ⟨o8, r0, o2, pl, ad, qu, n, hs, hG⟩ := zC_open h.1 hI
  have h0 := zC0_of hs
  obtain ⟨q1, q2, q3, q4⟩ := h0.2.2.2.2.2.2.1
  have e6 : z_I σ (b + 1 + 8) 6 = g 15 := q1 6 (by decide)
  have e9 := (c_L h0).2.2.2.2.1
  have r3 := hs.1.2.2.2.2.1
  have o3 := hs.1.2.2.2.2.2.2.2.2.2.2.2.2.2.2.2.2.2.2.2.2.2.1
  have E9 : f_X9_use σ b = some (s_us g) := by
    unfold s_us
    by_cases hz : g 3 = n32 0
    · rw [if_pos hz]
      simp only [f_X9_use, f_X9_use_34, ↓zl_eq, ↓zb_eq, ↓zb2_eq, ↓zc_some, ↓zc_none, ↓zb_pre, ↓zb2_pre, ↓zc_pre, ↓zex_eq, ↓reduceIte, Option.isSome_some, Option.isSome_none, Option.getD_some, n32_lit, o8, r0, o2, e9, hz]
    · rw [if_neg hz]
      simp only [f_X9_use, f_X9_use_34, ↓zl_eq, ↓zb_eq, ↓zb2_eq, ↓zc_some, ↓zc_none, ↓zb_pre, ↓zb2_pre, ↓zc_pre, ↓zex_eq, ↓reduceIte, Option.isSome_some, Option.isSome_none, Option.getD_some, n32_lit, o8, r0, o2, e9, if_neg hz, r3, o3, e6, n_divI _ hz]
  refine ⟨_, g, k, gs, tl, tx, ?_, zW_q h⟩
  have hM := h.2.1
  have m1 := hM.1
  have f1 : b + 118 + 1 = b + 119 := rfl
  have mg := hM.2.1
  unfold zMs at m1
  rw [f1] at m1
  have i1 : z_I (z_sA σ (b + 118) (gu (z_I σ (b + 118)) 4 (n32 0))) (b + 119) = g := by rw [z_I_sAn _ _ _ (by omega)]; exact mg
  have E10 : f_X10_use σ (b + 118) = some (s_us g, z_sA σ (b + 118) (gu (z_I σ (b + 118)) 4 (n32 0))) := by
    unfold s_us
    by_cases hz : g 3 = n32 0
    · rw [if_pos hz]
      simp (disch := omega) only [f_X10_use, f_X10_use_34, ↓zl_eq, ↓zb_eq, ↓zb2_eq, ↓zc_some, ↓zc_none, ↓zb_pre, ↓zb2_pre, ↓zc_pre, ↓zex_eq, ↓reduceIte, Option.isSome_some, Option.isSome_none, Option.getD_some, n32_lit, m1.1, m1.2.1, m1.2.2.2.2.2.1, m1.2.2.2.2.2.2.2.2.2.1, n32_ix, n32_toNat, z_pI_eq, z_ob_sA, z_R_sA, z_ar_sA, z_ln_sA, i1, hz]
    · rw [if_neg hz]
      simp (disch := omega) only [f_X10_use, f_X10_use_34, ↓zl_eq, ↓zb_eq, ↓zb2_eq, ↓zc_some, ↓zc_none, ↓zb_pre, ↓zb2_pre, ↓zc_pre, ↓zex_eq, ↓reduceIte, Option.isSome_some, Option.isSome_none, Option.getD_some, n32_lit, m1.1, m1.2.1, m1.2.2.2.2.2.1, m1.2.2.2.2.2.2.2.2.2.1, n32_ix, n32_toNat, z_pI_eq, z_ob_sA, z_R_sA, z_ar_sA, z_ln_sA, i1, if_neg hz, n_divI _ hz]
  simp only [f_L_law_1202, f_L_law_1240, f_L_law_1539, ↓zl_eq, ↓zb_eq, ↓zb2_eq, ↓zc_some, ↓zc_none, ↓zb_pre, ↓zb2_pre, ↓zc_pre, ↓zex_eq, ↓reduceIte, Option.isSome_some, Option.isSome_none, Option.getD_some, o8, m1.1, E9, E10]
  exact dd_same _ _ _
end LAW
