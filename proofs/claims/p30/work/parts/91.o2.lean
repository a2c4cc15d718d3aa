/-! ONE OBJECT AMONG OTHERS: changes -/
section OBJ
variable {σ : zSt} {b k tl : Nat} {g : zG} {gs : Nat → zG} {tx : Nat → Int32} {B V : Nat}
/-- how many stations -/
def s_ns (g : zG) : Nat := s_cnt (s_is g) 32
theorem s_ns_A {ad : Nat → Nat} {n : Nat} (H : qA ad n g) : s_ns g = n := by
  unfold s_ns
  rw [s_cnt_fA (Q := s_is g) (fun _ h => h), s_fold_A H]
  have key : ∀ m, m ≤ n → s_fI ad (s_rc (s_is g)) 0 m = m := by
    intro m
    induction m with
    | zero => intro _; rfl
    | succ m ih =>
      intro hm
      show s_rc (s_is g) (ad m) (s_fI ad (s_rc (s_is g)) 0 m) = m + 1
      rw [ih (by omega)]
      unfold s_rc
      have : s_is g (ad m) = true := by unfold s_is; rw [(H.2.1 m (by omega)).2]; rfl
      rw [this, if_pos rfl]
  exact key n (Nat.le_refl _)
theorem o_addStation (h : zC σ b g k gs tl tx) (hI : s_I g B V) {y : Nat} (hy : y < 32) (hz : ¬ g (18 + 7 * y + 0) = n32 1) (hn : s_ns g < 8) : zOk σ b (f_X9_addStation σ b (n32 y)) (n32 (s_ns g + 1)) (s_adds g y) (s_pk k) (s_pg k gs g) tl tx := by
  obtain ⟨o8, r0, o2, pl, ad, qu, n, hs, hG⟩ := zC_open h hI
  have h0 := zC0_of hs
  obtain ⟨q5, q52⟩ := s_I_5 hI
  rw [s_ns_A (c_qA h0)] at hn ⊢
  have IA : f_X9_isAddress σ (n32 y) = some (bi true) := by rw [c_isAddress, decide_eq_true (by rw [n32_toInt (by omega)]; omega)]
  have full := c_isFull h0
  rw [decide_eq_true hn] at full
  have F := c_find0 hs hy hz
  have own : s_own g := hI.2.2.2
  obtain ⟨σ1, ES, C1, O1, E1⟩ := zC_saveF h (s_I_num hI)
  obtain ⟨r2, oh⟩ := zC_hs h
  have h1 := zC0_reg (zEq_s E1 (by omega) (by omega)) h0
  have G1 := qG_reg (zEq_s E1 (by omega) (by omega)) hG
  obtain ⟨z, hz6, h6⟩ := s_I_6 hI
  obtain ⟨σ2, pl', ad', p, EP, FW, h2, G2, _⟩ := c_place h1 G1 hn own (by rw [s_nat_n32 h6 (by omega)]; exact hz6) q5 hy hz
  have o8' : z_ob σ1 b 8 = true := by rw [z_ob_eq O1.2.1]; exact o8
  have o2' : z_ob σ1 (b + 1) 2 = true := by rw [z_ob_eq O1.2.1]; exact o2
  have r0' : z_R σ1 b 0 = some (b + 1) := C1.1.2.1
  have eo : z_ob σ2 = z_ob σ1 := z_ob_eq FW.2.1
  have eR : z_R σ2 b = z_R σ1 b := (FW.2.2 b (by omega)).2.2
  have e5 := (c_L h2).1
  refine zOk_line (σ2 := σ2) C1 O1 FW (zLn_of h2 G2) ?_
  simp only [f_X9_addStation, ↓zl_eq, ↓zb_eq, ↓zb2_eq, ↓zc_some, ↓zc_none, ↓zb_pre, ↓zb2_pre, ↓zc_pre, ↓zex_eq, ↓reduceIte, Option.isSome_some, Option.isSome_none, Option.getD_some, IA, n32_lit, bt0', bf0', Bool.not_true, o8, r0, o2, F, full, r2, oh, ES, o8', r0', o2', EP, eo, eR, e5, Bool.false_eq_true]
theorem o_setOn (h : zC σ b g k gs tl tx) (hI : s_I g B V) {x : Nat} (hx : x < 32) (hz : g (18 + 7 * x + 0) = n32 1) (on : Bool) : zOk σ b (f_X9_setOn σ b (n32 x) (bi on)) (g (18 + 7 * x + 1)) (s_sw g x on) (s_pk k) (s_pg k gs g) tl tx := by
  obtain ⟨o8, r0, o2, pl, ad, qu, n, hs, hG⟩ := zC_open h hI
  have h0 := zC0_of hs
  rcases c_is hs hx with hh | ⟨_, i, hi, rfl⟩
  · rw [hh] at hz; exact absurd hz nn01
  · have hai := c_ad h0 hi
    have F := c_find1 hs hi
    have obi := c_ob h0 hi
    have st := s_I_sta hI (ad i) hai.1 hai.2
    obtain ⟨σ1, ES, C1, O1, E1⟩ := zC_saveF h (s_I_num hI)
    obtain ⟨r2, oh⟩ := zC_hs h
    have h1 := zC0_reg (zEq_s E1 (by omega) (by omega)) h0
    have G1 := qG_reg (zEq_s E1 (by omega) (by omega)) hG
    obtain ⟨σ2, EW, A⟩ := c_switch h1 hi on
    have sn : ∀ {j : Nat}, j ≠ 4 → j ≠ 18 + 7 * ad i + 1 → j ≠ 18 + 7 * ad i + 2 → s_sw g (ad i) on j = g j := fun a b c => by
      unfold s_sw
      split
      · rw [gu_ne _ _ b]
      · split
        · rw [gu_ne _ _ a, gu_ne _ _ c, gu_ne _ _ b]
        · rw [gu_ne _ _ c, gu_ne _ _ b]
    have G2 : qG σ2 (b + 1) (s_sw g (ad i) on) := qG_congr A.2.1 (sn (by omega) (by omega) (by omega)) (sn (by omega) (by omega) (by omega)) (fun j hj => sn (by omega) (by omega) (by omega)) G1
    have h2 := zC0_step h1 A
    have o8' : z_ob σ1 b 8 = true := by rw [z_ob_eq O1.2.1]; exact o8
    have o2' : z_ob σ1 (b + 1) 2 = true := by rw [z_ob_eq O1.2.1]; exact o2
    have r0' : z_R σ1 b 0 = some (b + 1) := C1.1.2.1
    have e1 := (c_S h0 hi).2.1
    have eb : z_bl (g (18 + 7 * ad i + 1)) = true := by
      rcases st.1 with r | r
      · rw [r]; rfl
      · rw [r]; rfl
    refine zOk_line (σ2 := σ2) C1 O1 (zFw_of A.1) (zLn_of h2 G2) ?_
    simp only [f_X9_setOn, ↓zl_eq, ↓zb_eq, ↓zb2_eq, ↓zc_some, ↓zc_none, ↓zb_pre, ↓zb2_pre, ↓zc_pre, ↓zex_eq, ↓reduceIte, Option.isSome_some, Option.isSome_none, Option.getD_some, o8, r0, o2, F, obi, e1, eb, r2, oh, ES, o8', r0', o2', EW]
theorem o_setTimes (h : zC σ b g k gs tl tx) (hI : s_I g B V) {x y z : Nat} (hx1 : 1 ≤ x) (hx : x ≤ 500) (hy1 : 1 ≤ y) (hy : y ≤ 20) (hz1 : 1 ≤ z) (hz : z ≤ 20) : zOk σ b (f_X9_setTimes σ b (n32 x) (n32 y) (n32 z)) (g 0) (gu (gu (gu g 0 (n32 x)) 1 (n32 y)) 2 (n32 z)) (s_pk k) (s_pg k gs g) tl tx := by
  obtain ⟨o8, r0, o2, pl, ad, qu, n, hs, hG⟩ := zC_open h hI
  have h0 := zC0_of hs
  have W := fun σ => c_win1 σ (lo := 1) (hi := 500) (x := n32 x) (by omega) (by omega) (by rw [n32_toInt (by omega)]; omega)
  have W2 := fun σ => c_win1 σ (lo := 1) (hi := 20) (x := n32 y) (by omega) (by omega) (by rw [n32_toInt (by omega)]; omega)
  have W3 := fun σ => c_win1 σ (lo := 1) (hi := 20) (x := n32 z) (by omega) (by omega) (by rw [n32_toInt (by omega)]; omega)
  obtain ⟨σ1, ES, C1, O1, E1⟩ := zC_saveF h (s_I_num hI)
  obtain ⟨r2, oh⟩ := zC_hs h
  have h1 := zC0_reg (zEq_s E1 (by omega) (by omega)) h0
  have G1 := qG_reg (zEq_s E1 (by omega) (by omega)) hG
  have A1 := c_top h1 (k := 0) (by decide) (n32 x)
  have h2 := zC0_step h1 A1
  have A2 := c_top h2 (k := 1) (by decide) (n32 y)
  have h3 := zC0_step h2 A2
  have A3 := c_top h3 (k := 2) (by decide) (n32 z)
  have h4 := zC0_step h3 A3
  have A := zAn_t (zAn_t A1 A2) A3
  have G4 : qG (z_pI (z_pI (z_pI σ1 (b + 1) (6 + 0) (n32 x)) (b + 1) (6 + 1) (n32 y)) (b + 1) (6 + 2) (n32 z)) (b + 1) (gu (gu (gu g 0 (n32 x)) 1 (n32 y)) 2 (n32 z)) := qG_congr A.2.1 (by rw [gu_ne _ _ (by omega), gu_ne _ _ (by omega), gu_ne _ _ (by omega)]) (by rw [gu_ne _ _ (by omega), gu_ne _ _ (by omega), gu_ne _ _ (by omega)]) (fun j hj => by rw [gu_ne _ _ (by omega), gu_ne _ _ (by omega), gu_ne _ _ (by omega)]) G1
  have o8' : z_ob σ1 b 8 = true := by rw [z_ob_eq O1.2.1]; exact o8
  have o2' : z_ob σ1 (b + 1) 2 = true := by rw [z_ob_eq O1.2.1]; exact o2
  have r0' : z_R σ1 b 0 = some (b + 1) := C1.1.2.1
  have e6 := (c_L h0).2.1
  refine zOk_line (σ2 := z_pI (z_pI (z_pI σ1 (b + 1) (6 + 0) (n32 x)) (b + 1) (6 + 1) (n32 y)) (b + 1) (6 + 2) (n32 z)) C1 O1 (zFw_of A.1) (zLn_of h4 G4) ?_
  simp only [f_X9_setTimes, ↓zl_eq, ↓zb_eq, ↓zb2_eq, ↓zc_some, ↓zc_none, ↓zb_pre, ↓zb2_pre, ↓zc_pre, ↓zex_eq, ↓reduceIte, Option.isSome_some, Option.isSome_none, Option.getD_some, n32_lit, W, W2, W3, bt0', o8, r0, o2, e6, r2, oh, ES, o8', r0', o2', z_ob_pI, z_R_pI]
theorem o_give (h : zC σ b g k gs tl tx) (hI : s_I g B V) {x l u : Nat} (hx : x < 32) (hz : g (18 + 7 * x + 0) = n32 1) (hl1 : 1 ≤ l) (hl : l ≤ 20) (hu : u ≤ 9) (hq : s_nat g 5 < 100) : zOk σ b (f_X9_give σ b (n32 x) (n32 l) (n32 u)) (n32 (s_nat g 5)) (s_gives g (s_nat g 5) (n32 x) (n32 l) (n32 u)) (s_pk k) (s_pg k gs g) tl tx := by
  obtain ⟨o8, r0, o2, pl, ad, qu, n, hs, hG⟩ := zC_open h hI
  have h0 := zC0_of hs
  obtain ⟨q5, q52⟩ := s_I_5 hI
  rcases c_is hs hx with hh | ⟨_, i, hi, rfl⟩
  · rw [hh] at hz; exact absurd hz nn01
  · have r1 := hs.1.2.2.1
    have o3 := hs.1.2.2.2.2.2.2.2.2.1
    have eM : z_I σ (b + 1 + 2) 1 = n32 (s_nat g 5) := hs.2.2.1.2.2.1.1.trans q52
    have full : f_X3_isFull σ (b + 1 + 2) = some (bi false) := by
      simp (disch := omega) only [f_X3_isFull, f_X3_isFull_14, ↓zl_eq, ↓zb_eq, ↓zb2_eq, ↓zc_some, ↓zc_none, ↓zb_pre, ↓zb2_pre, ↓zc_pre, ↓zex_eq, ↓reduceIte, Option.isSome_some, Option.isSome_none, Option.getD_some, n32_lit, o3, eM, n32_lt, bl0, bl1]
      rw [if_pos hq]; rfl
    have F := c_find1 hs hi
    have hai := c_ad h0 hi
    have obi := c_ob h0 hi
    have W := fun σ => c_win1 σ (lo := 1) (hi := 20) (x := n32 l) (by omega) (by omega) (by rw [n32_toInt (by omega)]; omega)
    have W2 := fun σ => c_win1 σ (lo := 0) (hi := 9) (x := n32 u) (by omega) (by omega) (by rw [n32_toInt (by omega)]; omega)
    obtain ⟨σ1, ES, C1, O1, E1⟩ := zC_saveF h (s_I_num hI)
    obtain ⟨r2, oh⟩ := zC_hs h
    have h1 := zC0_reg (zEq_s E1 (by omega) (by omega)) h0
    have G1 := qG_reg (zEq_s E1 (by omega) (by omega)) hG
    obtain ⟨z', hz6, h6⟩ := s_I_6 hI
    obtain ⟨σ2, qu', EA, FA, h2, G2⟩ := c_add h1 G1 q52 hq (by rw [s_nat_n32 h6 (by omega)]; exact hz6) hi (n32 l) (n32 u)
    have o8' : z_ob σ1 b 8 = true := by rw [z_ob_eq O1.2.1]; exact o8
    have o2' : z_ob σ1 (b + 1) 2 = true := by rw [z_ob_eq O1.2.1]; exact o2
    have r0' : z_R σ1 b 0 = some (b + 1) := C1.1.2.1
    have r1' := h1.1.2.2.1
    have o3' := h1.1.2.2.2.2.2.2.2.2.1
    have e9 := (c_L h1).2.2.2.2.1
    refine zOk_line (σ2 := σ2) C1 O1 (zFw_of FA) (zLn_of h2 G2) ?_
    simp only [f_X9_give, ↓zl_eq, ↓zb_eq, ↓zb2_eq, ↓zc_some, ↓zc_none, ↓zb_pre, ↓zb2_pre, ↓zc_pre, ↓zex_eq, ↓reduceIte, Option.isSome_some, Option.isSome_none, Option.getD_some, n32_lit, bt0', bf0', Bool.not_true, o8, r0, o2, F, W, W2, r1, o3, full, r2, oh, ES, o8', r0', o2', r1', o3', e9, EA]
theorem o_addNoise (h : zC σ b g k gs tl tx) (hI : s_I g B V) {x y z : Nat} (hxy : x ≤ y) (hy : y ≤ 1000000) (h6 : g 6 = n32 z) (hz : z < 20) : zOk σ b (f_X9_addNoise σ b (n32 x) (n32 y)) (n32 (z + 1)) (s_an g z (n32 x) (n32 y)) (s_pk k) (s_pg k gs g) tl tx := by
  obtain ⟨o8, r0, o2, pl, ad, qu, n, hs, hG⟩ := zC_open h hI
  have h0 := zC0_of hs
  obtain ⟨q5, q52⟩ := s_I_5 hI
  have e5 : z_I σ (b + 1 + 5) 2 = n32 z := h0.2.2.2.2.2.1.1.trans h6
  have rr := hs.1.2.2.2.1
  have o5 := hs.1.2.2.2.2.2.2.2.2.2.2.2.2.2.2.1
  have X1 : f_X9_isWithin σ (n32 y) (n32 0) (n32 1000000) = some (bi true) := c_win1 σ (lo := 0) (hi := 1000000) (by omega) (by omega) (by rw [n32_toInt (by omega)]; omega)
  have X2 : f_X9_isWithin σ (n32 x) (n32 0) (n32 y) = some (bi true) := c_win1 σ (lo := 0) (hi := y) (by omega) (by omega) (by rw [n32_toInt (by omega)]; omega)
  have isF : f_X4_isFull σ (b + 1 + 5) = some (bi false) := by
    simp (disch := omega) only [f_X4_isFull, f_X4_isFull_14, ↓zl_eq, ↓zb_eq, ↓zb2_eq, ↓zc_some, ↓zc_none, ↓zb_pre, ↓zb2_pre, ↓zc_pre, ↓zex_eq, ↓reduceIte, Option.isSome_some, Option.isSome_none, Option.getD_some, n32_lit, o5, e5, n32_lt, bl0, bl1]
    rw [if_pos hz]; rfl
  obtain ⟨σ1, ES, C1, O1, E1⟩ := zC_saveF h (s_I_num hI)
  obtain ⟨r2, oh⟩ := zC_hs h
  have h1 := zC0_reg (zEq_s E1 (by omega) (by omega)) h0
  have G1 := qG_reg (zEq_s E1 (by omega) (by omega)) hG
  obtain ⟨σ2, EN, A, A5⟩ := c_addNoise h1 q5 hz h6 (n32 x) (n32 y)
  have h2 := zC0_step h1 A
  have sn : ∀ {j : Nat}, j ≠ 6 → (j < 742 ∨ 782 ≤ j) → s_an g z (n32 x) (n32 y) j = g j := fun a b => s_an_ne g z (n32 x) (n32 y) a (by omega) (by omega)
  have G2 : qG σ2 (b + 1) (s_an g z (n32 x) (n32 y)) := qG_congr A.2.1 (sn (by omega) (by omega)) (sn (by omega) (by omega)) (fun j hj => sn (by omega) (by omega)) G1
  have o8' : z_ob σ1 b 8 = true := by rw [z_ob_eq O1.2.1]; exact o8
  have o2' : z_ob σ1 (b + 1) 2 = true := by rw [z_ob_eq O1.2.1]; exact o2
  have o5' : z_ob σ1 (b + 1 + 5) 4 = true := by rw [z_ob_eq O1.2.1]; exact o5
  have r0' : z_R σ1 b 0 = some (b + 1) := C1.1.2.1
  have rr' := h1.1.2.2.2.1
  have eo : z_ob σ2 = z_ob σ1 := z_ob_eq A.1.2.1
  have eR : z_R σ2 = z_R σ1 := A.1.2.2.1
  refine zOk_line (σ2 := σ2) C1 O1 (zFw_of A.1) (zLn_of h2 G2) ?_
  simp only [f_X9_addNoise, ↓zl_eq, ↓zb_eq, ↓zb2_eq, ↓zc_some, ↓zc_none, ↓zb_pre, ↓zb2_pre, ↓zc_pre, ↓zex_eq, ↓reduceIte, Option.isSome_some, Option.isSome_none, Option.getD_some, n32_lit, X1, X2, bt0', bf0', Bool.not_true, o8, r0, o2, rr, o5, isF, r2, oh, ES, o8', r0', o2', rr', o5', EN, eo, eR, A5]
theorem o_lose (h : zC σ b g k gs tl tx) (hI : s_I g B V) : zOk σ b (f_X9_loseToken σ b) (g 4) (gu g 4 nn) (s_pk k) (s_pg k gs g) tl tx := by
  obtain ⟨o8, r0, o2, pl, ad, qu, n, hs, hG⟩ := zC_open h hI
  have h0 := zC0_of hs
  obtain ⟨σ1, ES, C1, O1, E1⟩ := zC_saveF h (s_I_num hI)
  obtain ⟨r2, oh⟩ := zC_hs h
  have h1 := zC0_reg (zEq_s E1 (by omega) (by omega)) h0
  have G1 := qG_reg (zEq_s E1 (by omega) (by omega)) hG
  have A := c_hold h1 nn
  have h2 := zC0_step h1 A
  have G2 : qG (z_pI σ1 (b + 1) 10 nn) (b + 1) (gu g 4 nn) := qG_congr A.2.1 (gu_ne _ _ (by omega)) (gu_ne _ _ (by omega)) (fun j hj => gu_ne _ _ (by omega)) G1
  have o8' : z_ob σ1 b 8 = true := by rw [z_ob_eq O1.2.1]; exact o8
  have o2' : z_ob σ1 (b + 1) 2 = true := by rw [z_ob_eq O1.2.1]; exact o2
  have r0' : z_R σ1 b 0 = some (b + 1) := C1.1.2.1
  have e10 := (c_L h0).2.2.2.2.2
  refine zOk_line (σ2 := z_pI σ1 (b + 1) 10 nn) C1 O1 (zFw_of A.1) (zLn_of h2 G2) ?_
  simp only [f_X9_loseToken, ↓zl_eq, ↓zb_eq, ↓zb2_eq, ↓zc_some, ↓zc_none, ↓zb_pre, ↓zb2_pre, ↓zc_pre, ↓zex_eq, ↓reduceIte, Option.isSome_some, Option.isSome_none, Option.getD_some, n32_lit, n32_nn2, o8, r0, o2, e10, r2, oh, ES, o8', r0', o2']
theorem o_run (h : zC σ b g k gs tl tx) (hI : s_I g B V) (hV : V ≤ 1000000) {m : Nat} (hm : m ≤ 200) (ht : s_nat g 3 ≤ 900000) : zOk σ b (f_X9_run σ b (n32 m)) (s_it g m 3) (s_it g m) (s_pk k) (s_pg k gs g) tl tx ∧ ∀ j, j ≤ m → s_I (s_it g j) (900000 + 4200 * j) (V + j) := by
  obtain ⟨o8, r0, o2, pl, ad, qu, n, hs, hG⟩ := zC_open h hI
  have h0 := zC0_of hs
  obtain ⟨t3, tB⟩ := s_I_3 hI
  have late := c_late h0 t3 (by omega)
  rw [decide_eq_true ht] at late
  have W := fun σ => c_win1 σ (lo := 0) (hi := 200) (x := n32 m) (by omega) (by omega) (by rw [n32_toInt (by omega)]; omega)
  obtain ⟨σ1, ES, C1, O1, E1⟩ := zC_saveF h (s_I_num hI)
  obtain ⟨r2, oh⟩ := zC_hs h
  obtain ⟨st, st0, H⟩ := c_chain C1.2.1 (s_I_low hI ht) m (by omega) (by omega)
  have o8' : z_ob σ1 b 8 = true := by rw [z_ob_eq O1.2.1]; exact o8
  have o2' : z_ob σ1 (b + 1) 2 = true := by rw [z_ob_eq O1.2.1]; exact o2
  have r0' : z_R σ1 b 0 = some (b + 1) := C1.1.2.1
  obtain ⟨Fm, Lm, Im, _⟩ := H m (Nat.le_refl _)
  have tm : z_I (st m) (b + 1) 9 = s_it g m 3 := by obtain ⟨pl', ad', qu', n', a1, a2, a3, a4⟩ := Lm; exact a3.1.2.2.2.2.1
  have LP : f_X9_run_54 b (n32 m) σ1 (n32 0) = some (s_it g m 3, st m) := by
    unfold f_X9_run_54
    have e0 : (σ1, n32 0) = ((fun j => (st j, n32 j)) 0 : zSt × Int32) := by rw [← st0]
    rw [e0]
    refine zloop_go (N := zN) (fun j => (st j, n32 j)) _ m (fun j hj => ?_) ?_ (by unfold zN; omega)
    · show b_X9_run_54 b (n32 m) (st j) (n32 j) = some (.inl (st (j + 1), n32 (j + 1)))
      obtain ⟨Fj, Lj, Ij, _, Vj⟩ := H j (by omega)
      have eo : z_ob (st j) = z_ob σ1 := z_ob_eq Fj.2.1
      have eR : z_R (st j) = z_R σ1 := Fj.2.2.1
      simp (disch := omega) only [b_X9_run_54, ↓zl_eq, ↓zb_eq, ↓zb2_eq, ↓zc_some, ↓zc_none, ↓zb_pre, ↓zb2_pre, ↓zc_pre, ↓zex_eq, ↓reduceIte, Option.isSome_some, Option.isSome_none, Option.getD_some, n32_lit, n32_le, eo, eR, o8', r0', (Vj hj).1, n32_add]
      rw [if_neg (by omega)]
    · show b_X9_run_54 b (n32 m) (st m) (n32 m) = _
      have eo : z_ob (st m) = z_ob σ1 := z_ob_eq Fm.2.1
      have eR : z_R (st m) = z_R σ1 := Fm.2.2.1
      simp (disch := omega) only [b_X9_run_54, ↓zl_eq, ↓zb_eq, ↓zb2_eq, ↓zc_some, ↓zc_none, ↓zb_pre, ↓zb2_pre, ↓zc_pre, ↓zex_eq, ↓reduceIte, Option.isSome_some, Option.isSome_none, Option.getD_some, n32_le, Nat.le_refl, eo, eR, o8', r0', o2', tm]
  refine ⟨zOk_line (σ2 := st m) C1 O1 (zFw_of Fm) Lm ?_, fun j hj => (H j hj).2.2.1⟩
  simp only [f_X9_run, ↓zl_eq, ↓zb_eq, ↓zb2_eq, ↓zc_some, ↓zc_none, ↓zb_pre, ↓zb2_pre, ↓zc_pre, ↓zex_eq, ↓reduceIte, Option.isSome_some, Option.isSome_none, Option.getD_some, n32_lit, W, bt0', bf0', Bool.not_true, o8, r0, o2, late, r2, oh, ES, LP]
theorem o_undo (h : zC σ b g (k + 1) gs tl tx) (hI : s_I g B V) : zOk σ b (f_X9_undo σ b) (n32 k) (gs k) k gs tl tx := by
  obtain ⟨o8, r0, o2, _⟩ := zC_open h hI
  obtain ⟨r2, oh⟩ := zC_hs h
  obtain ⟨e1, hk4⟩ := zC_k4 h
  obtain ⟨ht, hl, hb, ⟨hl', hs, hr⟩, h4, htx⟩ := h
  obtain ⟨σ1, ER, S1, L1, n1, s1, R1, I1⟩ := c_restore hs (zLn_bl hl) (fun i hi => by have := hr i hi; omega) (by omega)
  have i1 : z_I σ1 (b + 39) 1 = n32 k := S1.2.1
  have oo : z_ob σ1 = z_ob σ := z_ob_eq s1
  have q0 := I1 b (by omega) (by omega)
  have q7 := I1 (b + 117) (by omega) (by omega)
  have nz : (n32 (k + 1) = n32 0) = False := eq_false (by rw [n32_eq (by omega) (by omega)]; omega)
  obtain ⟨t1, t2, t3, t4, t5, t6, t7⟩ := ht
  refine ⟨σ1, ?_, ⟨⟨by rw [oo]; exact t1, by rw [R1]; exact t2, by rw [R1]; exact t3, by rw [R1]; exact t4, by rw [R1]; exact t5, by rw [z_ar_eq s1]; exact t6, by rw [z_ln_eq s1]; exact t7⟩, L1, zBl_far oo (z_ar_eq s1) (z_ln_eq s1) (fun q _ _ => by rw [R1]) (fun q _ _ => (I1 q (by omega) (by omega)).1) hb, ⟨hl', S1, hr⟩, by rw [q0.1]; exact h4, fun j hj => by rw [q7.1]; exact htx j hj⟩, n1, s1, fun q hq => ?_⟩
  · simp only [f_X9_undo, ↓zl_eq, ↓zb_eq, ↓zb2_eq, ↓zc_some, ↓zc_none, ↓zb_pre, ↓zb2_pre, ↓zc_pre, ↓zex_eq, ↓reduceIte, Option.isSome_some, Option.isSome_none, Option.getD_some, n32_lit, o8, r2, oh, e1, nz, r0, ER, oo, R1, i1]
  · have := I1 q (by omega) (by omega)
    exact ⟨this.1, this.2, by rw [R1]⟩
end OBJ
