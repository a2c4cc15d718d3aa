/-! ONE OBJECT AMONG OTHERS: what if -/
def s_wj (g : zG) (m : Nat) : Nat := s_fst (fun j => !decide (s_it g j (242 + 5 * m + 4) = nn)) 300 0
def s_wa (g : zG) (m : Nat) : Int32 := s_it g (s_wj g m) (242 + 5 * m + 4)
def s_cj (g : zG) : Nat := s_fst (fun j => s_compl (s_it g j) 32) 300 0
def s_ca (g : zG) : Int32 := if s_compl (s_it g (s_cj g)) 32 = true then n32 (s_cj g) else nn
def s_lb (g : zG) (vis i : Nat) : Bool := !decide (0 < s_wtn (s_lx vis (20 * (i + 1)) g) 32)
def s_la (g : zG) (vis : Nat) : Int32 := if s_fst (s_lb g vis) 20 0 = 20 then nn else n32 (20 * (s_fst (s_lb g vis) 20 0 + 1))
section OBJ
variable {σ : zSt} {b k tl : Nat} {g : zG} {gs : Nat → zG} {tx : Nat → Int32} {B V : Nat}
theorem zOk_trial {σ2 : zSt} (h : zC σ b g k gs tl tx) (F : zFr (b + 20) σ σ2) (L : zBl σ2 (b + 20)) {out : Option (Int32 × zSt)} {v : Int32} (e : out = some (v, σ2)) : zOk σ b out v g k gs tl tx :=
  ⟨σ2, e, zC_trial (zFw_of F) L h, zOf_fw (zFw_of F) (by omega) (by omega)⟩
theorem o_complete (h : zC σ b g k gs tl tx) (hI : s_I g B V) (hV : V ≤ 1000000) (ht : s_nat g 3 ≤ 900000) : zOk σ b (f_X9_completeAfter σ b) (s_ca g) g k gs tl tx := by
  obtain ⟨o8, r0, o2, pl, ad, qu, n, hs, hG⟩ := zC_open h hI
  have h0 := zC0_of hs
  obtain ⟨t3, tB⟩ := s_I_3 hI
  have late := c_late h0 t3 (by omega)
  rw [decide_eq_true ht] at late
  have rt : z_R σ b 1 = some (b + 20) := h.1.2.2.1
  have ot : z_ob σ (b + 20) 2 = true := h.2.2.1.1.1
  obtain ⟨σ1, EC, F1, L1, C1⟩ := zC_copy h (s_I_num hI)
  obtain ⟨st, st0, H⟩ := c_chain L1 (s_I_low hI ht) 300 (by omega) (by omega)
  obtain ⟨J1, J2, J3, J4⟩ := s_fst_p (fun j => s_compl (s_it g j) 32) 300 0
  have eJ : s_ca g = if s_compl (s_it g (s_fst (fun j => s_compl (s_it g j) 32) 300 0)) 32 = true then n32 (s_fst (fun j => s_compl (s_it g j) 32) 300 0) else nn := rfl
  rw [eJ]
  generalize s_fst (fun j => s_compl (s_it g j) 32) 300 0 = J at J1 J2 J3 J4
  have cmp : ∀ j, j ≤ 300 → f_X2_isComplete (st j) (b + 20) = some (bi (s_compl (s_it g j) 32)) := fun j hj => by
    obtain ⟨_, ⟨pl', ad', qu', n', a1, a2, a3, a4⟩, Ij, _, _⟩ := H j hj
    exact c_isComplete ⟨a1, a2, a3, s_I_6 Ij, s_I_sta Ij⟩
  have sh : ∀ j, j ≤ 300 → z_ob (st j) b 8 = true ∧ z_R (st j) b 1 = some (b + 20) ∧ z_ob (st j) (b + 20) 2 = true := fun j hj => by
    have F := zFr_t F1 (H j hj).1
    exact ⟨by rw [z_ob_eq F.2.1]; exact o8, by rw [F.2.2.1]; exact rt, by rw [z_ob_eq F.2.1]; exact ot⟩
  have FJ := zFr_t F1 (H J (by omega)).1
  have LP : f_X9_completeAfter_33 b σ1 (n32 0) = some (if s_compl (s_it g J) 32 = true then n32 J else nn, st J) := by
    unfold f_X9_completeAfter_33
    have e0 : (σ1, n32 0) = ((fun j => (st j, n32 j)) 0 : zSt × Int32) := by rw [← st0]
    rw [e0]
    refine zloop_go (N := zN) (fun j => (st j, n32 j)) _ J (fun j hj => ?_) ?_ (by unfold zN; omega)
    · show b_X9_completeAfter_33 b (st j) (n32 j) = some (.inl (st (j + 1), n32 (j + 1)))
      obtain ⟨s1, s2, s3⟩ := sh j (by omega)
      have cj := cmp j (by omega)
      rw [J4 j (by omega) hj] at cj
      simp (disch := omega) only [b_X9_completeAfter_33, ↓zl_eq, ↓zb_eq, ↓zb2_eq, ↓zc_some, ↓zc_none, ↓zb_pre, ↓zb2_pre, ↓zc_pre, ↓zex_eq, ↓reduceIte, Option.isSome_some, Option.isSome_none, Option.getD_some, n32_lit, n32_le, s1, s2, s3, cj, bf0', ((H j (by omega)).2.2.2.2 (by omega)).1, n32_add]
      rw [if_neg (by omega)]
    · show b_X9_completeAfter_33 b (st J) (n32 J) = _
      obtain ⟨s1, s2, s3⟩ := sh J (by omega)
      have cj := cmp J (by omega)
      by_cases h3 : J = 300
      · subst h3
        cases hc : s_compl (s_it g 300) 32 with
        | true =>
          rw [hc] at cj
          simp (disch := omega) only [b_X9_completeAfter_33, f_X9_completeAfter_82, ↓zl_eq, ↓zb_eq, ↓zb2_eq, ↓zc_some, ↓zc_none, ↓zb_pre, ↓zb2_pre, ↓zc_pre, ↓zex_eq, ↓reduceIte, Option.isSome_some, Option.isSome_none, Option.getD_some, n32_lit, n32_le, Nat.le_refl, s1, s2, s3, cj, bt0']
        | false =>
          rw [hc] at cj
          simp (disch := omega) only [b_X9_completeAfter_33, f_X9_completeAfter_82, ↓zl_eq, ↓zb_eq, ↓zb2_eq, ↓zc_some, ↓zc_none, ↓zb_pre, ↓zb2_pre, ↓zc_pre, ↓zex_eq, ↓reduceIte, Option.isSome_some, Option.isSome_none, Option.getD_some, n32_lit, n32_nn2, n32_le, Nat.le_refl, s1, s2, s3, cj, bf0', Bool.false_eq_true]
      · have hc : s_compl (s_it g J) 32 = true := by
          rcases J3 with h | h
          · omega
          · exact h
        rw [hc] at cj ⊢
        simp (disch := omega) only [b_X9_completeAfter_33, ↓zl_eq, ↓zb_eq, ↓zb2_eq, ↓zc_some, ↓zc_none, ↓zb_pre, ↓zb2_pre, ↓zc_pre, ↓zex_eq, ↓reduceIte, Option.isSome_some, Option.isSome_none, Option.getD_some, n32_lit, n32_le, s1, s2, s3, cj, bt0']
        rw [if_neg (by omega)]
  refine zOk_trial (σ2 := st J) h FJ (zLn_bl (H J (by omega)).2.1) ?_
  simp only [f_X9_completeAfter, ↓zl_eq, ↓zb_eq, ↓zb2_eq, ↓zc_some, ↓zc_none, ↓zb_pre, ↓zb2_pre, ↓zc_pre, ↓zex_eq, ↓reduceIte, Option.isSome_some, Option.isSome_none, Option.getD_some, n32_lit, bf0', Bool.not_true, o8, r0, o2, late, rt, ot, EC, LP]
theorem o_waitOf (h : zC σ b g k gs tl tx) (hI : s_I g B V) (hV : V ≤ 1000000) (ht : s_nat g 3 ≤ 900000) {m : Nat} (hm2 : m < s_nat g 5) (hw : g (242 + 5 * m + 4) = nn) : zOk σ b (f_X9_waitOf σ b (n32 m)) (s_wa g m) g k gs tl tx := by
  obtain ⟨o8, r0, o2, pl, ad, qu, n, hs, hG⟩ := zC_open h hI
  have h0 := zC0_of hs
  obtain ⟨t3, tB⟩ := s_I_3 hI
  obtain ⟨q5, q52⟩ := s_I_5 hI
  have late := c_late h0 t3 (by omega)
  rw [decide_eq_true ht] at late
  have r1 := hs.1.2.2.1
  have o3 := hs.1.2.2.2.2.2.2.2.2.1
  have eM : z_I σ (b + 1 + 2) 1 = n32 (s_nat g 5) := hs.2.2.1.2.2.1.1.trans q52
  have Hh := c_has hs.1 q5 eM (n32 m)
  rw [decide_eq_true (by rw [n32_toInt (by omega)]; omega)] at Hh
  have VL := c_value hs.1 h0.2.2.2.1.1 (m := m) (w := 4) (by omega) (by decide)
  rw [h0.2.2.2.2.1.2 m 4 hm2 (by decide)] at VL
  have rt : z_R σ b 1 = some (b + 20) := h.1.2.2.1
  have ot : z_ob σ (b + 20) 2 = true := h.2.2.1.1.1
  obtain ⟨σ1, EC, F1, L1, C1⟩ := zC_copy h (s_I_num hI)
  obtain ⟨st, st0, H⟩ := c_chain L1 (s_I_low hI ht) 300 (by omega) (by omega)
  obtain ⟨J1, J2, J3, J4⟩ := s_fst_p (fun j => !decide (s_it g j (242 + 5 * m + 4) = nn)) 300 0
  have eJ : s_wa g m = s_it g (s_fst (fun j => !decide (s_it g j (242 + 5 * m + 4) = nn)) 300 0) (242 + 5 * m + 4) := rfl
  rw [eJ]
  generalize s_fst (fun j => !decide (s_it g j (242 + 5 * m + 4) = nn)) 300 0 = J at J1 J2 J3 J4
  have J4' : ∀ j, j < J → s_it g j (242 + 5 * m + 4) = nn := fun j hj => by
    have := J4 j (by omega) hj
    simpa using this
  have J3' : J = 300 ∨ ¬ s_it g J (242 + 5 * m + 4) = nn := by
    rcases J3 with h | h
    · exact Or.inl (by omega)
    · exact Or.inr (by simpa using h)
  have val : ∀ j, j ≤ 300 → f_X3_value (st j) (b + 20 + 2) (n32 m) (n32 4) = some (s_it g j (242 + 5 * m + 4)) := fun j hj => by
    obtain ⟨_, ⟨pl', ad', qu', n', a1, a2, a3, a4⟩, Ij, e5, _⟩ := H j hj
    have n5 : s_nat (s_it g j) 5 = s_nat g 5 := by unfold s_nat; rw [e5]
    have := c_value a1 a3.2.1.1 (m := m) (w := 4) (by omega) (by decide)
    rw [a3.2.2.1.2 m 4 (by omega) (by decide)] at this
    exact this
  have sh : ∀ j, j ≤ 300 → z_ob (st j) b 8 = true ∧ z_R (st j) b 1 = some (b + 20) ∧ z_ob (st j) (b + 20) 2 = true ∧ z_R (st j) (b + 20) 1 = some (b + 20 + 2) ∧ z_ob (st j) (b + 20 + 2) 3 = true := fun j hj => by
    have F := zFr_t F1 (H j hj).1
    obtain ⟨_, ⟨pl', ad', qu', n', a1, _⟩, _⟩ := H j hj
    exact ⟨by rw [z_ob_eq F.2.1]; exact o8, by rw [F.2.2.1]; exact rt, by rw [z_ob_eq F.2.1]; exact ot, a1.2.2.1, a1.2.2.2.2.2.2.2.2.1⟩
  have FJ := zFr_t F1 (H J (by omega)).1
  have LP : f_X9_waitOf_75 b (n32 m) σ1 nn (n32 0) = some (s_it g J (242 + 5 * m + 4), st J) := by
    unfold f_X9_waitOf_75
    have e0 : (σ1, nn, n32 0) = ((fun j => (st j, s_it g j (242 + 5 * m + 4), n32 j)) 0 : zSt × Int32 × Int32) := by
      show (σ1, nn, n32 0) = (st 0, g (242 + 5 * m + 4), n32 0)
      rw [st0, hw]
    rw [e0]
    refine zloop_go (N := zN) (fun j => (st j, s_it g j (242 + 5 * m + 4), n32 j)) _ J (fun j hj => ?_) ?_ (by unfold zN; omega)
    · show b_X9_waitOf_75 b (n32 m) (st j) (s_it g j (242 + 5 * m + 4)) (n32 j) = some (.inl (st (j + 1), s_it g (j + 1) (242 + 5 * m + 4), n32 (j + 1)))
      obtain ⟨s1, s2, s3, _, _⟩ := sh j (by omega)
      obtain ⟨u1, u2, u3, u4, u5⟩ := sh (j + 1) (by omega)
      have v1 := val (j + 1) (by omega)
      rw [J4' j hj]
      simp (disch := omega) only [b_X9_waitOf_75, ↓zl_eq, ↓zb_eq, ↓zb2_eq, ↓zc_some, ↓zc_none, ↓zb_pre, ↓zb2_pre, ↓zc_pre, ↓zex_eq, ↓reduceIte, Option.isSome_some, Option.isSome_none, Option.getD_some, n32_lit, n32_nn2, n32_le, s1, s2, ((H j (by omega)).2.2.2.2 (by omega)).1, u1, u2, u3, u4, u5, v1, n32_add]
      rw [if_neg (by omega)]
    · show b_X9_waitOf_75 b (n32 m) (st J) (s_it g J (242 + 5 * m + 4)) (n32 J) = _
      rcases J3' with h3 | h3
      · subst h3
        simp (disch := omega) only [b_X9_waitOf_75, f_X9_waitOf_113, ↓zl_eq, ↓zb_eq, ↓zb2_eq, ↓zc_some, ↓zc_none, ↓zb_pre, ↓zb2_pre, ↓zc_pre, ↓zex_eq, ↓reduceIte, Option.isSome_some, Option.isSome_none, Option.getD_some, n32_lit, n32_nn2, n32_le, Nat.le_refl]
      · simp (disch := omega) only [b_X9_waitOf_75, f_X9_waitOf_113, ↓zl_eq, ↓zb_eq, ↓zb2_eq, ↓zc_some, ↓zc_none, ↓zb_pre, ↓zb2_pre, ↓zc_pre, ↓zex_eq, ↓reduceIte, Option.isSome_some, Option.isSome_none, Option.getD_some, n32_lit, n32_nn2, n32_le, if_neg h3, ite_self]
  refine zOk_trial (σ2 := st J) h FJ (zLn_bl (H J (by omega)).2.1) ?_
  simp only [f_X9_waitOf, ↓zl_eq, ↓zb_eq, ↓zb2_eq, ↓zc_some, ↓zc_none, ↓zb_pre, ↓zb2_pre, ↓zc_pre, ↓zex_eq, ↓reduceIte, Option.isSome_some, Option.isSome_none, Option.getD_some, n32_lit, n32_nn2, bt0', bf0', Bool.not_true, o8, r0, o2, r1, o3, Hh, VL, hw, late, rt, ot, EC, LP]
/-- the class through the targets -/
theorem o_targets (h : zC σ b g k gs tl tx) (hI : s_I g 900000 V) (hV : V ≤ 1000000) {vis : Nat} (hvis : vis ≤ 100) : ∀ m, ∃ st : Nat → zSt, st 0 = σ ∧ ∀ i, i ≤ m → zFr (b + 20) σ (st i) ∧ zBl (st i) (b + 20) ∧ (i < m → f_X9_sendsAll (st i) b (n32 (20 * (i + 1))) (n32 vis) = some (bi (s_lb g vis i), st (i + 1))) := by
  intro m
  induction m with
  | zero =>
    refine ⟨fun _ => σ, rfl, fun j hj => ?_⟩
    have : j = 0 := by omega
    subst this
    exact ⟨zFr_r _ σ, h.2.2.1, fun h => by omega⟩
  | succ m ih =>
    obtain ⟨st, s0, H⟩ := ih
    obtain ⟨F, L, _⟩ := H m (Nat.le_refl _)
    have C : zC (st m) b g k gs tl tx := zC_trial (zFw_of F) L h
    obtain ⟨σ', E, F', L', _⟩ := c_sendsAll C hI hV hvis (20 * (m + 1))
    refine ⟨fun i => if i = m + 1 then σ' else st i, by show (if 0 = m + 1 then σ' else st 0) = σ; rw [if_neg (by omega)]; exact s0, fun j hj => ?_⟩
    by_cases hjm : j = m + 1
    · subst hjm
      show zFr (b + 20) σ (if m + 1 = m + 1 then σ' else _) ∧ zBl (if m + 1 = m + 1 then σ' else _) (b + 20) ∧ _
      rw [if_pos rfl]
      exact ⟨zFr_t F F', L', fun h => absurd h (Nat.lt_irrefl _)⟩
    · have Hj := H j (by omega)
      show zFr (b + 20) σ (if j = m + 1 then σ' else st j) ∧ zBl (if j = m + 1 then σ' else st j) (b + 20) ∧ (_ → f_X9_sendsAll (if j = m + 1 then σ' else st j) b _ _ = some (_, if j + 1 = m + 1 then σ' else st (j + 1)))
      rw [if_neg hjm]
      refine ⟨Hj.1, Hj.2.1, fun _ => ?_⟩
      by_cases hjm2 : j = m
      · subst hjm2
        rw [if_pos rfl]
        exact E
      · rw [if_neg (by omega)]
        exact Hj.2.2 (by omega)
theorem o_least (h : zC σ b g k gs tl tx) (hI : s_I g B V) (hV : V ≤ 1000000) (ht : s_nat g 3 ≤ 900000) {vis : Nat} (hvis : vis ≤ 100) : zOk σ b (f_X9_leastTarget σ b (n32 vis)) (s_la g vis) g k gs tl tx := by
  obtain ⟨o8, r0, o2, pl, ad, qu, n, hs, hG⟩ := zC_open h hI
  have h0 := zC0_of hs
  obtain ⟨t3, tB⟩ := s_I_3 hI
  have late := c_late h0 t3 (by omega)
  rw [decide_eq_true ht] at late
  have W := fun σ => c_win1 σ (lo := 0) (hi := 100) (x := n32 vis) (by omega) (by omega) (by rw [n32_toInt (by omega)]; omega)
  obtain ⟨st, st0, H⟩ := o_targets h (s_I_low hI ht) hV hvis 20
  obtain ⟨J1, J2, J3, J4⟩ := s_fst_p (s_lb g vis) 20 0
  have eJ : s_la g vis = if s_fst (s_lb g vis) 20 0 = 20 then nn else n32 (20 * (s_fst (s_lb g vis) 20 0 + 1)) := rfl
  rw [eJ]
  generalize s_fst (s_lb g vis) 20 0 = J at J1 J2 J3 J4
  have oj : ∀ i, i ≤ 20 → z_ob (st i) b 8 = true := fun i hi => by rw [z_ob_eq (H i hi).1.2.1]; exact o8
  have LP : f_X9_leastTarget_43 b (n32 vis) σ (n32 20) = some (if J = 20 then nn else n32 (20 * (J + 1)), st (if J = 20 then 20 else J + 1)) := by
    unfold f_X9_leastTarget_43
    have e0 : (σ, n32 20) = ((fun i => (st i, n32 (20 * (i + 1)))) 0 : zSt × Int32) := by rw [← st0]
    rw [e0]
    refine zloop_go (N := zN) (fun i => (st i, n32 (20 * (i + 1)))) _ J (fun i hi => ?_) ?_ (by unfold zN; omega)
    · show b_X9_leastTarget_43 b (n32 vis) (st i) (n32 (20 * (i + 1))) = some (.inl (st (i + 1), n32 (20 * (i + 1 + 1))))
      have S := (H i (by omega)).2.2 (by omega)
      rw [J4 i (by omega) hi] at S
      have ea : 20 * (i + 1) + 20 = 20 * (i + 1 + 1) := by omega
      simp (disch := omega) only [b_X9_leastTarget_43, ↓zl_eq, ↓zb_eq, ↓zb2_eq, ↓zc_some, ↓zc_none, ↓zb_pre, ↓zb2_pre, ↓zc_pre, ↓zex_eq, ↓reduceIte, Option.isSome_some, Option.isSome_none, Option.getD_some, n32_lit, n32_lt, oj, S, bf0', n32_add, ea]
      rw [if_neg (by omega)]
    · show b_X9_leastTarget_43 b (n32 vis) (st J) (n32 (20 * (J + 1))) = _
      by_cases h20 : J = 20
      · subst h20
        rw [if_pos rfl, if_pos rfl]
        simp (disch := omega) only [b_X9_leastTarget_43, ↓zl_eq, ↓zb_eq, ↓zb2_eq, ↓zc_some, ↓zc_none, ↓zb_pre, ↓zb2_pre, ↓zc_pre, ↓zex_eq, ↓reduceIte, Option.isSome_some, Option.isSome_none, Option.getD_some, n32_lit, n32_nn2, n32_lt]
        rw [if_pos (by omega)]
      · have hc : s_lb g vis J = true := by
          rcases J3 with h | h
          · omega
          · exact h
        have S := (H J (by omega)).2.2 (by omega)
        rw [hc] at S
        have oJ := oj J (by omega)
        rw [if_neg h20, if_neg h20]
        simp (disch := omega) only [b_X9_leastTarget_43, ↓zl_eq, ↓zb_eq, ↓zb2_eq, ↓zc_some, ↓zc_none, ↓zb_pre, ↓zb2_pre, ↓zc_pre, ↓zex_eq, ↓reduceIte, Option.isSome_some, Option.isSome_none, Option.getD_some, n32_lit, n32_lt, oJ, S, bt0']
        rw [if_neg (by omega)]
  generalize hJF : (if J = 20 then 20 else J + 1) = JF at LP
  have hJF2 : JF ≤ 20 := by
    rw [← hJF]
    by_cases h20 : J = 20
    · rw [if_pos h20]; exact Nat.le_refl _
    · rw [if_neg h20]; omega
  refine zOk_trial (σ2 := st JF) h (H JF hJF2).1 (H JF hJF2).2.1 ?_
  simp only [f_X9_leastTarget, ↓zl_eq, ↓zb_eq, ↓zb2_eq, ↓zc_some, ↓zc_none, ↓zb_pre, ↓zb2_pre, ↓zc_pre, ↓zex_eq, ↓reduceIte, Option.isSome_some, Option.isSome_none, Option.getD_some, n32_lit, W, bt0', bf0', Bool.not_true, o8, r0, o2, late, LP]
end OBJ
