/-! A STEP OF THE LAW'S TWO OBJECTS -/
def w_E (out : Option (Int32 × zSt)) (b V P : Nat) : Prop := ∃ σ' g g', out = some (1, σ') ∧ w_Q σ' b g g' V P ∧ w_N g
section STEP
variable {σ : zSt} {b V P : Nat} {g g' : zG}
theorem w_E_w {out : Option (Int32 × zSt)} {V' P' : Nat} (h : w_E out b V P) (hV : V ≤ V') (hP : P ≤ P') : w_E out b V' P' := by
  obtain ⟨σ', g, g', e, Q, n⟩ := h
  exact ⟨σ', g, g', e, w_Q_w Q hV hP, n⟩
theorem w_time (hI : s_I g 2000000 V) (hK : k_K g) (hP : k_P g ≤ P) (hV : V ≤ 944) (hp : P ≤ 17) : s_nat g 3 ≤ 800000 := by
  have := k_time hK (V := V) hI.1.2.2.2.2 hP
  omega
theorem w_b1 : z_bl (1 : Int32) = true := rfl
theorem w_A1 (m : Nat) : (1 : Int32) + n32 m = n32 (1 + m) := n32_add 1 m
theorem w_UP {σ : zSt} {v : Int32} {n : Nat} (h : 0 < n) (hn : n < 2147483648) : f_L_up σ v (n32 n) = some (n32 (w_up v n)) := w_L_up σ v h hn
/-- a message is given -/
def w_ge (σ : zSt) (l0 l1 : Nat) (l2 r7 : Int32) : Option (Int32 × zSt) :=
(zb (f_X9_setting σ l0 (8 : Int32)) (fun r9 => (if (99 : Int32) < r9 then
(f_L_isStep_171 σ)
else
(zb (f_L_up σ (l2 >>> ((8 : Int32) &&& 31)) (20 : Int32)) (fun r11 => (zb (f_L_up σ (l2 >>> ((13 : Int32) &&& 31)) (10 : Int32)) (fun r13 => (zb2 (f_X9_give σ l0 r7 ((1 : Int32) + r11) r13) (fun r15 σ16 => (zb (f_L_up σ16 (l2 >>> ((8 : Int32) &&& 31)) (20 : Int32)) (fun r18 => (zb (f_L_up σ16 (l2 >>> ((13 : Int32) &&& 31)) (10 : Int32)) (fun r20 => (if z_ob σ16 l1 8 then (zb2 (f_X9_give σ16 l1 r7 ((1 : Int32) + r18) r20) (fun r23 σ24 => (if r15 = r23 then
(f_L_isStep_171 σ24)
else
(f_L_isStep_176 σ24 (0 : Int32))))) else none))))))))))))))
theorem w_step_give (Q : w_Q σ b g g' V P) (hn : w_N g) {y : Nat} (hy : y < 32) (hz : g (18 + 7 * y + 0) = n32 1) (x : Int32) : w_E (w_ge σ b (b + 118) x (n32 y)) b V P := by
  have Q0 := Q
  obtain ⟨Z, Z', I, I', A, ⟨z, hz0, z6', z6⟩, K, hP⟩ := Q
  obtain ⟨kk, gs, C⟩ := Z
  have S8 : f_X9_setting σ b (8 : Int32) = some (n32 (s_nat g 5)) := by
    have := o_setting C I (w := 8) (by omega)
    rw [show s_set g 8 = g 5 from rfl, (s_I_5 I).2] at this
    exact this
  have e5 : s_nat g' 5 = s_nat g 5 := alk_nat A (by omega) (by omega)
  have q5 := (s_I_5 I).1
  have c99 : ((99 : Int32) < n32 (s_nat g 5)) ↔ 99 < s_nat g 5 := n32_lt (a := 99) (by omega) (by omega)
  by_cases hq : 99 < s_nat g 5
  · refine ⟨σ, g, g', ?_, Q0, hn⟩
    have t := c99.2 hq
    simp only [w_ge, ↓zl_eq, ↓zb_eq, ↓zb2_eq, ↓zc_some, ↓zc_none, ↓zb_pre, ↓zb2_pre, ↓zc_pre, ↓zex_eq, ↓reduceIte, Option.isSome_some, Option.isSome_none, Option.getD_some, S8, t, f_L_isStep_171, f_L_isStep_176, w_b1]
  · have t : ¬ (99 : Int32) < n32 (s_nat g 5) := fun h => hq (c99.1 h)
    have U2 : ∀ σ v, f_L_up σ v (20 : Int32) = some (n32 (w_up v 20)) := fun σ v => w_UP (n := 20) (by omega) (by omega)
    have U1 : ∀ σ v, f_L_up σ v (10 : Int32) = some (n32 (w_up v 10)) := fun σ v => w_UP (n := 10) (by omega) (by omega)
    have l2 := w_up_lt (x >>> ((8 : Int32) &&& 31)) (n := 20) (by omega)
    have l1 := w_up_lt (x >>> ((13 : Int32) &&& 31)) (n := 10) (by omega)
    generalize hl : w_up (x >>> ((8 : Int32) &&& 31)) 20 = l at l2
    generalize hu : w_up (x >>> ((13 : Int32) &&& 31)) 10 = u at l1
    have hz' : g' (18 + 7 * y + 0) = n32 1 := by rw [alk_at A (by omega) (by omega)]; exact hz
    obtain ⟨s1, E1, Y, Y'⟩ := w_l Z' (o_give C I hy hz (l := 1 + l) (u := u) (by omega) (by omega) (by omega) (by omega))
    have o2 := w_ob Y'
    obtain ⟨kk', gs', C'⟩ := Y'
    obtain ⟨s2, E2, W, W'⟩ := w_r Y (o_give C' I' hy hz' (l := 1 + l) (u := u) (by omega) (by omega) (by omega) (by omega))
    rw [e5] at E2 W'
    refine ⟨s2, _, _, ?_, ⟨W, W', s_I_gives I (s_I_5 I).2 (by omega) hy hz (by omega) (by omega) _, s_I_gives I' (by rw [(s_I_5 I').2, e5]) (by omega) hy hz' (by omega) (by omega) _, alk_gives A (by omega) _ _ _, ⟨z, hz0, ?_, ?_⟩, (k_gives K (by omega) _ _ _).1, by rw [(k_gives K (by omega) _ _ _).2]; exact hP⟩, ?_⟩
    · simp only [w_ge, ↓zl_eq, ↓zb_eq, ↓zb2_eq, ↓zc_some, ↓zc_none, ↓zb_pre, ↓zb2_pre, ↓zc_pre, ↓zex_eq, ↓reduceIte, Option.isSome_some, Option.isSome_none, Option.getD_some, S8, t, U2, U1, hl, hu, w_A1, E1, o2, E2, f_L_isStep_171, f_L_isStep_176, w_b1]
    · rw [s_gives_ne _ _ _ _ _ (by omega) (by omega)]; exact z6'
    · rw [s_gives_ne _ _ _ _ _ (by omega) (by omega)]; exact z6
    · refine ⟨?_, k_w_gives hn.2 (s_I_5 I).2 (by omega) _ _ _⟩
      rw [s_ns_congr (g := g) (fun x hx => by rw [s_gives_ne _ _ _ _ _ (by omega) (by omega)])]; exact hn.1
/-- a station is switched -/
def w_so (σ : zSt) (l0 l1 : Nat) (l2 r7 : Int32) : Option (Int32 × zSt) :=
(if ((l2 >>> ((8 : Int32) &&& 31)) &&& (3 : Int32)) ≤ 0 then
(f_L_isStep_76 σ l1 l2 r7 (0 : Int32) r7 (some l0))
else
(f_L_isStep_76 σ l1 l2 r7 (1 : Int32) r7 (some l0)))
theorem s_sw_ne (g : zG) (x : Nat) (on : Bool) {j : Nat} (a : j ≠ 4) (b : j ≠ 18 + 7 * x + 1) (c : j ≠ 18 + 7 * x + 2) : s_sw g x on j = g j := by
  unfold s_sw
  split
  · rw [gu_ne _ _ b]
  · split
    · rw [gu_ne _ _ a, gu_ne _ _ c, gu_ne _ _ b]
    · rw [gu_ne _ _ c, gu_ne _ _ b]
theorem w_step_on (Q : w_Q σ b g g' V P) (hn : w_N g) {y : Nat} (hy : y < 32) (hz : g (18 + 7 * y + 0) = n32 1) (x : Int32) : w_E (w_so σ b (b + 118) x (n32 y)) b V (P + 1) := by
  obtain ⟨Z, Z', I, I', A, ⟨z, hz0, z6', z6⟩, K, hP⟩ := Q
  have o1 := w_ob Z
  obtain ⟨kk, gs, C⟩ := Z
  have hz' : g' (18 + 7 * y + 0) = n32 1 := by rw [alk_at A (by omega) (by omega)]; exact hz
  have key : ∀ on : Bool, ∃ s1 s2, f_X9_setOn σ b (n32 y) (bi on) = some (g (18 + 7 * y + 1), s1) ∧ z_ob s1 (b + 118) 8 = true ∧ f_X9_setOn s1 (b + 118) (n32 y) (bi on) = some (g (18 + 7 * y + 1), s2) ∧ w_Q s2 b (s_sw g y on) (s_sw g' y on) V (P + 1) ∧ w_N (s_sw g y on) := by
    intro on
    obtain ⟨s1, E1, Y, Y'⟩ := w_l Z' (o_setOn C I hy hz on)
    have o2 := w_ob Y'
    obtain ⟨kk', gs', C'⟩ := Y'
    obtain ⟨s2, E2, W, W'⟩ := w_r Y (o_setOn C' I' hy hz' on)
    rw [alk_at A (j := 18 + 7 * y + 1) (by omega) (by omega)] at E2
    refine ⟨s1, s2, E1, o2, E2, ⟨W, W', s_I_sw I hy hz on, s_I_sw I' hy hz' on, alk_sw A hy on, ⟨z, hz0, ?_, ?_⟩, (k_sw K hy on).1, Nat.le_trans (k_sw K hy on).2 (Nat.succ_le_succ hP)⟩, ?_⟩
    · rw [s_sw_ne _ _ _ (by omega) (by omega) (by omega)]; exact z6'
    · rw [s_sw_ne _ _ _ (by omega) (by omega) (by omega)]; exact z6
    · refine ⟨?_, k_w_congr (s_sw_ne _ _ _ (by omega) (by omega) (by omega)) (fun m hm => s_sw_ne _ _ _ (by omega) (by omega) (by omega)) hn.2⟩
      rw [s_ns_congr (g := g) (fun x hx => by rw [s_sw_ne _ _ _ (by omega) (by omega) (by omega)])]; exact hn.1
  by_cases hc : ((x >>> ((8 : Int32) &&& 31)) &&& (3 : Int32)) ≤ 0
  · obtain ⟨s1, s2, E1, o2, E2, Q, n⟩ := key false
    replace E1 : f_X9_setOn σ b (n32 y) (0 : Int32) = some (g (18 + 7 * y + 1), s1) := E1
    replace E2 : f_X9_setOn s1 (b + 118) (n32 y) (0 : Int32) = some (g (18 + 7 * y + 1), s2) := E2
    refine ⟨s2, _, _, ?_, Q, n⟩
    simp only [w_so, ↓zl_eq, ↓zb_eq, ↓zb2_eq, ↓zc_some, ↓zc_none, ↓zb_pre, ↓zb2_pre, ↓zc_pre, ↓zex_eq, ↓reduceIte, Option.isSome_some, Option.isSome_none, Option.getD_some, hc, f_L_isStep_76, f_L_isStep_95, f_L_isStep_106, o1, E1, o2, E2, w_b1]
  · obtain ⟨s1, s2, E1, o2, E2, Q, n⟩ := key true
    replace E1 : f_X9_setOn σ b (n32 y) (1 : Int32) = some (g (18 + 7 * y + 1), s1) := E1
    replace E2 : f_X9_setOn s1 (b + 118) (n32 y) (1 : Int32) = some (g (18 + 7 * y + 1), s2) := E2
    refine ⟨s2, _, _, ?_, Q, n⟩
    simp only [w_so, ↓zl_eq, ↓zb_eq, ↓zb2_eq, ↓zc_some, ↓zc_none, ↓zb_pre, ↓zb2_pre, ↓zc_pre, ↓zex_eq, ↓reduceIte, Option.isSome_some, Option.isSome_none, Option.getD_some, hc, f_L_isStep_76, f_L_isStep_95, f_L_isStep_106, o1, E1, o2, E2, w_b1]
/-- a noise comes -/
def w_no (σ : zSt) (l0 l1 : Nat) (l2 : Int32) : Option (Int32 × zSt) :=
(zb (f_X9_setting σ l0 (6 : Int32)) (fun r60 => (zb (f_L_up σ (l2 >>> ((8 : Int32) &&& 31)) (60 : Int32)) (fun r62 => (zl (r60 + r62) (fun x63 => (if ((l2 >>> ((25 : Int32) &&& 31)) &&& (1 : Int32)) = 0 then
(f_L_isStep_216 σ l0 l1 x63 (3 : Int32) (l2 >>> ((14 : Int32) &&& 31)) x63)
else
(f_L_isStep_216 σ l0 l1 x63 (90 : Int32) (l2 >>> ((14 : Int32) &&& 31)) x63))))))))
theorem w_216 (Q : w_Q σ b g g' V P) (hn : w_N g) {f q : Nat} (hf : f ≤ 900000) (hq1 : 1 ≤ q) (hq : q ≤ 90) (v : Int32) : w_E (f_L_isStep_216 σ b (b + 118) (n32 f) (n32 q) v (n32 f)) b V P := by
  have Q0 := Q
  obtain ⟨Z, Z', I, I', A, ⟨z, hz0, z6', z6⟩, K, hP⟩ := Q
  have o1 := w_ob Z
  obtain ⟨kk, gs, C⟩ := Z
  have S5 : f_X9_setting σ b (5 : Int32) = some (n32 (2 * z)) := by
    have := o_setting C I (w := 5) (by omega)
    rw [show s_set g 5 = g 6 from rfl, z6] at this
    exact this
  have U := w_UP (σ := σ) (v := v) (n := q) (by omega) (by omega)
  have lq := w_up_lt v (n := q) (by omega)
  generalize w_up v q = w at U lq
  have c18 : ((18 : Int32) < n32 (2 * z)) ↔ 18 < 2 * z := n32_lt (a := 18) (by omega) (by omega)
  by_cases hc : 18 < 2 * z
  · refine ⟨σ, g, g', ?_, Q0, hn⟩
    have t := c18.2 hc
    simp only [f_L_isStep_216, ↓zl_eq, ↓zb_eq, ↓zb2_eq, ↓zc_some, ↓zc_none, ↓zb_pre, ↓zb2_pre, ↓zc_pre, ↓zex_eq, ↓reduceIte, Option.isSome_some, Option.isSome_none, Option.getD_some, U, S5, o1, t, f_L_isStep_264, f_L_isStep_269, w_b1]
  · have t : ¬ (18 : Int32) < n32 (2 * z) := fun h => hc (c18.1 h)
    have A0 : n32 f + n32 w = n32 (f + w) := n32_add f w
    obtain ⟨s1, E1, Y, Y'⟩ := w_l Z' (o_addNoise C I (x := f) (y := f + w) (by omega) (by omega) z6 (by omega))
    have o2 := w_ob Y
    obtain ⟨k1, gs1, C1⟩ := Y
    have I1 := s_I_an I (z := 2 * z) (by omega) (n32 f) (n32 (f + w))
    have e61 : s_an g (2 * z) (n32 f) (n32 (f + w)) 6 = n32 (2 * z + 1) := by unfold s_an; exact gu_same _ _ _
    obtain ⟨s2, E2, X, X'⟩ := w_l Y' (o_addNoise C1 I1 (x := f) (y := f + w) (by omega) (by omega) e61 (by omega))
    have o3 := w_ob X'
    obtain ⟨k2, gs2, C2⟩ := X'
    obtain ⟨s3, E3, W, W'⟩ := w_r X (o_addNoise C2 I' (x := f) (y := f + w) (by omega) (by omega) z6' (by omega))
    have n1 : ¬ n32 (2 * z + 1) ≤ 0 := by
      have := n32_le (a := 2 * z + 1) (b := 0) (by omega) (by omega)
      intro h
      have := this.1 h
      omega
    have e2 : n32 (2 * z + 1 + 1) = (2 : Int32) * n32 (z + 1) := by
      have : n32 2 * n32 (z + 1) = n32 (2 * (z + 1)) := n32_mul 2 (z + 1)
      show n32 (2 * z + 1 + 1) = n32 2 * n32 (z + 1)
      rw [this]
      congr 1
    have ka := k_an K (z := 2 * z) (by omega) (n32 f) (n32 (f + w))
    have kb := k_an ka.1 (z := 2 * z + 1) (by omega) (n32 f) (n32 (f + w))
    refine ⟨s3, _, _, ?_, ⟨W, W', s_I_an I1 (by omega) _ _, s_I_an I' (by omega) _ _, alk_an A (by omega) (by omega) z6 z6' _ _, ⟨z + 1, by omega, ?_, ?_⟩, kb.1, by rw [kb.2, ka.2]; exact hP⟩, ?_⟩
    · simp only [f_L_isStep_216, ↓zl_eq, ↓zb_eq, ↓zb2_eq, ↓zc_some, ↓zc_none, ↓zb_pre, ↓zb2_pre, ↓zc_pre, ↓zex_eq, ↓reduceIte, Option.isSome_some, Option.isSome_none, Option.getD_some, U, S5, o1, t, A0, E1, n1, o2, E2, o3, E3, e2, f_L_isStep_264, f_L_isStep_269, w_b1]
    · unfold s_an; exact gu_same _ _ _
    · have : s_an (s_an g (2 * z) (n32 f) (n32 (f + w))) (2 * z + 1) (n32 f) (n32 (f + w)) 6 = n32 (2 * z + 1 + 1) := by
        rw [s_an]; exact gu_same _ _ _
      rw [this]
      congr 1
    · have h5 := (s_I_5 I).1
      refine ⟨?_, k_w_congr (g := g) (by rw [s_an_ne _ _ _ _ (by omega) (by omega) (by omega), s_an_ne _ _ _ _ (by omega) (by omega) (by omega)]) (fun m hm => by rw [s_an_ne _ _ _ _ (by omega) (by omega) (by omega), s_an_ne _ _ _ _ (by omega) (by omega) (by omega)]) hn.2⟩
      rw [s_ns_congr (g := g) (fun x hx => by rw [s_an_ne _ _ _ _ (by omega) (by omega) (by omega), s_an_ne _ _ _ _ (by omega) (by omega) (by omega)])]; exact hn.1
theorem w_step_noise (Q : w_Q σ b g g' V P) (hn : w_N g) (hV : V ≤ 885) (hp : P ≤ 16) (x : Int32) : w_E (w_no σ b (b + 118) x) b V P := by
  have ht := w_time Q.2.2.1 Q.2.2.2.2.2.2.1 Q.2.2.2.2.2.2.2 (by omega) (by omega)
  have S6 : f_X9_setting σ b (6 : Int32) = some (n32 (s_nat g 3)) := by
    obtain ⟨kk, gs, C⟩ := Q.1
    have := o_setting C Q.2.2.1 (w := 6) (by omega)
    rw [show s_set g 6 = g 3 from rfl, (s_I_3 Q.2.2.1).1] at this
    exact this
  have U6 : ∀ σ v, f_L_up σ v (60 : Int32) = some (n32 (w_up v 60)) := fun σ v => w_UP (n := 60) (by omega) (by omega)
  have l6 := w_up_lt (x >>> ((8 : Int32) &&& 31)) (n := 60) (by omega)
  unfold w_no
  rw [S6, zb_eq, U6, zb_eq, n32_add]
  show w_E (if ((x >>> ((25 : Int32) &&& 31)) &&& (1 : Int32)) = 0 then _ else _) b V P
  split
  · exact w_216 Q hn (q := 3) (by omega) (by omega) (by omega) _
  · exact w_216 Q hn (q := 90) (by omega) (by omega) (by omega) _
/-- the token is lost -/
def w_lo (σ : zSt) (l0 l1 : Nat) (l2 : Int32) : Option (Int32 × zSt) :=
(if 0 < ((l2 >>> ((8 : Int32) &&& 31)) &&& (3 : Int32)) then
(f_L_isStep_290 σ)
else
(zb2 (f_X9_loseToken σ l0) (fun r66 σ67 => (if z_ob σ67 l1 8 then (zb2 (f_X9_loseToken σ67 l1) (fun r70 σ71 => (if r66 = r70 then
(f_L_isStep_290 σ71)
else
(f_L_isStep_295 σ71 (0 : Int32))))) else none))))
theorem w_step_lose (Q : w_Q σ b g g' V P) (hn : w_N g) (x : Int32) : w_E (w_lo σ b (b + 118) x) b V (P + 1) := by
  have Q0 := Q
  obtain ⟨Z, Z', I, I', A, ⟨z, hz0, z6', z6⟩, K, hP⟩ := Q
  by_cases hc : 0 < ((x >>> ((8 : Int32) &&& 31)) &&& (3 : Int32))
  · refine ⟨σ, g, g', ?_, w_Q_w Q0 (Nat.le_refl _) (Nat.le_succ _), hn⟩
    simp only [w_lo, ↓zl_eq, ↓zb_eq, ↓zb2_eq, ↓zc_some, ↓zc_none, ↓zb_pre, ↓zb2_pre, ↓zc_pre, ↓zex_eq, ↓reduceIte, Option.isSome_some, Option.isSome_none, Option.getD_some, hc, f_L_isStep_290, f_L_isStep_295, w_b1]
  · obtain ⟨kk, gs, C⟩ := Z
    obtain ⟨s1, E1, Y, Y'⟩ := w_l Z' (o_lose C I)
    have o2 := w_ob Y'
    obtain ⟨kk', gs', C'⟩ := Y'
    obtain ⟨s2, E2, W, W'⟩ := w_r Y (o_lose C' I')
    rw [alk_at A (j := 4) (by omega) (by omega)] at E2
    refine ⟨s2, _, _, ?_, ⟨W, W', s_I_lose I, s_I_lose I', alk_gu A (by omega) (Or.inl (by omega)) _, ⟨z, hz0, ?_, ?_⟩, (k_lose K).1, Nat.le_trans (k_lose K).2 (Nat.succ_le_succ hP)⟩, ?_⟩
    · simp only [w_lo, ↓zl_eq, ↓zb_eq, ↓zb2_eq, ↓zc_some, ↓zc_none, ↓zb_pre, ↓zb2_pre, ↓zc_pre, ↓zex_eq, ↓reduceIte, Option.isSome_some, Option.isSome_none, Option.getD_some, hc, E1, o2, E2, f_L_isStep_290, f_L_isStep_295, w_b1]
    · rw [gu_ne _ _ (by omega)]; exact z6'
    · rw [gu_ne _ _ (by omega)]; exact z6
    · refine ⟨?_, k_w_congr (gu_ne _ _ (by omega)) (fun m hm => gu_ne _ _ (by omega)) hn.2⟩
      rw [s_ns_congr (g := g) (fun x hx => by rw [gu_ne _ _ (by omega)])]; exact hn.1
/-- the network runs -/
theorem w_325 (Q : w_Q σ b g g' V P) (hn : w_N g) (hV : V ≤ 885) (hp : P ≤ 17) {n f : Nat} (hf : f ≤ n) (hn59 : n ≤ 59) : w_E (f_L_isStep_325 σ b (b + 118) (n32 n) (n32 f)) b (V + 59) P := by
  obtain ⟨Z, Z', I, I', A, ⟨z, hz0, z6', z6⟩, K, hP⟩ := Q
  have ht := w_time I K hP (by omega) (by omega)
  have e3 : s_nat g' 3 = s_nat g 3 := alk_nat A (by omega) (by omega)
  have o1 := w_ob Z
  obtain ⟨kk, gs, C⟩ := Z
  obtain ⟨R, RI⟩ := o_run C I (by omega) (m := n) (by omega) (by omega)
  obtain ⟨s1, E1, Y, Y'⟩ := w_l Z' R
  have o2 := w_ob Y'
  obtain ⟨k1, gs1, C1⟩ := Y'
  obtain ⟨R', RI'⟩ := o_run C1 I' (by omega) (m := f) (by omega) (by omega)
  obtain ⟨s2, E2, X, X'⟩ := w_r Y R'
  have o3 := w_ob X'
  obtain ⟨k2, gs2, C2⟩ := X'
  have AL := w_it A (m := n) (by omega) (by omega) RI
  have KL := w_itK K (by omega) (m := n) (by omega) (by omega) RI
  have If := RI' f (Nat.le_refl _)
  have tf : s_nat (s_it g f) 3 ≤ 800000 := by
    obtain ⟨a, c, _⟩ := KL f hf
    have := k_time a (V := V + f) (RI f hf).1.2.2.2.2 (Nat.le_trans c hP)
    omega
  have tf' : s_nat (s_it g' f) 3 = s_nat (s_it g f) 3 := alk_nat (AL f hf).1 (by omega) (by omega)
  obtain ⟨R2, RI2⟩ := o_run C2 If (by omega) (m := n - f) (by omega) (by omega)
  obtain ⟨s3, E3, W, W'⟩ := w_r X R2
  rw [← s_it_add, show f + (n - f) = n by omega] at E3 W'
  rw [alk_at (AL f hf).1 (j := 3) (by omega) (by omega)] at E2
  rw [alk_at (AL n (Nat.le_refl _)).1 (j := 3) (by omega) (by omega)] at E3
  have tn : s_nat (s_it g n) 3 ≤ 800000 := by
    obtain ⟨a, c, _⟩ := KL n (Nat.le_refl _)
    have := k_time a (V := V + n) (RI n (Nat.le_refl _)).1.2.2.2.2 (Nat.le_trans c hP)
    omega
  have n1 : ¬ s_it g n 3 < s_it g f 3 := by
    rw [(s_I_3 (RI n (Nat.le_refl _))).1, (s_I_3 (RI f hf)).1, n32_lt (by omega) (by omega)]
    have := (KL n (Nat.le_refl _)).2.2 f hf
    omega
  have D : n32 n - n32 f = n32 (n - f) := n32_sub hf
  have In := RI n (Nat.le_refl _)
  have In' := RI2 (n - f) (Nat.le_refl _)
  rw [← s_it_add, show f + (n - f) = n by omega] at In'
  have tn' : s_nat (s_it g' n) 3 = s_nat (s_it g n) 3 := alk_nat (AL n (Nat.le_refl _)).1 (by omega) (by omega)
  refine ⟨s3, s_it g n, s_it g' n, ?_, ⟨W, W', s_I_w (s_I_low In (B' := 2000000) (by omega)) (Nat.le_refl _) (by omega), s_I_w (s_I_low In' (B' := 2000000) (by omega)) (Nat.le_refl _) (by omega), (AL n (Nat.le_refl _)).1, ⟨z, hz0, ?_, ?_⟩, (KL n (Nat.le_refl _)).1, Nat.le_trans (KL n (Nat.le_refl _)).2.1 hP⟩, ?_⟩
  · simp only [f_L_isStep_325, ↓zl_eq, ↓zb_eq, ↓zb2_eq, ↓zc_some, ↓zc_none, ↓zb_pre, ↓zb2_pre, ↓zc_pre, ↓zex_eq, ↓reduceIte, Option.isSome_some, Option.isSome_none, Option.getD_some, o1, E1, o2, E2, n1, o3, D, E3, f_L_isStep_365, w_b1]
  · have A6 : ∀ j, j ≤ n → s_it g' j 6 = g' 6 := by
      intro j
      induction j with
      | zero => intro _; rfl
      | succ j ih =>
        intro hj
        have ij : ∃ B, B ≤ 1800000000 ∧ s_I (s_it g' j) B (V + j) := by
          by_cases hjf : j ≤ f
          · exact ⟨_, by omega, RI' j hjf⟩
          · have := RI2 (j - f) (by omega)
            rw [← s_it_add, show f + (j - f) = j by omega] at this
            exact ⟨_, by omega, s_I_w this (Nat.le_refl _) (by omega)⟩
        obtain ⟨B, hB, ij⟩ := ij
        exact ((w_visits_ne ij hB).1 6 (by omega)).trans (ih (by omega))
    rw [A6 n (Nat.le_refl _)]; exact z6'
  · rw [(AL n (Nat.le_refl _)).2.1]; exact z6
  · refine ⟨?_, k_w_it hn.2 (m := n) (fun j hj => ⟨_, _, by omega, RI j hj⟩) n (Nat.le_refl _)⟩
    rw [s_ns_congr (AL n (Nat.le_refl _)).2.2]; exact hn.1
def w_ru (σ : zSt) (l0 l1 : Nat) (l2 : Int32) : Option (Int32 × zSt) :=
(zb (f_L_up σ (l2 >>> ((8 : Int32) &&& 31)) (60 : Int32)) (fun r73 => (if r73 = 0 then
(f_L_isStep_325 σ l0 l1 r73 (0 : Int32))
else
(zb (f_L_up σ (l2 >>> ((16 : Int32) &&& 31)) r73) (fun r75 => (f_L_isStep_325 σ l0 l1 r73 r75))))))
theorem w_step_run (Q : w_Q σ b g g' V P) (hn : w_N g) (hV : V ≤ 885) (hp : P ≤ 17) (x : Int32) : w_E (w_ru σ b (b + 118) x) b (V + 59) P := by
  have U6 : ∀ σ v, f_L_up σ v (60 : Int32) = some (n32 (w_up v 60)) := fun σ v => w_UP (n := 60) (by omega) (by omega)
  have l6 := w_up_lt (x >>> ((8 : Int32) &&& 31)) (n := 60) (by omega)
  unfold w_ru
  rw [U6, zb_eq]
  generalize w_up (x >>> ((8 : Int32) &&& 31)) 60 = n at l6
  show w_E (if n32 n = 0 then _ else _) b (V + 59) P
  by_cases h0 : n = 0
  · subst h0
    rw [if_pos (show n32 0 = (0 : Int32) from rfl)]
    exact w_325 Q hn hV hp (n := 0) (f := 0) (by omega) (by omega)
  · rw [if_neg (show ¬ n32 n = (0 : Int32) from fun h => h0 ((n32_eq (by omega) (by omega)).1 (show n32 n = n32 0 from h))), w_UP (by omega) (by omega), zb_eq]
    have lf := w_up_lt (x >>> ((16 : Int32) &&& 31)) (n := n) (by omega)
    exact w_325 Q hn hV hp (by omega) (by omega)
theorem w_step (Q : w_Q σ b g g' V P) (hn : w_N g) (hV : V ≤ 885) (hp : P ≤ 16) (x : Int32) : w_E (f_L_isStep σ b (b + 118) x) b (V + 59) (P + 1) := by
  have o1 := w_ob Q.1
  have Z := Q.1
  obtain ⟨kk, gs, C⟩ := Z
  obtain ⟨ad, n, hA, S3, hat⟩ := o_addr C Q.2.2.1
  have en := s_ns_A hA
  have S3' : f_X9_setting σ b (3 : Int32) = some (n32 n) := by
    have := o_setting C Q.2.2.1 (w := 3) (by omega)
    rw [S3] at this
    exact this
  have hn8 := hA.1
  have hn1 := hn.1
  have U := w_UP (σ := σ) (v := x >>> ((4 : Int32) &&& 31)) (n := n) (by omega) (by omega)
  have lu := w_up_lt (x >>> ((4 : Int32) &&& 31)) (n := n) (by omega)
  generalize w_up (x >>> ((4 : Int32) &&& 31)) n = i at U lu
  have a := hat i lu
  obtain ⟨hy, hz⟩ := hA.2.1 i lu
  generalize ad i = y at a hy hz
  unfold f_L_isStep
  rw [if_pos o1, S3', zb_eq, U, zb_eq, a, zb_eq]
  by_cases c0 : (x &&& (7 : Int32)) = (0 : Int32)
  · rw [if_pos c0]
    exact w_E_w (w_step_on Q hn hy hz x) (by omega) (Nat.le_refl _)
  rw [if_neg c0]
  by_cases c1 : (x &&& (7 : Int32)) = (1 : Int32)
  · rw [if_pos c1]
    exact w_E_w (w_step_give Q hn hy hz x) (by omega) (by omega)
  rw [if_neg c1]
  by_cases c2 : (x &&& (7 : Int32)) = (2 : Int32)
  · rw [if_pos c2]
    exact w_E_w (w_step_give Q hn hy hz x) (by omega) (by omega)
  rw [if_neg c2]
  by_cases c3 : (x &&& (7 : Int32)) = (3 : Int32)
  · rw [if_pos c3]
    exact w_E_w (w_step_give Q hn hy hz x) (by omega) (by omega)
  rw [if_neg c3]
  by_cases c4 : (x &&& (7 : Int32)) = (4 : Int32)
  · rw [if_pos c4]
    exact w_E_w (w_step_noise Q hn hV hp x) (by omega) (by omega)
  rw [if_neg c4]
  by_cases c5 : (x &&& (7 : Int32)) = (5 : Int32)
  · rw [if_pos c5]
    exact w_E_w (w_step_lose Q hn x) (by omega) (Nat.le_refl _)
  rw [if_neg c5]
  exact w_E_w (w_step_run Q hn hV (by omega) x) (Nat.le_refl _) (by omega)
end STEP
