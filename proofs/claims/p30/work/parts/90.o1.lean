/-! ONE OBJECT AMONG OTHERS -/
/-- nothing but the object at b has changed -/
def zOf (b : Nat) (σ σ' : zSt) : Prop := z_nx σ' = z_nx σ ∧ z_sh σ' = z_sh σ ∧ ∀ q, (q < b ∨ b + 118 ≤ q) → z_I σ' q = z_I σ q ∧ z_J σ' q = z_J σ q ∧ z_R σ' q = z_R σ q
theorem zOf_r (b : Nat) (σ : zSt) : zOf b σ σ := ⟨rfl, rfl, fun _ _ => ⟨rfl, rfl, rfl⟩⟩
theorem zOf_t {b : Nat} {σ σ' σ'' : zSt} (h : zOf b σ σ') (h2 : zOf b σ' σ'') : zOf b σ σ'' :=
  ⟨h2.1.trans h.1, h2.2.1.trans h.2.1, fun q hq => ⟨(h2.2.2 q hq).1.trans (h.2.2 q hq).1, (h2.2.2 q hq).2.1.trans (h.2.2 q hq).2.1, (h2.2.2 q hq).2.2.trans (h.2.2 q hq).2.2⟩⟩
theorem zOf_fw {a b : Nat} {σ σ' : zSt} (h : zFw a σ σ') (h1 : b ≤ a) (h2 : a + 19 ≤ b + 118) : zOf b σ σ' := ⟨h.1, h.2.1, fun q hq => h.2.2 q (by omega)⟩
theorem zEq_of {b lo hi : Nat} {σ σ' : zSt} (h : zOf b σ σ') (hd : hi ≤ b ∨ b + 118 ≤ lo) : zEq lo hi σ σ' := fun q h1 h2 => by
  have := h.2.2 q (by omega)
  exact ⟨by rw [h.2.1], this.1, this.2.1, this.2.2⟩
section OBJ
variable {σ : zSt} {b k tl : Nat} {g : zG} {gs : Nat → zG} {tx : Nat → Int32} {B V : Nat}
/-- a save keeps the others -/
theorem zC_saveF (h : zC σ b g k gs tl tx) (hN : s_num g) :
    ∃ σ', f_X1_save σ (b + 39) (b + 1) = some σ' ∧ zC σ' b g (s_pk k) (s_pg k gs g) tl tx ∧ zOf b σ σ' ∧ zEq b (b + 39) σ σ' := by
  obtain ⟨σ', E, C, n1, s1, E1, E2⟩ := zC_save h hN
  refine ⟨σ', E, C, ⟨n1, s1, fun q hq => ?_⟩, E1⟩
  obtain ⟨ht, hl, hb, ⟨hl', hs, hr⟩, h4, htx⟩ := h
  have key : ∀ σ2, f_X1_save σ (b + 39) (b + 1) = some σ2 → zHo σ σ2 (b + 39) hl' → z_I σ' q = z_I σ q ∧ z_J σ' q = z_J σ q ∧ z_R σ' q = z_R σ q := by
    intro σ2 e ho
    obtain rfl : σ' = σ2 := Option.some.inj (E.symm.trans e)
    have := ho.2.2.2 q (by omega) (fun i hi => by have := hr i hi; omega)
    exact ⟨this.1, this.2, ho.2.2.1 q (by omega)⟩
  by_cases hk : k = 4
  · subst hk
    obtain ⟨σ2, e, S, ho⟩ := c_save4 hs hl hN (fun i hi => by have := hr i hi; omega) (by omega)
    exact key σ2 e ho
  · have hk4 := hs.2.2.1
    obtain ⟨σ2, e, S, ho⟩ := c_save3 hs (by omega) hl hN (fun i hi => by have := hr i hi; omega)
    exact key σ2 e ho
/-- what a call that saves and changes the line leaves -/
def zOk (σ : zSt) (b : Nat) (out : Option (Int32 × zSt)) (v : Int32) (g : zG) (k : Nat) (gs : Nat → zG) (tl : Nat) (tx : Nat → Int32) : Prop := ∃ σ', out = some (v, σ') ∧ zC σ' b g k gs tl tx ∧ zOf b σ σ'
theorem zOk_line {σ1 σ2 : zSt} {g' : zG} {k' : Nat} {gs' : Nat → zG} (C : zC σ1 b g k' gs' tl tx) (O : zOf b σ σ1) (F : zFw (b + 1) σ1 σ2) (hl : zLn σ2 (b + 1) g') {out : Option (Int32 × zSt)} {v : Int32} (e : out = some (v, σ2)) : zOk σ b out v g' k' gs' tl tx :=
  ⟨σ2, e, zC_line F hl C, zOf_t O (zOf_fw F (by omega) (by omega))⟩
theorem o_setting (h : zC σ b g k gs tl tx) (hI : s_I g B V) {w : Nat} (hw : w < 9) : f_X9_setting σ b (n32 w) = some (s_set g w) := by
  obtain ⟨o8, r0, o2, pl, ad, qu, n, hs, hG⟩ := zC_open h hI
  have W := fun σ => c_win1 σ (lo := 0) (hi := 8) (x := n32 w) (by omega) (by omega) (by rw [n32_toInt (by omega)]; omega)
  have S := c_settingValue hs hw
  simp only [f_X9_setting, ↓zl_eq, ↓zb_eq, ↓zb2_eq, ↓zc_some, ↓zc_none, ↓zb_pre, ↓zb2_pre, ↓zc_pre, ↓zex_eq, ↓reduceIte, Option.isSome_some, Option.isSome_none, Option.getD_some, n32_lit, W, bt0', o8, r0, o2, S]
theorem o_count (h : zC σ b g k gs tl tx) (hI : s_I g B V) {w : Nat} (hw : w < 7) : f_X9_count σ b (n32 w) = some (g (9 + w)) := by
  obtain ⟨o8, r0, o2, pl, ad, qu, n, hs, hG⟩ := zC_open h hI
  have h0 := zC0_of hs
  have W := fun σ => c_win1 σ (lo := 0) (hi := 6) (x := n32 w) (by omega) (by omega) (by rw [n32_toInt (by omega)]; omega)
  have S := c_value0 h0 hw
  have r3 := hs.1.2.2.2.2.1
  have o8' := hs.1.2.2.2.2.2.2.2.2.2.2.2.2.2.2.2.2.2.2.2.2.2.1
  simp only [f_X9_count, ↓zl_eq, ↓zb_eq, ↓zb2_eq, ↓zc_some, ↓zc_none, ↓zb_pre, ↓zb2_pre, ↓zc_pre, ↓zex_eq, ↓reduceIte, Option.isSome_some, Option.isSome_none, Option.getD_some, n32_lit, W, bt0', o8, r0, o2, r3, o8', S]
theorem o_station (h : zC σ b g k gs tl tx) (hI : s_I g B V) {x w : Nat} (hx : x < 32) (hz : g (18 + 7 * x + 0) = n32 1) (hw : w < 7) : f_X9_station σ b (n32 x) (n32 w) = some (s_stv g x w (s_nat g 5)) := by
  obtain ⟨o8, r0, o2, pl, ad, qu, n, hs, hG⟩ := zC_open h hI
  have h0 := zC0_of hs
  rcases c_is hs hx with h1 | ⟨_, i, hi, rfl⟩
  · rw [h1] at hz; exact absurd hz nn01
  · have F := c_find1 hs hi
    have W := fun σ => c_win1 σ (lo := 0) (hi := 6) (x := n32 w) (by omega) (by omega) (by rw [n32_toInt (by omega)]; omega)
    have S := c_value6 hs hi hw
    have obi := c_ob h0 hi
    simp only [f_X9_station, ↓zl_eq, ↓zb_eq, ↓zb2_eq, ↓zc_some, ↓zc_none, ↓zb_pre, ↓zb2_pre, ↓zc_pre, ↓zex_eq, ↓reduceIte, Option.isSome_some, Option.isSome_none, Option.getD_some, n32_lit, W, bt0', o8, r0, o2, F, obi, S]
/-- the addresses -/
theorem o_addr (h : zC σ b g k gs tl tx) (hI : s_I g B V) : ∃ ad n, qA ad n g ∧ s_set g 3 = n32 n ∧ ∀ i, i < n → f_X9_addressAt σ b (n32 i) = some (n32 (ad i)) := by
  obtain ⟨o8, r0, o2, pl, ad, qu, n, hs, hG⟩ := zC_open h hI
  have h0 := zC0_of hs
  refine ⟨ad, n, c_qA h0, ?_, fun i hi => ?_⟩
  · have S := c_settingValue hs (show 3 < 9 by decide)
    have e5 := (c_L h0).1
    have o1 := hs.1.1
    simp (disch := omega) only [f_X2_settingValue, ↓zl_eq, ↓zb_eq, ↓zb2_eq, ↓zc_some, ↓zc_none, ↓zb_pre, ↓zb2_pre, ↓zc_pre, ↓zex_eq, ↓reduceIte, Option.isSome_some, Option.isSome_none, Option.getD_some, n32_lit, n32_eq, o1, e5] at S
    exact (Option.some.inj S).symm
  · have S := c_in h0 hi
    have obi := c_ob h0 hi
    have e0 := (c_S h0 hi).1
    simp only [f_X9_addressAt, ↓zl_eq, ↓zb_eq, ↓zb2_eq, ↓zc_some, ↓zc_none, ↓zb_pre, ↓zb2_pre, ↓zc_pre, ↓zex_eq, ↓reduceIte, Option.isSome_some, Option.isSome_none, Option.getD_some, o8, r0, o2, S, obi, e0]
theorem o_message (h : zC σ b g k gs tl tx) (hI : s_I g B V) {m w : Nat} (hm : m < s_nat g 5) (hw : w < 5) : f_X9_message σ b (n32 m) (n32 w) = some (g (242 + 5 * m + w)) := by
  obtain ⟨o8, r0, o2, pl, ad, qu, n, hs, hG⟩ := zC_open h hI
  have h0 := zC0_of hs
  obtain ⟨q5, q52⟩ := s_I_5 hI
  have r1 := hs.1.2.2.1
  have o3 := hs.1.2.2.2.2.2.2.2.2.1
  have eM : z_I σ (b + 1 + 2) 1 = n32 (s_nat g 5) := hs.2.2.1.2.2.1.1.trans q52
  have Hh := c_has hs.1 q5 eM (n32 m)
  rw [decide_eq_true (by rw [n32_toInt (by omega)]; omega)] at Hh
  have W := fun σ => c_win1 σ (lo := 0) (hi := 4) (x := n32 w) (by omega) (by omega) (by rw [n32_toInt (by omega)]; omega)
  have VL := c_value hs.1 h0.2.2.2.1.1 (m := m) (w := w) (by omega) (by omega)
  rw [h0.2.2.2.2.1.2 m w hm hw] at VL
  simp only [f_X9_message, ↓zl_eq, ↓zb_eq, ↓zb2_eq, ↓zc_some, ↓zc_none, ↓zb_pre, ↓zb2_pre, ↓zc_pre, ↓zex_eq, ↓reduceIte, Option.isSome_some, Option.isSome_none, Option.getD_some, n32_lit, W, bt0', o8, r0, o2, r1, o3, Hh, VL]
theorem o_logged (h : zC σ b g k gs tl tx) (hI : s_I g B V) : f_X9_logged σ b = some (g 7) := by
  obtain ⟨o8, r0, o2, pl, ad, qu, n, hs, hG⟩ := zC_open h hI
  have h0 := zC0_of hs
  obtain ⟨_, _, _, _, _, _, _, mv, hmv, h9, h7⟩ := s_I_num hI
  have LL := c_logLength h0 (by omega) h9 h7
  simp only [f_X9_logged, ↓zl_eq, ↓zb_eq, ↓zb2_eq, ↓zc_some, ↓zc_none, ↓zb_pre, ↓zb2_pre, ↓zc_pre, ↓zex_eq, ↓reduceIte, Option.isSome_some, Option.isSome_none, Option.getD_some, o8, r0, o2, LL]
theorem o_visit (h : zC σ b g k gs tl tx) (hI : s_I g B V) {i w : Nat} (hi : i < s_nat g 7) (hw : w < 4) : f_X9_visit σ b (n32 i) (n32 w) = some (g (782 + 4 * i + w)) := by
  obtain ⟨o8, r0, o2, pl, ad, qu, n, hs, hG⟩ := zC_open h hI
  have h0 := zC0_of hs
  obtain ⟨_, _, _, _, _, _, _, mv, hmv, h9, h7⟩ := s_I_num hI
  have n7 : s_nat g 7 = min mv 40 := s_nat_n32 h7 (by omega)
  rw [n7] at hi
  have LL := c_logLength h0 (by omega) h9 h7
  rw [h7] at LL
  have WI := c_winm σ (x := n32 i) (show min mv 40 < 2147483648 by omega)
  rw [decide_eq_true (by rw [n32_toInt (by omega)]; omega)] at WI
  have W := fun σ => c_win1 σ (lo := 0) (hi := 3) (x := n32 w) (by omega) (by omega) (by rw [n32_toInt (by omega)]; omega)
  have S := c_logValue h0 hG hmv h9 h7 hi hw
  simp only [f_X9_visit, ↓zl_eq, ↓zb_eq, ↓zb2_eq, ↓zc_some, ↓zc_none, ↓zb_pre, ↓zb2_pre, ↓zc_pre, ↓zex_eq, ↓reduceIte, Option.isSome_some, Option.isSome_none, Option.getD_some, n32_lit, W, bt0', o8, r0, o2, LL, WI, S]
theorem o_great (h : zC σ b g k gs tl tx) (hI : s_I g B V) : f_X9_greatestRotation σ b = some (g 8) := by
  obtain ⟨o8, r0, o2, pl, ad, qu, n, hs, hG⟩ := zC_open h hI
  have h0 := zC0_of hs
  have hC := h0.2.2.2.2.2.2.1
  have r3 := hs.1.2.2.2.2.1
  have o3 := hs.1.2.2.2.2.2.2.2.2.2.2.2.2.2.2.2.2.2.2.2.2.2.1
  simp only [f_X9_greatestRotation, ↓zl_eq, ↓zb_eq, ↓zb2_eq, ↓zc_some, ↓zc_none, ↓zb_pre, ↓zb2_pre, ↓zc_pre, ↓zex_eq, ↓reduceIte, Option.isSome_some, Option.isSome_none, Option.getD_some, o8, r0, o2, r3, o3, hC.2.1]
theorem o_waits (h : zC σ b g k gs tl tx) (hI : s_I g B V) (w : Bool) : f_X9_waits σ b (bi w) = some (s_wm g w) := by
  obtain ⟨o8, r0, o2, pl, ad, qu, n, hs, hG⟩ := zC_open h hI
  have h0 := zC0_of hs
  obtain ⟨q1, q2, q3, q4⟩ := h0.2.2.2.2.2.2.1
  have e1 : z_I σ (b + 1 + 8) 1 = g 10 := q1 1 (by decide)
  have r3 := hs.1.2.2.2.2.1
  have o3 := hs.1.2.2.2.2.2.2.2.2.2.2.2.2.2.2.2.2.2.2.2.2.2.1
  unfold s_wm
  by_cases hz : g 10 = n32 0
  · rw [if_pos hz]
    simp only [f_X9_waits, ↓zl_eq, ↓zb_eq, ↓zb2_eq, ↓zc_some, ↓zc_none, ↓zb_pre, ↓zb2_pre, ↓zc_pre, ↓zex_eq, ↓reduceIte, Option.isSome_some, Option.isSome_none, Option.getD_some, n32_lit, o8, r0, o2, r3, o3, e1, hz]
  · rw [if_neg hz]
    cases w with
    | true =>
      simp only [f_X9_waits, f_X9_waits_40, ↓zl_eq, ↓zb_eq, ↓zb2_eq, ↓zc_some, ↓zc_none, ↓zb_pre, ↓zb2_pre, ↓zc_pre, ↓zex_eq, ↓reduceIte, Option.isSome_some, Option.isSome_none, Option.getD_some, n32_lit, o8, r0, o2, r3, o3, e1, if_neg hz, bt0', q3]
    | false =>
      rw [if_neg (by decide)]
      simp only [f_X9_waits, f_X9_waits_40, ↓zl_eq, ↓zb_eq, ↓zb2_eq, ↓zc_some, ↓zc_none, ↓zb_pre, ↓zb2_pre, ↓zc_pre, ↓zex_eq, ↓reduceIte, Option.isSome_some, Option.isSome_none, Option.getD_some, n32_lit, o8, r0, o2, r3, o3, e1, if_neg hz, bf0', q4, n_divL _ hz]
theorem o_use (h : zC σ b g k gs tl tx) (hI : s_I g B V) : f_X9_use σ b = some (s_us g) := by
  obtain ⟨o8, r0, o2, pl, ad, qu, n, hs, hG⟩ := zC_open h hI
  have h0 := zC0_of hs
  obtain ⟨q1, q2, q3, q4⟩ := h0.2.2.2.2.2.2.1
  have e6 : z_I σ (b + 1 + 8) 6 = g 15 := q1 6 (by decide)
  have e9 := (c_L h0).2.2.2.2.1
  have r3 := hs.1.2.2.2.2.1
  have o3 := hs.1.2.2.2.2.2.2.2.2.2.2.2.2.2.2.2.2.2.2.2.2.2.1
  unfold s_us
  by_cases hz : g 3 = n32 0
  · rw [if_pos hz]
    simp only [f_X9_use, f_X9_use_34, ↓zl_eq, ↓zb_eq, ↓zb2_eq, ↓zc_some, ↓zc_none, ↓zb_pre, ↓zb2_pre, ↓zc_pre, ↓zex_eq, ↓reduceIte, Option.isSome_some, Option.isSome_none, Option.getD_some, n32_lit, o8, r0, o2, e9, hz]
  · rw [if_neg hz]
    simp only [f_X9_use, f_X9_use_34, ↓zl_eq, ↓zb_eq, ↓zb2_eq, ↓zc_some, ↓zc_none, ↓zb_pre, ↓zb2_pre, ↓zc_pre, ↓zex_eq, ↓reduceIte, Option.isSome_some, Option.isSome_none, Option.getD_some, n32_lit, o8, r0, o2, r3, o3, e6, e9, if_neg hz, n_divI _ hz]
theorem o_digest (h : zC σ b g k gs tl tx) (hI : s_I g B V) : ∃ qu : Nat → Nat → Nat, (∀ x, x < 32 → s_is g x = true → s_qok g x (qu x)) ∧ f_X9_digest σ b = some (31 * s_hall g qu (31 * 3169 + (n32 tl).toInt64) + (n32 k).toInt64) := by
  obtain ⟨o8, r0, o2, pl, ad, qu, n, hs, hG⟩ := zC_open h hI
  have h0 := zC0_of hs
  obtain ⟨h5, h52⟩ := s_I_5 hI
  obtain ⟨_, _, _, _, _, _, _, mv, hmv, h9, h7⟩ := s_I_num hI
  have HH := c_hashed hs hG h5 h52 hmv h9 h7
  have r2 : z_R σ b 2 = some (b + 39) := h.1.2.2.2.1
  have e4 := h.2.2.2.2.1
  obtain ⟨hl, hsv, hr⟩ := h.2.2.2.1
  have oh : z_ob σ (b + 39) 1 = true := hsv.1.1
  have ek : z_I σ (b + 39) 1 = n32 k := hsv.2.1
  refine ⟨qu, ?_, ?_⟩
  · intro x hx his
    obtain ⟨_, _, _, _, _, qa, _, qq⟩ := h0.2.2
    have hz : g (18 + 7 * x + 0) = n32 1 := of_decide_eq_true his
    rcases qa.2.2.2 x hx with z | ⟨_, i, hi, rfl⟩
    · rw [z] at hz; exact absurd hz nn01
    · exact (qq i hi).2.2.2
  · simp only [f_X9_digest, f_X9_mixed, ↓zl_eq, ↓zb_eq, ↓zb2_eq, ↓zc_some, ↓zc_none, ↓zb_pre, ↓zb2_pre, ↓zc_pre, ↓zex_eq, ↓reduceIte, Option.isSome_some, Option.isSome_none, Option.getD_some, o8, e4, r0, o2, HH, r2, oh, ek]
end OBJ
