/-! READING THE TEXT: as a function of its bytes -/
def s_dg (tb : Nat → Nat) (tl p : Nat) : Option Nat := if p < tl ∧ 48 ≤ tb p ∧ tb p ≤ 57 then some (tb p - 48) else none
/-- a number and the place behind it; or none and the place of the error -/
def s_num2 (tb : Nat → Nat) (tl p : Nat) : Option Nat × Nat :=
  match s_dg tb tl p with
  | none => (none, p)
  | some d => match s_dg tb tl (p + 1) with
    | none => (some d, p + 1)
    | some e => match s_dg tb tl (p + 2) with
      | none => (some (10 * d + e), p + 2)
      | some _ => (none, p + 2)
def s_byte (tb : Nat → Nat) (tl p c : Nat) : Bool := decide (p < tl) && decide (tb p = c)
def s_item (tb : Nat → Nat) (tl : Nat) (g : zG) (p : Nat) (lt : Option Nat) : Nat ⊕ (zG × Nat × Option Nat) :=
  if s_byte tb tl p 115 = true ∧ s_cnt (s_is g) 32 < 8 then
    match s_num2 tb tl (p + 1) with
    | (none, e) => .inl e
    | (some x, q) => if 32 ≤ x ∨ s_is g x = true then .inl (p + 1) else if s_byte tb tl q 59 = true then .inr (s_adds g x, q + 1, some x) else .inl q
  else if s_byte tb tl p 109 = true then
    match lt with
    | none => .inl p
    | some x => match s_num2 tb tl (p + 1) with
      | (none, e) => .inl e
      | (some l, q) => if ¬ (1 ≤ l ∧ l ≤ 20) then .inl (p + 1) else if s_byte tb tl q 44 = true then
          match s_dg tb tl (q + 1) with
          | none => .inl (q + 1)
          | some u => if s_byte tb tl (q + 2) 59 = true then .inr (s_gives g (s_nat g 5) (n32 x) (n32 l) (n32 u), q + 3, some x) else .inl (q + 2)
        else .inl q
  else .inl p
theorem s_dg_lt {tb : Nat → Nat} {tl p d : Nat} (h : s_dg tb tl p = some d) : p < tl ∧ d < 10 ∧ tb p = d + 48 := by
  unfold s_dg at h
  by_cases hc : p < tl ∧ 48 ≤ tb p ∧ tb p ≤ 57
  · rw [if_pos hc] at h
    have := Option.some.inj h
    exact ⟨hc.1, by omega, by omega⟩
  · rw [if_neg hc] at h; cases h
theorem s_num2_lt {tb : Nat → Nat} {tl p v q : Nat} (h : s_num2 tb tl p = (some v, q)) : p < q ∧ q ≤ p + 2 ∧ q ≤ tl ∧ v < 100 := by
  unfold s_num2 at h
  cases h0 : s_dg tb tl p with
  | none => rw [h0] at h; simp at h
  | some d =>
    rw [h0] at h
    have d0 := s_dg_lt h0
    cases h1 : s_dg tb tl (p + 1) with
    | none =>
      rw [h1] at h
      simp only [Prod.mk.injEq, Option.some.injEq] at h
      omega
    | some e =>
      rw [h1] at h
      have d1 := s_dg_lt h1
      cases h2 : s_dg tb tl (p + 2) with
      | none =>
        rw [h2] at h
        simp only [Prod.mk.injEq, Option.some.injEq] at h
        omega
      | some f => rw [h2] at h; simp at h
theorem s_byte_lt {tb : Nat → Nat} {tl p c : Nat} (h : s_byte tb tl p c = true) : p < tl ∧ tb p = c := by
  unfold s_byte at h
  simpa using h
theorem gu_gu (g : zG) (k : Nat) (v w : Int32) : gu (gu g k v) k w = gu g k w := by
  funext j; unfold gu; by_cases h : j = k <;> simp [h]
/-! the class's reader -/
def zRb (σ : zSt) (b r tl : Nat) (tb : Nat → Nat) : Prop := z_ob σ r 5 = true ∧ z_R σ r 0 = some (b + 117) ∧ z_R σ r 2 = some (b + 20) ∧ z_ar σ (b + 117) 1 = true ∧ z_ln σ (b + 117) = 120 ∧ (∀ j, j < tl → z_I σ (b + 117) j = n32 (tb j)) ∧ b + 124 ≤ r ∧ tl ≤ 120 ∧ ∀ j, j < tl → tb j < 128
def s_dv (o : Option Nat) : Int32 := match o with
  | some d => n32 d
  | none => nn
section CLASS
variable {σ : zSt} {b r tl : Nat} {tb : Nat → Nat} {F : zG} {p : Nat}
theorem c_sign (h : zRb σ b r tl tb) (f1 : F 1 = n32 tl) (f3 : F 3 = n32 p) (hp : p < 1000) : f_X5_sign (z_sA σ r F) r = some (if p < tl then n32 (tb p) else nn) := by
  obtain ⟨o, r0, _, a1, l1, ht, hr, h120, _⟩ := h
  have i1 : z_I (z_sA σ r F) (b + 117) = z_I σ (b + 117) := z_I_sAn _ _ _ (by omega)
  simp (disch := omega) only [f_X5_sign, f_X5_sign_42, f_X5_sign_43, ↓zl_eq, ↓zb_eq, ↓zb2_eq, ↓zc_some, ↓zc_none, ↓zb_pre, ↓zb2_pre, ↓zc_pre, ↓zex_eq, ↓reduceIte, Option.isSome_some, Option.isSome_none, Option.getD_some, n32_lit, n32_nn2, z_ob_sA, z_R_sA, z_ar_sA, z_ln_sA, z_I_sA, o, r0, a1, l1, f1, f3, n32_lt, n32_le, ofN_n32, i1, Nat.not_lt_zero]
  by_cases hc : p < tl
  · rw [if_neg (by omega), if_neg (by omega), if_pos (n32_ix (by omega) (by omega)), if_pos hc, n32_toNat (by omega), ht p hc]
  · rw [if_pos (by omega), if_neg hc]
theorem c_digit (h : zRb σ b r tl tb) (f1 : F 1 = n32 tl) (f3 : F 3 = n32 p) (hp : p < 1000) : f_X5_digit (z_sA σ r F) r = some (s_dv (s_dg tb tl p)) := by
  have S := c_sign h f1 f3 hp
  have hb := h.2.2.2.2.2.2.2.2
  have o : z_ob (z_sA σ r F) r 5 = true := h.1
  unfold s_dg
  by_cases hc : p < tl
  · rw [if_pos hc] at S
    have := hb p hc
    simp (disch := omega) only [f_X5_digit, f_X5_digit_24, f_X5_digit_25, ↓zl_eq, ↓zb_eq, ↓zb2_eq, ↓zc_some, ↓zc_none, ↓zb_pre, ↓zb2_pre, ↓zc_pre, ↓zex_eq, ↓reduceIte, Option.isSome_some, Option.isSome_none, Option.getD_some, n32_lit, n32_nn2, o, S, n32_lt]
    by_cases c1 : tb p < 48
    · rw [if_pos c1, if_neg (by omega)]; rfl
    · rw [if_neg c1]
      by_cases c2 : 57 < tb p
      · rw [if_pos c2, if_neg (by omega)]; rfl
      · rw [if_neg c2, if_pos (by omega), n32_sub (by omega)]; rfl
  · rw [if_neg hc] at S
    rw [if_neg (by omega)]
    have c1 : nn < n32 48 := by decide
    simp only [f_X5_digit, f_X5_digit_24, f_X5_digit_25, ↓zl_eq, ↓zb_eq, ↓zb2_eq, ↓zc_some, ↓zc_none, ↓zb_pre, ↓zb2_pre, ↓zc_pre, ↓zex_eq, ↓reduceIte, Option.isSome_some, Option.isSome_none, Option.getD_some, n32_lit, n32_nn2, o, S, c1]
    rfl
theorem s_dv_nn (o : Option Nat) (h : ∀ d, o = some d → d < 10) : (s_dv o = nn) = (o = none) := by
  cases o with
  | none => simp [s_dv]
  | some d =>
    have := h d rfl
    show (n32 d = nn) = _
    rw [n32_ne (by omega)]
    simp
theorem c_readNumber (h : zRb σ b r tl tb) (f1 : F 1 = n32 tl) (f3 : F 3 = n32 p) (hp : p < 900) :
    (∀ v q, s_num2 tb tl p = (some v, q) → f_X5_readNumber (z_sA σ r F) r = some (n32 v, z_sA σ r (gu F 3 (n32 q)))) ∧
    (∀ e, s_num2 tb tl p = (none, e) → ∃ F', f_X5_readNumber (z_sA σ r F) r = some (nn, z_sA σ r F') ∧ F' 5 = n32 e) := by
  have o := h.1
  have D0 := c_digit h f1 f3 (by omega)
  have D1 := c_digit (F := gu F 3 (n32 (p + 1))) (p := p + 1) h (by rw [gu_ne _ _ (by omega)]; exact f1) (gu_same _ _ _) (by omega)
  have D2 := c_digit (F := gu F 3 (n32 (p + 2))) (p := p + 2) h (by rw [gu_ne _ _ (by omega)]; exact f1) (gu_same _ _ _) (by omega)
  have n0 := s_dv_nn (s_dg tb tl p) (fun d hd => (s_dg_lt hd).2.1)
  have n1 := s_dv_nn (s_dg tb tl (p + 1)) (fun d hd => (s_dg_lt hd).2.1)
  have n2 := s_dv_nn (s_dg tb tl (p + 2)) (fun d hd => (s_dg_lt hd).2.1)
  have fa : ∀ G (x : Int32), f_X5_failsAt (z_sA σ r G) r x = some (n32 0, z_sA σ r (gu G 5 x)) := fun G x => by
    simp only [f_X5_failsAt, ↓zl_eq, ↓zb_eq, ↓zb2_eq, ↓zc_some, ↓zc_none, ↓zb_pre, ↓zb2_pre, ↓zc_pre, ↓zex_eq, ↓reduceIte, Option.isSome_some, Option.isSome_none, Option.getD_some, n32_lit, z_ob_sA, o, z_pI_eq, z_I_sA, z_sA_sA]
  have g31 : gu F 3 (n32 (p + 1)) 3 = n32 (p + 1) := gu_same _ _ _
  have g32 : gu F 3 (n32 (p + 2)) 3 = n32 (p + 2) := gu_same _ _ _
  have ea : n32 (p + 1) + n32 1 = n32 (p + 2) := n32_add _ _
  unfold s_num2
  cases h0 : s_dg tb tl p with
  | none =>
    rw [h0] at D0 n0
    refine ⟨fun v q hv => by simp at hv, fun e he => ⟨gu F 5 (n32 p), ?_, ?_⟩⟩
    · simp only [f_X5_readNumber, ↓zl_eq, ↓zb_eq, ↓zb2_eq, ↓zc_some, ↓zc_none, ↓zb_pre, ↓zb2_pre, ↓zc_pre, ↓zex_eq, ↓reduceIte, Option.isSome_some, Option.isSome_none, Option.getD_some, n32_lit, n32_nn2, z_ob_sA, o, D0, n0, z_I_sA, f3, fa]
    · simp only [Prod.mk.injEq, true_and] at he
      rw [gu_same, he]
  | some d =>
    rw [h0] at D0 n0
    have n0' : (s_dv (some d) = nn) = False := by rw [n0]; simp
    cases h1 : s_dg tb tl (p + 1) with
    | none =>
      rw [h1] at D1 n1
      refine ⟨fun v q hv => ?_, fun e he => by simp at he⟩
      simp only [Prod.mk.injEq, Option.some.injEq] at hv
      rw [← hv.1, ← hv.2]
      simp only [f_X5_readNumber, ↓zl_eq, ↓zb_eq, ↓zb2_eq, ↓zc_some, ↓zc_none, ↓zb_pre, ↓zb2_pre, ↓zc_pre, ↓zex_eq, ↓reduceIte, Option.isSome_some, Option.isSome_none, Option.getD_some, n32_lit, n32_nn2, z_ob_sA, o, D0, n0', z_I_sA, f3, n32_add, z_pI_eq, z_sA_sA, D1, n1]
      rfl
    | some e1 =>
      rw [h1] at D1 n1
      have n1' : (s_dv (some e1) = nn) = False := by rw [n1]; simp
      cases h2 : s_dg tb tl (p + 2) with
      | none =>
        rw [h2] at D2 n2
        refine ⟨fun v q hv => ?_, fun e he => by simp at he⟩
        simp only [Prod.mk.injEq, Option.some.injEq] at hv
        rw [← hv.1, ← hv.2]
        simp only [f_X5_readNumber, ↓zl_eq, ↓zb_eq, ↓zb2_eq, ↓zc_some, ↓zc_none, ↓zb_pre, ↓zb2_pre, ↓zc_pre, ↓zex_eq, ↓reduceIte, Option.isSome_some, Option.isSome_none, Option.getD_some, n32_lit, n32_nn2, z_ob_sA, o, D0, n0', z_I_sA, f3, n32_add, z_pI_eq, z_sA_sA, D1, n1', g31, gu_gu, ea, D2, n2]
        show some (n32 10 * n32 d + n32 e1, _) = _
        rw [n32_mul, n32_add]
      | some f =>
        rw [h2] at D2 n2
        have n2' : (s_dv (some f) = nn) = False := by rw [n2]; simp
        refine ⟨fun v q hv => by simp at hv, fun e he => ⟨gu (gu F 3 (n32 (p + 2))) 5 (n32 (p + 2)), ?_, ?_⟩⟩
        · simp only [f_X5_readNumber, ↓zl_eq, ↓zb_eq, ↓zb2_eq, ↓zc_some, ↓zc_none, ↓zb_pre, ↓zb2_pre, ↓zc_pre, ↓zex_eq, ↓reduceIte, Option.isSome_some, Option.isSome_none, Option.getD_some, n32_lit, n32_nn2, z_ob_sA, o, D0, n0', z_I_sA, f3, n32_add, z_pI_eq, z_sA_sA, D1, n1', g31, gu_gu, ea, D2, n2', g32, fa]
        · simp only [Prod.mk.injEq, true_and] at he
          rw [gu_same, he]
theorem c_skips (h : zRb σ b r tl tb) (f1 : F 1 = n32 tl) (f3 : F 3 = n32 p) (hp : p < 900) {c : Nat} (hc : c < 1000) : f_X5_skips (z_sA σ r F) r (n32 c) = some (if s_byte tb tl p c = true then (n32 1, z_sA σ r (gu F 3 (n32 (p + 1)))) else (n32 0, z_sA σ r (gu F 5 (n32 p)))) := by
  have S := c_sign h f1 f3 (by omega)
  have o := h.1
  have hb := h.2.2.2.2.2.2.2.2
  unfold s_byte
  by_cases hc1 : p < tl
  · rw [if_pos hc1] at S
    have := hb p hc1
    simp (disch := omega) only [f_X5_skips, f_X5_failsAt, ↓zl_eq, ↓zb_eq, ↓zb2_eq, ↓zc_some, ↓zc_none, ↓zb_pre, ↓zb2_pre, ↓zc_pre, ↓zex_eq, ↓reduceIte, Option.isSome_some, Option.isSome_none, Option.getD_some, n32_lit, z_ob_sA, o, S, n32_eq, z_I_sA, f3, n32_add, z_pI_eq, z_sA_sA, bl0, decide_eq_true hc1, Bool.true_and, decide_eq_true_eq]
    by_cases h2 : tb p = c
    · rw [if_pos h2, if_pos h2]
    · rw [if_neg h2, if_neg h2]
  · rw [if_neg hc1] at S
    have nc : (nn = n32 c) = False := eq_false (fun he => s_nn_ne (show c < 2147483648 by omega) he.symm)
    simp (disch := omega) only [f_X5_skips, f_X5_failsAt, ↓zl_eq, ↓zb_eq, ↓zb2_eq, ↓zc_some, ↓zc_none, ↓zb_pre, ↓zb2_pre, ↓zc_pre, ↓zex_eq, ↓reduceIte, Option.isSome_some, Option.isSome_none, Option.getD_some, n32_lit, z_ob_sA, o, S, nc, z_I_sA, f3, z_pI_eq, z_sA_sA, bl0, decide_eq_false hc1, Bool.false_and, Bool.false_eq_true]
end CLASS
