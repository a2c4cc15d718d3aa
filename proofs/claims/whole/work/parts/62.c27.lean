section CLASS
variable {σ : zSt} {hs a k : Nat} {hl : Nat → Nat} {gs : Nat → zG} {g : zG}
/-- what a save leaves alone: all but the history's two cells and its lines -/
def zHo (σ σ' : zSt) (hs : Nat) (hl : Nat → Nat) : Prop := z_nx σ' = z_nx σ ∧ z_sh σ' = z_sh σ ∧ (∀ q, q ≠ hs + 1 → z_R σ' q = z_R σ q) ∧ ∀ q, q ≠ hs → (∀ i, i < 4 → q < hl i ∨ hl i + 19 ≤ q) → z_I σ' q = z_I σ q ∧ z_J σ' q = z_J σ q
theorem c_save3 (h : zSv σ hs hl k gs) (hk : k < 4) (hA : zLn σ a g) (hN : s_num g) (hd : ∀ i, i < 4 → hl i + 19 ≤ a ∨ a + 19 ≤ hl i) :
    ∃ σ', f_X1_save σ hs a = some σ' ∧ zSv σ' hs hl (k + 1) (fun i => if i = k then g else gs i) ∧ zHo σ σ' hs hl := by
  obtain ⟨σ', E, S, n1, n2, n3, n4⟩ := c_save16 h hk hA hN hd
  obtain ⟨⟨h1, h2, h3, h4, h5⟩, hk1, _⟩ := h
  refine ⟨σ', ?_, S, n1, n2, fun q _ => by rw [n3], n4⟩
  simp (disch := omega) only [f_X1_save, ↓zl_eq, ↓zb_eq, ↓zb2_eq, ↓zc_some, ↓zc_none, ↓zb_pre, ↓zb2_pre, ↓zc_pre, ↓zex_eq, ↓reduceIte, Option.isSome_some, Option.isSome_none, Option.getD_some, h1, h2, h3, h4, hk1, ofN_n32, n32_lt, if_pos hk, E]
theorem c_save4 (h : zSv σ hs hl 4 gs) (hA : zLn σ a g) (hN : s_num g) (hd : ∀ i, i < 4 → hl i + 19 ≤ a ∨ a + 19 ≤ hl i) (hh : hs + 2 ≤ a ∨ a + 19 ≤ hs) :
    ∃ σ', f_X1_save σ hs a = some σ' ∧ zSv σ' hs (s_hl hl) 4 (fun i => if i = 3 then g else gs (i + 1)) ∧ zHo σ σ' hs hl := by
  have hR := c_rot4 h
  have hD := c_dropOldest h.1
  have hA2 : zLn (s_rot4 σ hs hl) a g := zLn_far (σ := σ) rfl rfl rfl (fun q _ _ => s_rot4_R q (by omega)) (fun q _ _ => ⟨s_rot4_I q (by omega), rfl⟩) hA
  have hd2 : ∀ i, i < 4 → s_hl hl i + 19 ≤ a ∨ a + 19 ≤ s_hl hl i := fun i hi => by
    obtain ⟨j, hj, e, _⟩ := s_hl_lt i hl hi
    rw [e]; exact hd j hj
  obtain ⟨σ', E, S, n1, n2, n3, n4⟩ := c_save16 hR (by omega) hA2 hN hd2
  obtain ⟨⟨h1, h2, h3, h4, h5⟩, hk1, _⟩ := h
  refine ⟨σ', ?_, S, n1, n2, fun q hq => by rw [n3]; exact s_rot4_R q hq, fun q hq hq2 => ?_⟩
  · simp (disch := omega) only [f_X1_save, ↓zl_eq, ↓zb_eq, ↓zb2_eq, ↓zc_some, ↓zc_none, ↓zb_pre, ↓zb2_pre, ↓zc_pre, ↓zex_eq, ↓reduceIte, Option.isSome_some, Option.isSome_none, Option.getD_some, h1, h2, h3, h4, hk1, ofN_n32, n32_lt, hD, E]
    rw [if_neg (by omega)]
  · have := n4 q hq (fun i hi => by
      obtain ⟨j, hj, e, _⟩ := s_hl_lt i hl hi
      rw [e]; exact hq2 j hj)
    exact ⟨this.1.trans (s_rot4_I q hq), this.2⟩
/-- the latest state comes back -/
theorem c_restore (h : zSv σ hs hl (k + 1) gs) (hA : zBl σ a) (hd : ∀ i, i < 4 → hl i + 19 ≤ a ∨ a + 19 ≤ hl i) (hh : hs + 2 ≤ a ∨ a + 19 ≤ hs) :
    ∃ σ', f_X1_restore σ hs a = some σ' ∧ zSv σ' hs hl k gs ∧ zLn σ' a (gs k) ∧ z_nx σ' = z_nx σ ∧ z_sh σ' = z_sh σ ∧ z_R σ' = z_R σ ∧ ∀ q, q ≠ hs → (q < a ∨ a + 19 ≤ q) → z_I σ' q = z_I σ q ∧ z_J σ' q = z_J σ q := by
  have hk4 : k + 1 ≤ 4 := h.2.2.1
  have hS := c_stateAt h.1 (i := k) (by omega)
  have hLk := h.2.2.2.1 k (by omega)
  obtain ⟨σ1, E, F, L⟩ := zLn_copy hA hLk.1 (by have := hd k (by omega); omega) hLk.2
  have H1 := zSv_fr F h hd hh
  have e1 : z_I σ1 hs 1 = n32 (k + 1) := H1.2.1
  have q2 : ∀ q, q ≠ hs → z_I (z_pI σ1 hs 1 (n32 k)) q = z_I σ1 q := fun q hq => by rw [z_pI_eq]; exact z_I_sAn _ _ _ hq
  obtain ⟨⟨h1, h2, h3, h4, h5⟩, hk1, _, hg, hb, hp⟩ := H1
  have m1 : n32 (k + 1) - n32 1 = n32 k := n32_sub (by omega)
  refine ⟨z_pI σ1 hs 1 (n32 k), ?_, ⟨⟨h1, h2, h3, h4, h5⟩, ?_, by omega, ?_, ?_, hp⟩, ?_, F.1, F.2.1, F.2.2.1, ?_⟩
  · have hk0 := h.2.1
    have h10 := h.1.1
    simp only [f_X1_restore, f_X1_restore_30, ↓zl_eq, ↓zb_eq, ↓zb2_eq, ↓zc_some, ↓zc_none, ↓zb_pre, ↓zb2_pre, ↓zc_pre, ↓zex_eq, ↓reduceIte, Option.isSome_some, Option.isSome_none, Option.getD_some, n32_lit, h10, hk0, m1, hS, hA.1.1, E, h1, e1]
  · rw [z_pI_eq, z_I_sA, gu_same]
  · intro i hi
    have hx := (hb i (by omega)).2
    exact ⟨zLn_far (σ := σ1) rfl rfl rfl (fun _ _ _ => rfl) (fun q _ _ => ⟨q2 q (by omega), rfl⟩) (hg i (by omega)).1, (hg i (by omega)).2⟩
  · intro i hi
    have hx := (hb i hi).2
    exact ⟨zBl_far (σ := σ1) rfl rfl rfl (fun _ _ _ => rfl) (fun q _ _ => q2 q (by omega)) (hb i hi).1, hx⟩
  · exact zLn_far (σ := σ1) rfl rfl rfl (fun _ _ _ => rfl) (fun q _ _ => ⟨q2 q (by omega), rfl⟩) L
  · intro q hq hq2
    exact ⟨(q2 q hq).trans (F.2.2.2 q hq2).1, (F.2.2.2 q hq2).2⟩
end CLASS
