/-- the history at hs: k saved states gs 0 .. gs (k-1), its lines at hl 0 .. hl 3, apart from each other and from the history's two cells -/
def zSv (σ : zSt) (hs : Nat) (hl : Nat → Nat) (k : Nat) (gs : Nat → zG) : Prop :=
  zHs σ hs hl ∧ z_I σ hs 1 = n32 k ∧ k ≤ 4 ∧ (∀ i, i < k → zLn σ (hl i) (gs i) ∧ s_num (gs i)) ∧ (∀ i, i < 4 → zBl σ (hl i) ∧ hs + 2 ≤ hl i) ∧ ∀ i j, i < 4 → j < 4 → i ≠ j → hl i + 19 ≤ hl j ∨ hl j + 19 ≤ hl i
section CLASS
variable {σ : zSt} {hs a k : Nat} {hl : Nat → Nat} {gs : Nat → zG} {g : zG}
/-- a change of one line far from the history leaves it -/
theorem zSv_fr {σ' : zSt} (F : zFr a σ σ') (h : zSv σ hs hl k gs) (hd : ∀ i, i < 4 → hl i + 19 ≤ a ∨ a + 19 ≤ hl i) (hh : hs + 2 ≤ a ∨ a + 19 ≤ hs) : zSv σ' hs hl k gs := by
  obtain ⟨⟨h1, h2, h3, h4, h5⟩, hk, hk4, hg, hb, hp⟩ := h
  refine ⟨⟨by rw [z_ob_eq F.2.1]; exact h1, by rw [F.2.2.1]; exact h2, by rw [z_ar_eq F.2.1]; exact h3, by rw [z_ln_eq F.2.1]; exact h4, fun i hi => by rw [F.2.2.1, z_ob_eq F.2.1]; exact h5 i hi⟩, by rw [(F.2.2.2 _ (by omega)).1]; exact hk, hk4, fun i hi => ⟨zLn_fr F (by have := hd i (by omega); omega) (hg i hi).1, (hg i hi).2⟩, fun i hi => ⟨zBl_fr F (by have := hd i hi; omega) (hb i hi).1, (hb i hi).2⟩, hp⟩
/-- the state is saved where there is room -/
theorem c_save16 (h : zSv σ hs hl k gs) (hk : k < 4) (hA : zLn σ a g) (hN : s_num g) (hd : ∀ i, i < 4 → hl i + 19 ≤ a ∨ a + 19 ≤ hl i) :
    ∃ σ', f_X1_save_16 σ hs a = some σ' ∧ zSv σ' hs hl (k + 1) (fun i => if i = k then g else gs i) ∧ z_nx σ' = z_nx σ ∧ z_sh σ' = z_sh σ ∧ z_R σ' = z_R σ ∧ ∀ q, q ≠ hs → (∀ i, i < 4 → q < hl i ∨ hl i + 19 ≤ q) → z_I σ' q = z_I σ q ∧ z_J σ' q = z_J σ q := by
  have hS := c_stateAt h.1 hk
  obtain ⟨⟨h1, h2, h3, h4, h5⟩, hk1, hk4, hg, hb, hp⟩ := h
  obtain ⟨σ1, E, F, L⟩ := zLn_copy (hb k hk).1 hA (hd k hk) hN
  have hx := (hb k hk).2
  have e1 : z_I σ1 hs 1 = n32 k := by rw [(F.2.2.2 _ (by omega)).1]; exact hk1
  have F2 : ∀ i, i < 4 → zFr hs σ1 (z_pI σ1 hs 1 (n32 (k + 1))) := fun i hi => by rw [z_pI_eq]; exact zFr_sA _ (Nat.le_refl _) (by omega) _
  have q2 : ∀ q, q ≠ hs → z_I (z_pI σ1 hs 1 (n32 (k + 1))) q = z_I σ1 q := fun q hq => by rw [z_pI_eq]; exact z_I_sAn _ _ _ hq
  have nob : z_ob (z_pI σ1 hs 1 (n32 (k + 1))) = z_ob σ1 := rfl
  have far : ∀ i (gi : zG), i < 4 → zLn σ1 (hl i) gi → zLn (z_pI σ1 hs 1 (n32 (k + 1))) (hl i) gi := fun i gi hi hln => by
    have hx2 := (hb i hi).2
    exact zLn_far (σ := σ1) rfl rfl rfl (fun _ _ _ => rfl) (fun q h1 h2 => ⟨q2 q (by omega), rfl⟩) hln
  have farb : ∀ i, i < 4 → zBl σ1 (hl i) → zBl (z_pI σ1 hs 1 (n32 (k + 1))) (hl i) := fun i hi hln => by
    have hx2 := (hb i hi).2
    exact zBl_far (σ := σ1) rfl rfl rfl (fun _ _ _ => rfl) (fun q h1 h2 => q2 q (by omega)) hln
  refine ⟨z_pI σ1 hs 1 (n32 (k + 1)), ?_, ⟨⟨?_, ?_, ?_, ?_, ?_⟩, ?_, by omega, ?_, ?_, hp⟩, F.1, F.2.1, F.2.2.1, ?_⟩
  · simp only [f_X1_save_16, f_X1_save_44, ↓zl_eq, ↓zb_eq, ↓zb2_eq, ↓zc_some, ↓zc_none, ↓zb_pre, ↓zb2_pre, ↓zc_pre, ↓zex_eq, ↓reduceIte, Option.isSome_some, Option.isSome_none, Option.getD_some, n32_lit, h1, hk1, hS, (h5 k hk).2, E, z_ob_eq F.2.1, e1, n32_add]
  · rw [nob, z_ob_eq F.2.1]; exact h1
  · show z_R σ1 hs 0 = _
    rw [F.2.2.1]; exact h2
  · show z_ar σ1 (hs + 1) 4 = true
    rw [z_ar_eq F.2.1]; exact h3
  · show z_ln σ1 (hs + 1) = 4
    rw [z_ln_eq F.2.1]; exact h4
  · intro i hi
    show z_R σ1 (hs + 1) i = _ ∧ z_ob σ1 (hl i) 2 = true
    rw [F.2.2.1, z_ob_eq F.2.1]; exact h5 i hi
  · rw [z_pI_eq, z_I_sA, gu_same]
  · intro i hi
    by_cases hik : i = k
    · subst hik
      simp only [if_true]
      exact ⟨far i g hk L, hN⟩
    · simp only [hik, if_false]
      exact ⟨far i _ (by omega) (zLn_fr F (hp i k (by omega) hk hik) (hg i (by omega)).1), (hg i (by omega)).2⟩
  · intro i hi
    by_cases hik : i = k
    · subst hik
      exact ⟨farb i hi (zLn_bl L), (hb i hi).2⟩
    · exact ⟨farb i hi (zBl_fr F (hp i k hi hk hik) (hb i hi).1), (hb i hi).2⟩
  · intro q hq hq2
    have := hq2 k hk
    exact ⟨(q2 q hq).trans (F.2.2.2 q (by omega)).1, (F.2.2.2 q (by omega)).2⟩
end CLASS
