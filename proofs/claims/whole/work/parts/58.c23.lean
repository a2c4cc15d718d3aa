/-! THE WHOLE OF THE CLASS AND OF THE REFERENCE: the rows of saved states -/
/-- a line that is copied onto: its shape and widths alone -/
def zBl (σ : zSt) (a : Nat) : Prop := zLs σ a ∧ (∃ pl, zPl σ a pl) ∧ qW σ a
/-- a line that is an array -/
def zLn (σ : zSt) (a : Nat) (g : zG) : Prop := ∃ pl ad qu n, zLs σ a ∧ zPl σ a pl ∧ zRep σ a pl ad qu n g ∧ qG σ a g
theorem zLn_bl {σ : zSt} {a : Nat} {g : zG} (h : zLn σ a g) : zBl σ a := by
  obtain ⟨pl, ad, qu, n, h1, h2, h3, h4⟩ := h
  exact ⟨h1, ⟨pl, h2⟩, h3.2.1⟩
/-- a line is copied: in these words -/
theorem zLn_copy {σ : zSt} {a c : Nat} {g : zG} (hA : zBl σ a) (hC : zLn σ c g) (hd : a + 19 ≤ c ∨ c + 19 ≤ a) (hN : s_num g) : ∃ σ', f_X2_copyFrom σ a c = some σ' ∧ zFr a σ σ' ∧ zLn σ' a g := by
  obtain ⟨hL, ⟨pa, hP⟩, hW⟩ := hA
  obtain ⟨pc, ad, qu, n, h1, h2, h3, h4⟩ := hC
  obtain ⟨σ', E, F, R, G⟩ := c_copy hL hP hW h1 h2 hd h3 h4 hN
  exact ⟨σ', E, F, pa, ad, qu, n, zLs_fr F hL, zPl_fr F hP, R, G⟩
/-- what a line is does not hang on other cells -/
theorem zLn_far {σ σ' : zSt} {a : Nat} {g : zG} (hob : z_ob σ' = z_ob σ) (har : z_ar σ' = z_ar σ) (hln : z_ln σ' = z_ln σ) (hR : ∀ q, a ≤ q → q < a + 19 → z_R σ' q = z_R σ q) (hI : ∀ q, a ≤ q → q < a + 19 → z_I σ' q = z_I σ q ∧ z_J σ' q = z_J σ q) (h : zLn σ a g) : zLn σ' a g := by
  obtain ⟨pl, ad, qu, n, h1, h2, h3, h4⟩ := h
  have I : ∀ k, k < 19 → z_I σ' (a + k) = z_I σ (a + k) := fun k hk => (hI _ (by omega) (by omega)).1
  have I0 : z_I σ' a = z_I σ a := (hI _ (by omega) (by omega)).1
  have RR : ∀ k, k < 19 → z_R σ' (a + k) = z_R σ (a + k) := fun k hk => hR _ (by omega) (by omega)
  have R0 : z_R σ' a = z_R σ a := hR _ (by omega) (by omega)
  obtain ⟨rL, rW, rM, rN, rC, rA, rS, rQ⟩ := h3
  have hp : ∀ i, i < n → z_I σ' (pl i) = z_I σ (pl i) := fun i hi => by
    have := (h2.1 i (by have := rA.1; omega)).2.2
    exact (hI _ (by omega) (by omega)).1
  refine ⟨pl, ad, qu, n, ?_, ?_, ⟨?_, ?_, qM_congr (I 2 (by omega)) (I 4 (by omega)) (sMs_r g) rM, qN_congr (I 5 (by omega)) (I 6 (by omega)) (I 7 (by omega)) rfl (fun _ _ => rfl) rN, qC_congr (I 8 (by omega)) (by rw [(hI (a + 8) (by omega) (by omega)).2]) (fun _ _ _ => rfl) (sMs_r g) rC, rA, ?_, qQ_congr (I 4 (by omega)) (fun i hi => by rw [hp i hi]; exact ⟨rfl, rfl⟩) (sMs_r g) rQ⟩, qG_congr (I 10 (by omega)) rfl rfl (fun _ _ => rfl) h4⟩
  · unfold zLs
    rw [hob, har, hln, R0, RR 2 (by omega), RR 3 (by omega), RR 5 (by omega), RR 9 (by omega)]
    exact h1
  · unfold zPl
    rw [hob, RR 1 (by omega)]
    exact h2
  · unfold qL; rw [I0]; exact rL
  · unfold qW; rw [I 3 (by omega), I 9 (by omega)]; exact rW
  · intro i hi; rw [hp i hi]; exact rS i hi
