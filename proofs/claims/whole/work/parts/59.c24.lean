/-- a blank line does not hang on other cells -/
theorem zBl_far {σ σ' : zSt} {a : Nat} (hob : z_ob σ' = z_ob σ) (har : z_ar σ' = z_ar σ) (hln : z_ln σ' = z_ln σ) (hR : ∀ q, a ≤ q → q < a + 19 → z_R σ' q = z_R σ q) (hI : ∀ q, a ≤ q → q < a + 19 → z_I σ' q = z_I σ q) (h : zBl σ a) : zBl σ' a := by
  obtain ⟨h1, ⟨pl, h2⟩, h3⟩ := h
  have RR : ∀ k, k < 19 → z_R σ' (a + k) = z_R σ (a + k) := fun k hk => hR _ (by omega) (by omega)
  have R0 : z_R σ' a = z_R σ a := hR _ (by omega) (by omega)
  refine ⟨?_, ⟨pl, ?_⟩, ?_⟩
  · unfold zLs
    rw [hob, har, hln, R0, RR 2 (by omega), RR 3 (by omega), RR 5 (by omega), RR 9 (by omega)]
    exact h1
  · unfold zPl
    rw [hob, RR 1 (by omega)]
    exact h2
  · unfold qW; rw [hI _ (by omega) (by omega), hI _ (by omega) (by omega)]; exact h3
theorem zLn_fr {σ σ' : zSt} {a c : Nat} {g : zG} (F : zFr c σ σ') (hd : a + 19 ≤ c ∨ c + 19 ≤ a) (h : zLn σ a g) : zLn σ' a g :=
  zLn_far (z_ob_eq F.2.1) (z_ar_eq F.2.1) (z_ln_eq F.2.1) (fun q _ _ => by rw [F.2.2.1]) (fun q _ _ => F.2.2.2 q (by omega)) h
theorem zBl_fr {σ σ' : zSt} {a c : Nat} (F : zFr c σ σ') (hd : a + 19 ≤ c ∨ c + 19 ≤ a) (h : zBl σ a) : zBl σ' a :=
  zBl_far (z_ob_eq F.2.1) (z_ar_eq F.2.1) (z_ln_eq F.2.1) (fun q _ _ => by rw [F.2.2.1]) (fun q _ _ => (F.2.2.2 q (by omega)).1) h
