/-! TEXT, UNDO, AND CALLS WITHOUT EXCEPTIONS -/
theorem nar_byte : ∀ c, c < 128 → vp_nar .byte (n32 c).toInt8.toInt32 = n32 c := by decide +kernel
section TOP
variable {σ : zSt} {b k tl : Nat} {g g' : zG} {gs : Nat → zG} {tx : Nat → Int32} {B V : Nat}
/-- only the text has changed -/
theorem zC_text {σ1 : zSt} {tl' : Nat} {tx' : Nat → Int32} (h : zC σ b g k gs tl tx) (hs : z_sh σ1 = z_sh σ) (hR : z_R σ1 = z_R σ) (hJ : z_J σ1 = z_J σ) (hI : ∀ q, q ≠ b → q ≠ b + 117 → z_I σ1 q = z_I σ q) (h4 : z_I σ1 b 4 = n32 tl') (ht : ∀ j, j < tl' → z_I σ1 (b + 117) j = tx' j) : zC σ1 b g k gs tl' tx' := by
  obtain ⟨⟨t1, t2, t3, t4, t5, t6, t7⟩, hl, hb, ⟨hl', hsv, hr⟩, _, _⟩ := h
  have E : zEq (b + 1) (b + 117) σ σ1 := fun q a1 a2 => ⟨by rw [hs], hI q (by omega) (by omega), by rw [hJ], by rw [hR]⟩
  exact ⟨⟨by rw [z_ob_eq hs]; exact t1, by rw [hR]; exact t2, by rw [hR]; exact t3, by rw [hR]; exact t4, by rw [hR]; exact t5, by rw [z_ar_eq hs]; exact t6, by rw [z_ln_eq hs]; exact t7⟩, zLn_reg (zEq_s E (by omega) (by omega)) hl, zBl_reg (zEq_s E (by omega) (by omega)) hb, ⟨hl', zSv_reg (zEq_s E (by omega) (by omega)) (fun i hi => zEq_s E (by have := hr i hi; omega) (by have := hr i hi; omega)) hsv, hr⟩, h4, ht⟩
theorem zC_k4 (h : zC σ b g k gs tl tx) : z_I σ (b + 39) 1 = n32 k ∧ k ≤ 4 := by
  obtain ⟨hl, hsv, _⟩ := h.2.2.2.1
  exact ⟨hsv.2.1, hsv.2.2.1⟩
end TOP
