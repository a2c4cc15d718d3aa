def s_hl (hl : Nat → Nat) : Nat → Nat := fun i => if i = 3 then hl 0 else hl (i + 1)
theorem s_hl_lt (i : Nat) (hl : Nat → Nat) (hi : i < 4) : ∃ j, j < 4 ∧ s_hl hl i = hl j ∧ (j = if i = 3 then 0 else i + 1) := by
  unfold s_hl
  by_cases h : i = 3
  · exact ⟨0, by omega, by rw [if_pos h], by rw [if_pos h]⟩
  · exact ⟨i + 1, by omega, by rw [if_neg h], by rw [if_neg h]⟩
section CLASS
variable {σ : zSt} {hs a k : Nat} {hl : Nat → Nat} {gs : Nat → zG} {g : zG}
theorem s_rot4_I (q : Nat) (hq : q ≠ hs) : z_I (s_rot4 σ hs hl) q = z_I σ q := by
  funext j
  unfold s_rot4
  rw [z_I_pI, if_neg (by intro h; exact hq h.1), z_I_pR, z_I_pR, z_I_pR, z_I_pR]
theorem s_rot4_R (q : Nat) (hq : q ≠ hs + 1) : z_R (s_rot4 σ hs hl) q = z_R σ q := by
  funext j
  unfold s_rot4
  rw [z_R_pI, z_R_pR, if_neg (by intro h; exact hq h.1), z_R_pR, if_neg (by intro h; exact hq h.1), z_R_pR, if_neg (by intro h; exact hq h.1), z_R_pR, if_neg (by intro h; exact hq h.1)]
theorem s_rot4_Rh (i : Nat) (hi : i < 4) : z_R (s_rot4 σ hs hl) (hs + 1) i = some (s_hl hl i) := by
  unfold s_rot4 s_hl
  rw [z_R_pI, z_R_pR, z_R_pR, z_R_pR, z_R_pR]
  rcases (show i = 0 ∨ i = 1 ∨ i = 2 ∨ i = 3 by omega) with rfl | rfl | rfl | rfl <;> simp
theorem c_rot4 (h : zSv σ hs hl 4 gs) : zSv (s_rot4 σ hs hl) hs (s_hl hl) 3 (fun i => gs (i + 1)) := by
  obtain ⟨⟨h1, h2, h3, h4, h5⟩, hk1, hk4, hg, hb, hp⟩ := h
  have ln : ∀ i (gi : zG), i < 4 → zLn σ (hl i) gi → zLn (s_rot4 σ hs hl) (hl i) gi := fun i gi hi hln => by
    have hx := (hb i hi).2
    exact zLn_far (σ := σ) rfl rfl rfl (fun q _ _ => s_rot4_R q (by omega)) (fun q _ _ => ⟨s_rot4_I q (by omega), rfl⟩) hln
  have bl : ∀ i, i < 4 → zBl (s_rot4 σ hs hl) (hl i) := fun i hi => by
    have hx := (hb i hi).2
    exact zBl_far (σ := σ) rfl rfl rfl (fun q _ _ => s_rot4_R q (by omega)) (fun q _ _ => s_rot4_I q (by omega)) (hb i hi).1
  refine ⟨⟨h1, by rw [s_rot4_R _ (by omega)]; exact h2, h3, h4, fun i hi => ⟨s_rot4_Rh i hi, ?_⟩⟩, ?_, by omega, ?_, ?_, ?_⟩
  · obtain ⟨j, hj, e, _⟩ := s_hl_lt i hl hi
    rw [e]; exact (h5 j hj).2
  · unfold s_rot4
    rw [z_I_pI, if_pos ⟨rfl, rfl⟩]
  · intro i hi
    have e : s_hl hl i = hl (i + 1) := by unfold s_hl; rw [if_neg (by omega)]
    rw [e]
    exact ⟨ln _ _ (by omega) (hg (i + 1) (by omega)).1, (hg (i + 1) (by omega)).2⟩
  · intro i hi
    obtain ⟨j, hj, e, _⟩ := s_hl_lt i hl hi
    rw [e]; exact ⟨bl j hj, (hb j hj).2⟩
  · intro i j hi hj hij
    obtain ⟨i', hi', e, ei⟩ := s_hl_lt i hl hi
    obtain ⟨j', hj', e', ej⟩ := s_hl_lt j hl hj
    rw [e, e']
    refine hp i' j' hi' hj' ?_
    rw [ei, ej]
    by_cases c1 : i = 3
    · rw [if_pos c1]
      by_cases c2 : j = 3
      · omega
      · rw [if_neg c2]; omega
    · rw [if_neg c1]
      by_cases c2 : j = 3
      · rw [if_pos c2]; omega
      · rw [if_neg c2]; omega
end CLASS
