/-! THE LAW'S CASES -/
section LAW
variable {σ : zSt} {b k tl : Nat} {g : zG} {gs : Nat → zG} {tx : Nat → Int32} {B V : Nat} {xs : Nat → Int32} {L : Nat} {l4 : Int32}
theorem L_160 (h : zW σ b g k gs tl tx B V) (hB : B = 1740000) (hV : V ≤ 1000000) (i1 : z_ix (l4 + (1 : Int32)) L = true) : ∃ σ2 g' k' gs' tl' tx', f_L_law_160 xs L σ b (b + 118) (b + 123) l4 = some (.inl (σ2, l4 + (4 : Int32))) ∧ zW σ2 b g' k' gs' tl' tx' B (V + 300) := by
  obtain ⟨r, v, g', k', gs', tl', tx', ⟨σ1, E1, C1, Q1, O1, J1⟩, HM, hI, hgs, hk, ht, htx⟩ := p_addStation h hB hV (xs (l4 + (1 : Int32)).toNatClampNeg)
  have M1 := zM_reg Q1 h.2.1
  obtain ⟨σ2, E2', M2, F2, T2⟩ := HM σ1 M1
  have E2 : f_X10_addStation σ1 (b + 118) (xs (l4 + (1 : Int32)).toNatClampNeg) = some (v, σ2) := E2'
  have W := zW_fin C1 O1 M2 F2 hI hgs hk ht htx
  refine ⟨σ2, g', k', gs', tl', tx', ?_, W.1⟩
  unfold f_L_law_160
  rw [if_pos i1, E1, zb2_eq, if_pos i1, if_pos (zM_ob M1), E2, zb2_eq, L_fin (zM_ob M2) T2 W.2.1 (fun h0 => by rw [W.2.2]; exact J1 h0)]
  rfl
theorem L_307 (h : zW σ b g k gs tl tx B V) (hB : B = 1740000) (hV : V ≤ 1000000) (i1 : z_ix (l4 + (1 : Int32)) L = true) (i2 : z_ix (l4 + (2 : Int32)) L = true) (i3 : z_ix (l4 + (3 : Int32)) L = true) : ∃ σ2 g' k' gs' tl' tx', f_L_law_307 xs L σ b (b + 118) (b + 123) l4 = some (.inl (σ2, l4 + (4 : Int32))) ∧ zW σ2 b g' k' gs' tl' tx' B (V + 300) := by
  obtain ⟨r, v, g', k', gs', tl', tx', ⟨σ1, E1, C1, Q1, O1, J1⟩, HM, hI, hgs, hk, ht, htx⟩ := p_setTimes h hB hV (xs (l4 + (1 : Int32)).toNatClampNeg) (xs (l4 + (2 : Int32)).toNatClampNeg) (xs (l4 + (3 : Int32)).toNatClampNeg)
  have M1 := zM_reg Q1 h.2.1
  obtain ⟨σ2, E2', M2, F2, T2⟩ := HM σ1 M1
  have E2 : f_X10_setTimes σ1 (b + 118) (xs (l4 + (1 : Int32)).toNatClampNeg) (xs (l4 + (2 : Int32)).toNatClampNeg) (xs (l4 + (3 : Int32)).toNatClampNeg) = some (v, σ2) := E2'
  have W := zW_fin C1 O1 M2 F2 hI hgs hk ht htx
  refine ⟨σ2, g', k', gs', tl', tx', ?_, W.1⟩
  unfold f_L_law_307
  rw [if_pos i1, if_pos i2, if_pos i3, E1, zb2_eq, if_pos i1, if_pos i2, if_pos i3, if_pos (zM_ob M1), E2, zb2_eq, L_fin (zM_ob M2) T2 W.2.1 (fun h0 => by rw [W.2.2]; exact J1 h0)]
  rfl
theorem L_387 (h : zW σ b g k gs tl tx B V) (hB : B = 1740000) (hV : V ≤ 1000000) (i1 : z_ix (l4 + (1 : Int32)) L = true) (i2 : z_ix (l4 + (2 : Int32)) L = true) (i3 : z_ix (l4 + (3 : Int32)) L = true) : ∃ σ2 g' k' gs' tl' tx', f_L_law_387 xs L σ b (b + 118) (b + 123) l4 = some (.inl (σ2, l4 + (4 : Int32))) ∧ zW σ2 b g' k' gs' tl' tx' B (V + 300) := by
  obtain ⟨r, v, g', k', gs', tl', tx', ⟨σ1, E1, C1, Q1, O1, J1⟩, HM, hI, hgs, hk, ht, htx⟩ := p_give h hB hV (xs (l4 + (1 : Int32)).toNatClampNeg) (xs (l4 + (2 : Int32)).toNatClampNeg) (xs (l4 + (3 : Int32)).toNatClampNeg)
  have M1 := zM_reg Q1 h.2.1
  obtain ⟨σ2, E2', M2, F2, T2⟩ := HM σ1 M1
  have E2 : f_X10_give σ1 (b + 118) (xs (l4 + (1 : Int32)).toNatClampNeg) (xs (l4 + (2 : Int32)).toNatClampNeg) (xs (l4 + (3 : Int32)).toNatClampNeg) = some (v, σ2) := E2'
  have W := zW_fin C1 O1 M2 F2 hI hgs hk ht htx
  refine ⟨σ2, g', k', gs', tl', tx', ?_, W.1⟩
  unfold f_L_law_387
  rw [if_pos i1, if_pos i2, if_pos i3, E1, zb2_eq, if_pos i1, if_pos i2, if_pos i3, if_pos (zM_ob M1), E2, zb2_eq, L_fin (zM_ob M2) T2 W.2.1 (fun h0 => by rw [W.2.2]; exact J1 h0)]
  rfl
theorem L_467 (h : zW σ b g k gs tl tx B V) (hB : B = 1740000) (hV : V ≤ 1000000) (i1 : z_ix (l4 + (1 : Int32)) L = true) (i2 : z_ix (l4 + (2 : Int32)) L = true) : ∃ σ2 g' k' gs' tl' tx', f_L_law_467 xs L σ b (b + 118) (b + 123) l4 = some (.inl (σ2, l4 + (4 : Int32))) ∧ zW σ2 b g' k' gs' tl' tx' B (V + 300) := by
  obtain ⟨r, v, g', k', gs', tl', tx', ⟨σ1, E1, C1, Q1, O1, J1⟩, HM, hI, hgs, hk, ht, htx⟩ := p_addNoise h hB hV (xs (l4 + (1 : Int32)).toNatClampNeg) (xs (l4 + (2 : Int32)).toNatClampNeg)
  have M1 := zM_reg Q1 h.2.1
  obtain ⟨σ2, E2', M2, F2, T2⟩ := HM σ1 M1
  have E2 : f_X10_addNoise σ1 (b + 118) (xs (l4 + (1 : Int32)).toNatClampNeg) (xs (l4 + (2 : Int32)).toNatClampNeg) = some (v, σ2) := E2'
  have W := zW_fin C1 O1 M2 F2 hI hgs hk ht htx
  refine ⟨σ2, g', k', gs', tl', tx', ?_, W.1⟩
  unfold f_L_law_467
  rw [if_pos i1, if_pos i2, E1, zb2_eq, if_pos i1, if_pos i2, if_pos (zM_ob M1), E2, zb2_eq, L_fin (zM_ob M2) T2 W.2.1 (fun h0 => by rw [W.2.2]; exact J1 h0)]
  rfl
theorem L_535 (h : zW σ b g k gs tl tx B V) (hB : B = 1740000) (hV : V ≤ 1000000) (i1 : z_ix (l4 + (1 : Int32)) L = true) : ∃ σ2 g' k' gs' tl' tx', f_L_law_535 xs L σ b (b + 118) (b + 123) l4 = some (.inl (σ2, l4 + (4 : Int32))) ∧ zW σ2 b g' k' gs' tl' tx' B (V + 300) := by
  obtain ⟨r, v, g', k', gs', tl', tx', ⟨σ1, E1, C1, Q1, O1, J1⟩, HM, hI, hgs, hk, ht, htx⟩ := p_run h hB hV (xs (l4 + (1 : Int32)).toNatClampNeg)
  have M1 := zM_reg Q1 h.2.1
  obtain ⟨σ2, E2', M2, F2, T2⟩ := HM σ1 M1
  have E2 : f_X10_run σ1 (b + 118) (xs (l4 + (1 : Int32)).toNatClampNeg) = some (v, σ2) := E2'
  have W := zW_fin C1 O1 M2 F2 hI hgs hk ht htx
  refine ⟨σ2, g', k', gs', tl', tx', ?_, W.1⟩
  unfold f_L_law_535
  rw [if_pos i1, E1, zb2_eq, if_pos i1, if_pos (zM_ob M1), E2, zb2_eq, L_fin (zM_ob M2) T2 W.2.1 (fun h0 => by rw [W.2.2]; exact J1 h0)]
  rfl
theorem L_604 (h : zW σ b g k gs tl tx B V) (hB : B = 1740000) (hV : V ≤ 1000000) (i1 : z_ix (l4 + (1 : Int32)) L = true) : ∃ σ2 g' k' gs' tl' tx', f_L_law_604 xs L σ b (b + 118) (b + 123) l4 = some (.inl (σ2, l4 + (4 : Int32))) ∧ zW σ2 b g' k' gs' tl' tx' B (V + 300) := by
  obtain ⟨r, v, g', k', gs', tl', tx', ⟨σ1, E1, C1, Q1, O1, J1⟩, HM, hI, hgs, hk, ht, htx⟩ := p_setting h hB hV (xs (l4 + (1 : Int32)).toNatClampNeg)
  have M1 := zM_reg Q1 h.2.1
  obtain ⟨σ2, E2', M2, F2, T2⟩ := HM σ1 M1
  have E2 : f_X10_setting σ1 (b + 118) (xs (l4 + (1 : Int32)).toNatClampNeg) = some (v, σ2) := E2'
  have W := zW_fin C1 O1 M2 F2 hI hgs hk ht htx
  refine ⟨σ2, g', k', gs', tl', tx', ?_, W.1⟩
  unfold f_L_law_604
  rw [if_pos i1, E1, zb2_eq, if_pos i1, if_pos (zM_ob M1), E2, zb2_eq, L_fin (zM_ob M2) T2 W.2.1 (fun h0 => by rw [W.2.2]; exact J1 h0)]
  rfl
theorem L_660 (h : zW σ b g k gs tl tx B V) (hB : B = 1740000) (hV : V ≤ 1000000) (i1 : z_ix (l4 + (1 : Int32)) L = true) (i2 : z_ix (l4 + (2 : Int32)) L = true) : ∃ σ2 g' k' gs' tl' tx', f_L_law_660 xs L σ b (b + 118) (b + 123) l4 = some (.inl (σ2, l4 + (4 : Int32))) ∧ zW σ2 b g' k' gs' tl' tx' B (V + 300) := by
  obtain ⟨r, v, g', k', gs', tl', tx', ⟨σ1, E1, C1, Q1, O1, J1⟩, HM, hI, hgs, hk, ht, htx⟩ := p_station h hB hV (xs (l4 + (1 : Int32)).toNatClampNeg) (xs (l4 + (2 : Int32)).toNatClampNeg)
  have M1 := zM_reg Q1 h.2.1
  obtain ⟨σ2, E2', M2, F2, T2⟩ := HM σ1 M1
  have E2 : f_X10_station σ1 (b + 118) (xs (l4 + (1 : Int32)).toNatClampNeg) (xs (l4 + (2 : Int32)).toNatClampNeg) = some (v, σ2) := E2'
  have W := zW_fin C1 O1 M2 F2 hI hgs hk ht htx
  refine ⟨σ2, g', k', gs', tl', tx', ?_, W.1⟩
  unfold f_L_law_660
  rw [if_pos i1, if_pos i2, E1, zb2_eq, if_pos i1, if_pos i2, if_pos (zM_ob M1), E2, zb2_eq, L_fin (zM_ob M2) T2 W.2.1 (fun h0 => by rw [W.2.2]; exact J1 h0)]
  rfl
theorem L_728 (h : zW σ b g k gs tl tx B V) (hB : B = 1740000) (hV : V ≤ 1000000) (i1 : z_ix (l4 + (1 : Int32)) L = true) : ∃ σ2 g' k' gs' tl' tx', f_L_law_728 xs L σ b (b + 118) (b + 123) l4 = some (.inl (σ2, l4 + (4 : Int32))) ∧ zW σ2 b g' k' gs' tl' tx' B (V + 300) := by
  obtain ⟨r, v, g', k', gs', tl', tx', ⟨σ1, E1, C1, Q1, O1, J1⟩, HM, hI, hgs, hk, ht, htx⟩ := p_addressAt h hB hV (xs (l4 + (1 : Int32)).toNatClampNeg)
  have M1 := zM_reg Q1 h.2.1
  obtain ⟨σ2, E2', M2, F2, T2⟩ := HM σ1 M1
  have E2 : f_X10_addressAt σ1 (b + 118) (xs (l4 + (1 : Int32)).toNatClampNeg) = some (v, σ2) := E2'
  have W := zW_fin C1 O1 M2 F2 hI hgs hk ht htx
  refine ⟨σ2, g', k', gs', tl', tx', ?_, W.1⟩
  unfold f_L_law_728
  rw [if_pos i1, E1, zb2_eq, if_pos i1, if_pos (zM_ob M1), E2, zb2_eq, L_fin (zM_ob M2) T2 W.2.1 (fun h0 => by rw [W.2.2]; exact J1 h0)]
  rfl
theorem L_784 (h : zW σ b g k gs tl tx B V) (hB : B = 1740000) (hV : V ≤ 1000000) (i1 : z_ix (l4 + (1 : Int32)) L = true) (i2 : z_ix (l4 + (2 : Int32)) L = true) : ∃ σ2 g' k' gs' tl' tx', f_L_law_784 xs L σ b (b + 118) (b + 123) l4 = some (.inl (σ2, l4 + (4 : Int32))) ∧ zW σ2 b g' k' gs' tl' tx' B (V + 300) := by
  obtain ⟨r, v, g', k', gs', tl', tx', ⟨σ1, E1, C1, Q1, O1, J1⟩, HM, hI, hgs, hk, ht, htx⟩ := p_queued h hB hV (xs (l4 + (1 : Int32)).toNatClampNeg) (xs (l4 + (2 : Int32)).toNatClampNeg)
  have M1 := zM_reg Q1 h.2.1
  obtain ⟨σ2, E2', M2, F2, T2⟩ := HM σ1 M1
  have E2 : f_X10_queued σ1 (b + 118) (xs (l4 + (1 : Int32)).toNatClampNeg) (xs (l4 + (2 : Int32)).toNatClampNeg) = some (v, σ2) := E2'
  have W := zW_fin C1 O1 M2 F2 hI hgs hk ht htx
  refine ⟨σ2, g', k', gs', tl', tx', ?_, W.1⟩
  unfold f_L_law_784
  rw [if_pos i1, if_pos i2, E1, zb2_eq, if_pos i1, if_pos i2, if_pos (zM_ob M1), E2, zb2_eq, L_fin (zM_ob M2) T2 W.2.1 (fun h0 => by rw [W.2.2]; exact J1 h0)]
  rfl
theorem L_852 (h : zW σ b g k gs tl tx B V) (hB : B = 1740000) (hV : V ≤ 1000000) (i1 : z_ix (l4 + (1 : Int32)) L = true) (i2 : z_ix (l4 + (2 : Int32)) L = true) : ∃ σ2 g' k' gs' tl' tx', f_L_law_852 xs L σ b (b + 118) (b + 123) l4 = some (.inl (σ2, l4 + (4 : Int32))) ∧ zW σ2 b g' k' gs' tl' tx' B (V + 300) := by
  obtain ⟨r, v, g', k', gs', tl', tx', ⟨σ1, E1, C1, Q1, O1, J1⟩, HM, hI, hgs, hk, ht, htx⟩ := p_message h hB hV (xs (l4 + (1 : Int32)).toNatClampNeg) (xs (l4 + (2 : Int32)).toNatClampNeg)
  have M1 := zM_reg Q1 h.2.1
  obtain ⟨σ2, E2', M2, F2, T2⟩ := HM σ1 M1
  have E2 : f_X10_message σ1 (b + 118) (xs (l4 + (1 : Int32)).toNatClampNeg) (xs (l4 + (2 : Int32)).toNatClampNeg) = some (v, σ2) := E2'
  have W := zW_fin C1 O1 M2 F2 hI hgs hk ht htx
  refine ⟨σ2, g', k', gs', tl', tx', ?_, W.1⟩
  unfold f_L_law_852
  rw [if_pos i1, if_pos i2, E1, zb2_eq, if_pos i1, if_pos i2, if_pos (zM_ob M1), E2, zb2_eq, L_fin (zM_ob M2) T2 W.2.1 (fun h0 => by rw [W.2.2]; exact J1 h0)]
  rfl
theorem L_920 (h : zW σ b g k gs tl tx B V) (hB : B = 1740000) (hV : V ≤ 1000000) (i1 : z_ix (l4 + (1 : Int32)) L = true) : ∃ σ2 g' k' gs' tl' tx', f_L_law_920 xs L σ b (b + 118) (b + 123) l4 = some (.inl (σ2, l4 + (4 : Int32))) ∧ zW σ2 b g' k' gs' tl' tx' B (V + 300) := by
  obtain ⟨r, v, g', k', gs', tl', tx', ⟨σ1, E1, C1, Q1, O1, J1⟩, HM, hI, hgs, hk, ht, htx⟩ := p_count h hB hV (xs (l4 + (1 : Int32)).toNatClampNeg)
  have M1 := zM_reg Q1 h.2.1
  obtain ⟨σ2, E2', M2, F2, T2⟩ := HM σ1 M1
  have E2 : f_X10_count σ1 (b + 118) (xs (l4 + (1 : Int32)).toNatClampNeg) = some (v, σ2) := E2'
  have W := zW_fin C1 O1 M2 F2 hI hgs hk ht htx
  refine ⟨σ2, g', k', gs', tl', tx', ?_, W.1⟩
  unfold f_L_law_920
  rw [if_pos i1, E1, zb2_eq, if_pos i1, if_pos (zM_ob M1), E2, zb2_eq, L_fin (zM_ob M2) T2 W.2.1 (fun h0 => by rw [W.2.2]; exact J1 h0)]
  rfl
theorem L_1052 (h : zW σ b g k gs tl tx B V) (hB : B = 1740000) (hV : V ≤ 1000000) (i1 : z_ix (l4 + (1 : Int32)) L = true) (i2 : z_ix (l4 + (2 : Int32)) L = true) : ∃ σ2 g' k' gs' tl' tx', f_L_law_1052 xs L σ b (b + 118) (b + 123) l4 = some (.inl (σ2, l4 + (4 : Int32))) ∧ zW σ2 b g' k' gs' tl' tx' B (V + 300) := by
  obtain ⟨r, v, g', k', gs', tl', tx', ⟨σ1, E1, C1, Q1, O1, J1⟩, HM, hI, hgs, hk, ht, htx⟩ := p_visit h hB hV (xs (l4 + (1 : Int32)).toNatClampNeg) (xs (l4 + (2 : Int32)).toNatClampNeg)
  have M1 := zM_reg Q1 h.2.1
  obtain ⟨σ2, E2', M2, F2, T2⟩ := HM σ1 M1
  have E2 : f_X10_visit σ1 (b + 118) (xs (l4 + (1 : Int32)).toNatClampNeg) (xs (l4 + (2 : Int32)).toNatClampNeg) = some (v, σ2) := E2'
  have W := zW_fin C1 O1 M2 F2 hI hgs hk ht htx
  refine ⟨σ2, g', k', gs', tl', tx', ?_, W.1⟩
  unfold f_L_law_1052
  rw [if_pos i1, if_pos i2, E1, zb2_eq, if_pos i1, if_pos i2, if_pos (zM_ob M1), E2, zb2_eq, L_fin (zM_ob M2) T2 W.2.1 (fun h0 => by rw [W.2.2]; exact J1 h0)]
  rfl
theorem L_1243 (h : zW σ b g k gs tl tx B V) (hB : B = 1740000) (hV : V ≤ 1000000) (i1 : z_ix (l4 + (1 : Int32)) L = true) : ∃ σ2 g' k' gs' tl' tx', f_L_law_1243 xs L σ b (b + 118) (b + 123) l4 = some (.inl (σ2, l4 + (4 : Int32))) ∧ zW σ2 b g' k' gs' tl' tx' B (V + 300) := by
  obtain ⟨r, v, g', k', gs', tl', tx', ⟨σ1, E1, C1, Q1, O1, J1⟩, HM, hI, hgs, hk, ht, htx⟩ := p_waitOf h hB hV (xs (l4 + (1 : Int32)).toNatClampNeg)
  have M1 := zM_reg Q1 h.2.1
  obtain ⟨σ2, E2', M2, F2, T2⟩ := HM σ1 M1
  have E2 : f_X10_waitOf σ1 (b + 118) (xs (l4 + (1 : Int32)).toNatClampNeg) = some (v, σ2) := E2'
  have W := zW_fin C1 O1 M2 F2 hI hgs hk ht htx
  refine ⟨σ2, g', k', gs', tl', tx', ?_, W.1⟩
  unfold f_L_law_1243
  rw [if_pos i1, E1, zb2_eq, if_pos i1, if_pos (zM_ob M1), E2, zb2_eq, L_fin (zM_ob M2) T2 W.2.1 (fun h0 => by rw [W.2.2]; exact J1 h0)]
  rfl
theorem L_1299 (h : zW σ b g k gs tl tx B V) (hB : B = 1740000) (hV : V ≤ 1000000) : ∃ σ2 g' k' gs' tl' tx', f_L_law_1299 xs L σ b (b + 118) (b + 123) l4 = some (.inl (σ2, l4 + (4 : Int32))) ∧ zW σ2 b g' k' gs' tl' tx' B (V + 300) := by
  obtain ⟨r, v, g', k', gs', tl', tx', ⟨σ1, E1, C1, Q1, O1, J1⟩, HM, hI, hgs, hk, ht, htx⟩ := p_completeAfter h hB hV
  have M1 := zM_reg Q1 h.2.1
  obtain ⟨σ2, E2', M2, F2, T2⟩ := HM σ1 M1
  have E2 : f_X10_completeAfter σ1 (b + 118) = some (v, σ2) := E2'
  have W := zW_fin C1 O1 M2 F2 hI hgs hk ht htx
  refine ⟨σ2, g', k', gs', tl', tx', ?_, W.1⟩
  unfold f_L_law_1299
  rw [E1, zb2_eq, if_pos (zM_ob M1), E2, zb2_eq, L_fin (zM_ob M2) T2 W.2.1 (fun h0 => by rw [W.2.2]; exact J1 h0)]
  rfl
theorem L_1343 (h : zW σ b g k gs tl tx B V) (hB : B = 1740000) (hV : V ≤ 1000000) (i1 : z_ix (l4 + (1 : Int32)) L = true) : ∃ σ2 g' k' gs' tl' tx', f_L_law_1343 xs L σ b (b + 118) (b + 123) l4 = some (.inl (σ2, l4 + (4 : Int32))) ∧ zW σ2 b g' k' gs' tl' tx' B (V + 300) := by
  obtain ⟨r, v, g', k', gs', tl', tx', ⟨σ1, E1, C1, Q1, O1, J1⟩, HM, hI, hgs, hk, ht, htx⟩ := p_leastTarget h hB hV (xs (l4 + (1 : Int32)).toNatClampNeg)
  have M1 := zM_reg Q1 h.2.1
  obtain ⟨σ2, E2', M2, F2, T2⟩ := HM σ1 M1
  have E2 : f_X10_leastTarget σ1 (b + 118) (xs (l4 + (1 : Int32)).toNatClampNeg) = some (v, σ2) := E2'
  have W := zW_fin C1 O1 M2 F2 hI hgs hk ht htx
  refine ⟨σ2, g', k', gs', tl', tx', ?_, W.1⟩
  unfold f_L_law_1343
  rw [if_pos i1, E1, zb2_eq, if_pos i1, if_pos (zM_ob M1), E2, zb2_eq, L_fin (zM_ob M2) T2 W.2.1 (fun h0 => by rw [W.2.2]; exact J1 h0)]
  rfl
theorem L_1399 (h : zW σ b g k gs tl tx B V) (hB : B = 1740000) (hV : V ≤ 1000000) (i1 : z_ix (l4 + (1 : Int32)) L = true) : ∃ σ2 g' k' gs' tl' tx', f_L_law_1399 xs L σ b (b + 118) (b + 123) l4 = some (.inl (σ2, l4 + (4 : Int32))) ∧ zW σ2 b g' k' gs' tl' tx' B (V + 300) := by
  obtain ⟨r, v, g', k', gs', tl', tx', ⟨σ1, E1, C1, Q1, O1, J1⟩, HM, hI, hgs, hk, ht, htx⟩ := p_append h hB hV (xs (l4 + (1 : Int32)).toNatClampNeg)
  have M1 := zM_reg Q1 h.2.1
  obtain ⟨σ2, E2', M2, F2, T2⟩ := HM σ1 M1
  have E2 : f_X10_append σ1 (b + 118) (xs (l4 + (1 : Int32)).toNatClampNeg) = some (v, σ2) := E2'
  have W := zW_fin C1 O1 M2 F2 hI hgs hk ht htx
  refine ⟨σ2, g', k', gs', tl', tx', ?_, W.1⟩
  unfold f_L_law_1399
  rw [if_pos i1, E1, zb2_eq, if_pos i1, if_pos (zM_ob M1), E2, zb2_eq, L_fin (zM_ob M2) T2 W.2.1 (fun h0 => by rw [W.2.2]; exact J1 h0)]
  rfl
theorem L_1481 (h : zW σ b g k gs tl tx B V) (hB : B = 1740000) (hV : V ≤ 1000000) : ∃ σ2 g' k' gs' tl' tx', f_L_law_1481 xs L σ b (b + 118) (b + 123) l4 = some (.inl (σ2, l4 + (4 : Int32))) ∧ zW σ2 b g' k' gs' tl' tx' B (V + 300) := by
  obtain ⟨r, v, g', k', gs', tl', tx', ⟨σ1, E1, C1, Q1, O1, J1⟩, HM, hI, hgs, hk, ht, htx⟩ := p_undo h hB hV
  have M1 := zM_reg Q1 h.2.1
  obtain ⟨σ2, E2', M2, F2, T2⟩ := HM σ1 M1
  have E2 : f_X10_undo σ1 (b + 118) = some (v, σ2) := E2'
  have W := zW_fin C1 O1 M2 F2 hI hgs hk ht htx
  refine ⟨σ2, g', k', gs', tl', tx', ?_, W.1⟩
  unfold f_L_law_1481
  rw [E1, zb2_eq, if_pos (zM_ob M1), E2, zb2_eq, L_fin (zM_ob M2) T2 W.2.1 (fun h0 => by rw [W.2.2]; exact J1 h0)]
  rfl
end LAW
