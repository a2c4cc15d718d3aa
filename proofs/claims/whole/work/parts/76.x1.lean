/-! THE LAW'S WRAPPERS around the class's calls -/
section WRAP
variable {σ : zSt} {b k tl : Nat} {g : zG} {gs : Nat → zG} {tx : Nat → Int32}
theorem w_addStation {x0 : Int32} {v : Int32} (O : zOut σ b) (ob : z_ob σ b 8 = true) (h : zA9 σ b (f_X9_addStation σ b x0) (.inr v) g k gs tl tx) : zAC σ b (f_L_addStation σ b x0 (b + 123)) 0 v g k gs tl tx := by
  obtain ⟨σ1, E, C, Q, n⟩ := h
  have O1 := zOut_eq O Q n
  refine zAC_v O C Q n ?_
  unfold f_L_addStation
  rw [if_pos ob, E, zb2_eq, zx_r, if_pos O1.1, if_pos (zOut_ix O1)]
  rfl
theorem x_addStation0 {x0 : Int32} (v : Int32) (O : zOut σ b) (ob : z_ob σ b 8 = true) (h : zA9 σ b (f_X9_addStation σ b x0) (.inl 0) g k gs tl tx) : zAC σ b (f_L_addStation σ b x0 (b + 123)) 1 v g k gs tl tx := by
  obtain ⟨σ1, E, C, Q, n⟩ := h
  refine zAC_x O C Q n (r := (1 : Int32)) ?_ (by decide)
  unfold f_L_addStation
  rw [if_pos ob, E, zb2_eq, zx_l]
  rfl
theorem x_addStation1 {x0 : Int32} (v : Int32) (O : zOut σ b) (ob : z_ob σ b 8 = true) (h : zA9 σ b (f_X9_addStation σ b x0) (.inl 1) g k gs tl tx) : zAC σ b (f_L_addStation σ b x0 (b + 123)) 2 v g k gs tl tx := by
  obtain ⟨σ1, E, C, Q, n⟩ := h
  refine zAC_x O C Q n (r := (2 : Int32)) ?_ (by decide)
  unfold f_L_addStation
  rw [if_pos ob, E, zb2_eq, zx_l]
  rfl
theorem w_setTimes {x0 x1 x2 : Int32} {v : Int32} (O : zOut σ b) (ob : z_ob σ b 8 = true) (h : zA9 σ b (f_X9_setTimes σ b x0 x1 x2) (.inr v) g k gs tl tx) : zAC σ b (f_L_setTimes σ b x0 x1 x2 (b + 123)) 0 v g k gs tl tx := by
  obtain ⟨σ1, E, C, Q, n⟩ := h
  have O1 := zOut_eq O Q n
  refine zAC_v O C Q n ?_
  unfold f_L_setTimes
  rw [if_pos ob, E, zb2_eq, zx_r, if_pos O1.1, if_pos (zOut_ix O1)]
  rfl
theorem x_setTimes0 {x0 x1 x2 : Int32} (v : Int32) (O : zOut σ b) (ob : z_ob σ b 8 = true) (h : zA9 σ b (f_X9_setTimes σ b x0 x1 x2) (.inl 0) g k gs tl tx) : zAC σ b (f_L_setTimes σ b x0 x1 x2 (b + 123)) 1 v g k gs tl tx := by
  obtain ⟨σ1, E, C, Q, n⟩ := h
  refine zAC_x O C Q n (r := (1 : Int32)) ?_ (by decide)
  unfold f_L_setTimes
  rw [if_pos ob, E, zb2_eq, zx_l]
  rfl
theorem w_give {x0 x1 x2 : Int32} {v : Int32} (O : zOut σ b) (ob : z_ob σ b 8 = true) (h : zA9 σ b (f_X9_give σ b x0 x1 x2) (.inr v) g k gs tl tx) : zAC σ b (f_L_give σ b x0 x1 x2 (b + 123)) 0 v g k gs tl tx := by
  obtain ⟨σ1, E, C, Q, n⟩ := h
  have O1 := zOut_eq O Q n
  refine zAC_v O C Q n ?_
  unfold f_L_give
  rw [if_pos ob, E, zb2_eq, zx_r, if_pos O1.1, if_pos (zOut_ix O1)]
  rfl
theorem x_give3 {x0 x1 x2 : Int32} (v : Int32) (O : zOut σ b) (ob : z_ob σ b 8 = true) (h : zA9 σ b (f_X9_give σ b x0 x1 x2) (.inl 3) g k gs tl tx) : zAC σ b (f_L_give σ b x0 x1 x2 (b + 123)) 1 v g k gs tl tx := by
  obtain ⟨σ1, E, C, Q, n⟩ := h
  refine zAC_x O C Q n (r := (1 : Int32)) ?_ (by decide)
  unfold f_L_give
  rw [if_pos ob, E, zb2_eq, zx_l]
  rfl
theorem x_give0 {x0 x1 x2 : Int32} (v : Int32) (O : zOut σ b) (ob : z_ob σ b 8 = true) (h : zA9 σ b (f_X9_give σ b x0 x1 x2) (.inl 0) g k gs tl tx) : zAC σ b (f_L_give σ b x0 x1 x2 (b + 123)) 2 v g k gs tl tx := by
  obtain ⟨σ1, E, C, Q, n⟩ := h
  refine zAC_x O C Q n (r := (2 : Int32)) ?_ (by decide)
  unfold f_L_give
  rw [if_pos ob, E, zb2_eq, zx_l]
  rfl
theorem x_give1 {x0 x1 x2 : Int32} (v : Int32) (O : zOut σ b) (ob : z_ob σ b 8 = true) (h : zA9 σ b (f_X9_give σ b x0 x1 x2) (.inl 1) g k gs tl tx) : zAC σ b (f_L_give σ b x0 x1 x2 (b + 123)) 3 v g k gs tl tx := by
  obtain ⟨σ1, E, C, Q, n⟩ := h
  refine zAC_x O C Q n (r := (3 : Int32)) ?_ (by decide)
  unfold f_L_give
  rw [if_pos ob, E, zb2_eq, zx_l]
  rfl
theorem w_addNoise {x0 x1 : Int32} {v : Int32} (O : zOut σ b) (ob : z_ob σ b 8 = true) (h : zA9 σ b (f_X9_addNoise σ b x0 x1) (.inr v) g k gs tl tx) : zAC σ b (f_L_addNoise σ b x0 x1 (b + 123)) 0 v g k gs tl tx := by
  obtain ⟨σ1, E, C, Q, n⟩ := h
  have O1 := zOut_eq O Q n
  refine zAC_v O C Q n ?_
  unfold f_L_addNoise
  rw [if_pos ob, E, zb2_eq, zx_r, if_pos O1.1, if_pos (zOut_ix O1)]
  rfl
theorem x_addNoise0 {x0 x1 : Int32} (v : Int32) (O : zOut σ b) (ob : z_ob σ b 8 = true) (h : zA9 σ b (f_X9_addNoise σ b x0 x1) (.inl 0) g k gs tl tx) : zAC σ b (f_L_addNoise σ b x0 x1 (b + 123)) 1 v g k gs tl tx := by
  obtain ⟨σ1, E, C, Q, n⟩ := h
  refine zAC_x O C Q n (r := (1 : Int32)) ?_ (by decide)
  unfold f_L_addNoise
  rw [if_pos ob, E, zb2_eq, zx_l]
  rfl
theorem x_addNoise1 {x0 x1 : Int32} (v : Int32) (O : zOut σ b) (ob : z_ob σ b 8 = true) (h : zA9 σ b (f_X9_addNoise σ b x0 x1) (.inl 1) g k gs tl tx) : zAC σ b (f_L_addNoise σ b x0 x1 (b + 123)) 2 v g k gs tl tx := by
  obtain ⟨σ1, E, C, Q, n⟩ := h
  refine zAC_x O C Q n (r := (2 : Int32)) ?_ (by decide)
  unfold f_L_addNoise
  rw [if_pos ob, E, zb2_eq, zx_l]
  rfl
theorem w_run {x0 : Int32} {v : Int32} (O : zOut σ b) (ob : z_ob σ b 8 = true) (h : zA9 σ b (f_X9_run σ b x0) (.inr v) g k gs tl tx) : zAC σ b (f_L_run σ b x0 (b + 123)) 0 v g k gs tl tx := by
  obtain ⟨σ1, E, C, Q, n⟩ := h
  have O1 := zOut_eq O Q n
  refine zAC_v O C Q n ?_
  unfold f_L_run
  rw [if_pos ob, E, zb2_eq, zx_r, if_pos O1.1, if_pos (zOut_ix O1)]
  rfl
theorem x_run0 {x0 : Int32} (v : Int32) (O : zOut σ b) (ob : z_ob σ b 8 = true) (h : zA9 σ b (f_X9_run σ b x0) (.inl 0) g k gs tl tx) : zAC σ b (f_L_run σ b x0 (b + 123)) 1 v g k gs tl tx := by
  obtain ⟨σ1, E, C, Q, n⟩ := h
  refine zAC_x O C Q n (r := (1 : Int32)) ?_ (by decide)
  unfold f_L_run
  rw [if_pos ob, E, zb2_eq, zx_l]
  rfl
theorem x_run1 {x0 : Int32} (v : Int32) (O : zOut σ b) (ob : z_ob σ b 8 = true) (h : zA9 σ b (f_X9_run σ b x0) (.inl 1) g k gs tl tx) : zAC σ b (f_L_run σ b x0 (b + 123)) 2 v g k gs tl tx := by
  obtain ⟨σ1, E, C, Q, n⟩ := h
  refine zAC_x O C Q n (r := (2 : Int32)) ?_ (by decide)
  unfold f_L_run
  rw [if_pos ob, E, zb2_eq, zx_l]
  rfl
theorem w_setting {x0 : Int32} {v : Int32} (O : zOut σ b) (ob : z_ob σ b 8 = true) (h : zA9 σ b (f_X9_setting σ b x0) (.inr v) g k gs tl tx) : zAC σ b (f_L_setting σ b x0 (b + 123)) 0 v g k gs tl tx := by
  obtain ⟨σ1, E, C, Q, n⟩ := h
  have O1 := zOut_eq O Q n
  refine zAC_v O C Q n ?_
  unfold f_L_setting
  rw [if_pos ob, E, zb2_eq, zx_r, if_pos O1.1, if_pos (zOut_ix O1)]
  rfl
theorem x_setting0 {x0 : Int32} (v : Int32) (O : zOut σ b) (ob : z_ob σ b 8 = true) (h : zA9 σ b (f_X9_setting σ b x0) (.inl 0) g k gs tl tx) : zAC σ b (f_L_setting σ b x0 (b + 123)) 1 v g k gs tl tx := by
  obtain ⟨σ1, E, C, Q, n⟩ := h
  refine zAC_x O C Q n (r := (1 : Int32)) ?_ (by decide)
  unfold f_L_setting
  rw [if_pos ob, E, zb2_eq, zx_l]
  rfl
theorem w_station {x0 x1 : Int32} {v : Int32} (O : zOut σ b) (ob : z_ob σ b 8 = true) (h : zA9 σ b (f_X9_station σ b x0 x1) (.inr v) g k gs tl tx) : zAC σ b (f_L_station σ b x0 x1 (b + 123)) 0 v g k gs tl tx := by
  obtain ⟨σ1, E, C, Q, n⟩ := h
  have O1 := zOut_eq O Q n
  refine zAC_v O C Q n ?_
  unfold f_L_station
  rw [if_pos ob, E, zb2_eq, zx_r, if_pos O1.1, if_pos (zOut_ix O1)]
  rfl
theorem x_station3 {x0 x1 : Int32} (v : Int32) (O : zOut σ b) (ob : z_ob σ b 8 = true) (h : zA9 σ b (f_X9_station σ b x0 x1) (.inl 3) g k gs tl tx) : zAC σ b (f_L_station σ b x0 x1 (b + 123)) 1 v g k gs tl tx := by
  obtain ⟨σ1, E, C, Q, n⟩ := h
  refine zAC_x O C Q n (r := (1 : Int32)) ?_ (by decide)
  unfold f_L_station
  rw [if_pos ob, E, zb2_eq, zx_l]
  rfl
theorem x_station0 {x0 x1 : Int32} (v : Int32) (O : zOut σ b) (ob : z_ob σ b 8 = true) (h : zA9 σ b (f_X9_station σ b x0 x1) (.inl 0) g k gs tl tx) : zAC σ b (f_L_station σ b x0 x1 (b + 123)) 2 v g k gs tl tx := by
  obtain ⟨σ1, E, C, Q, n⟩ := h
  refine zAC_x O C Q n (r := (2 : Int32)) ?_ (by decide)
  unfold f_L_station
  rw [if_pos ob, E, zb2_eq, zx_l]
  rfl
theorem w_addressAt {x0 : Int32} {v : Int32} (O : zOut σ b) (ob : z_ob σ b 8 = true) (h : zA9 σ b (f_X9_addressAt σ b x0) (.inr v) g k gs tl tx) : zAC σ b (f_L_addressAt σ b x0 (b + 123)) 0 v g k gs tl tx := by
  obtain ⟨σ1, E, C, Q, n⟩ := h
  have O1 := zOut_eq O Q n
  refine zAC_v O C Q n ?_
  unfold f_L_addressAt
  rw [if_pos ob, E, zb2_eq, zx_r, if_pos O1.1, if_pos (zOut_ix O1)]
  rfl
theorem x_addressAt2 {x0 : Int32} (v : Int32) (O : zOut σ b) (ob : z_ob σ b 8 = true) (h : zA9 σ b (f_X9_addressAt σ b x0) (.inl 2) g k gs tl tx) : zAC σ b (f_L_addressAt σ b x0 (b + 123)) 1 v g k gs tl tx := by
  obtain ⟨σ1, E, C, Q, n⟩ := h
  refine zAC_x O C Q n (r := (1 : Int32)) ?_ (by decide)
  unfold f_L_addressAt
  rw [if_pos ob, E, zb2_eq, zx_l]
  rfl
theorem w_queued {x0 x1 : Int32} {v : Int32} (O : zOut σ b) (ob : z_ob σ b 8 = true) (h : zA9 σ b (f_X9_queued σ b x0 x1) (.inr v) g k gs tl tx) : zAC σ b (f_L_queued σ b x0 x1 (b + 123)) 0 v g k gs tl tx := by
  obtain ⟨σ1, E, C, Q, n⟩ := h
  have O1 := zOut_eq O Q n
  refine zAC_v O C Q n ?_
  unfold f_L_queued
  rw [if_pos ob, E, zb2_eq, zx_r, if_pos O1.1, if_pos (zOut_ix O1)]
  rfl
theorem x_queued3 {x0 x1 : Int32} (v : Int32) (O : zOut σ b) (ob : z_ob σ b 8 = true) (h : zA9 σ b (f_X9_queued σ b x0 x1) (.inl 3) g k gs tl tx) : zAC σ b (f_L_queued σ b x0 x1 (b + 123)) 1 v g k gs tl tx := by
  obtain ⟨σ1, E, C, Q, n⟩ := h
  refine zAC_x O C Q n (r := (1 : Int32)) ?_ (by decide)
  unfold f_L_queued
  rw [if_pos ob, E, zb2_eq, zx_l]
  rfl
theorem x_queued2 {x0 x1 : Int32} (v : Int32) (O : zOut σ b) (ob : z_ob σ b 8 = true) (h : zA9 σ b (f_X9_queued σ b x0 x1) (.inl 2) g k gs tl tx) : zAC σ b (f_L_queued σ b x0 x1 (b + 123)) 2 v g k gs tl tx := by
  obtain ⟨σ1, E, C, Q, n⟩ := h
  refine zAC_x O C Q n (r := (2 : Int32)) ?_ (by decide)
  unfold f_L_queued
  rw [if_pos ob, E, zb2_eq, zx_l]
  rfl
theorem w_message {x0 x1 : Int32} {v : Int32} (O : zOut σ b) (ob : z_ob σ b 8 = true) (h : zA9 σ b (f_X9_message σ b x0 x1) (.inr v) g k gs tl tx) : zAC σ b (f_L_message σ b x0 x1 (b + 123)) 0 v g k gs tl tx := by
  obtain ⟨σ1, E, C, Q, n⟩ := h
  have O1 := zOut_eq O Q n
  refine zAC_v O C Q n ?_
  unfold f_L_message
  rw [if_pos ob, E, zb2_eq, zx_r, if_pos O1.1, if_pos (zOut_ix O1)]
  rfl
theorem x_message2 {x0 x1 : Int32} (v : Int32) (O : zOut σ b) (ob : z_ob σ b 8 = true) (h : zA9 σ b (f_X9_message σ b x0 x1) (.inl 2) g k gs tl tx) : zAC σ b (f_L_message σ b x0 x1 (b + 123)) 1 v g k gs tl tx := by
  obtain ⟨σ1, E, C, Q, n⟩ := h
  refine zAC_x O C Q n (r := (1 : Int32)) ?_ (by decide)
  unfold f_L_message
  rw [if_pos ob, E, zb2_eq, zx_l]
  rfl
theorem x_message0 {x0 x1 : Int32} (v : Int32) (O : zOut σ b) (ob : z_ob σ b 8 = true) (h : zA9 σ b (f_X9_message σ b x0 x1) (.inl 0) g k gs tl tx) : zAC σ b (f_L_message σ b x0 x1 (b + 123)) 2 v g k gs tl tx := by
  obtain ⟨σ1, E, C, Q, n⟩ := h
  refine zAC_x O C Q n (r := (2 : Int32)) ?_ (by decide)
  unfold f_L_message
  rw [if_pos ob, E, zb2_eq, zx_l]
  rfl
theorem w_count {x0 : Int32} {v : Int32} (O : zOut σ b) (ob : z_ob σ b 8 = true) (h : zA9 σ b (f_X9_count σ b x0) (.inr v) g k gs tl tx) : zAC σ b (f_L_count σ b x0 (b + 123)) 0 v g k gs tl tx := by
  obtain ⟨σ1, E, C, Q, n⟩ := h
  have O1 := zOut_eq O Q n
  refine zAC_v O C Q n ?_
  unfold f_L_count
  rw [if_pos ob, E, zb2_eq, zx_r, if_pos O1.1, if_pos (zOut_ix O1)]
  rfl
theorem x_count0 {x0 : Int32} (v : Int32) (O : zOut σ b) (ob : z_ob σ b 8 = true) (h : zA9 σ b (f_X9_count σ b x0) (.inl 0) g k gs tl tx) : zAC σ b (f_L_count σ b x0 (b + 123)) 1 v g k gs tl tx := by
  obtain ⟨σ1, E, C, Q, n⟩ := h
  refine zAC_x O C Q n (r := (1 : Int32)) ?_ (by decide)
  unfold f_L_count
  rw [if_pos ob, E, zb2_eq, zx_l]
  rfl
theorem w_visit {x0 x1 : Int32} {v : Int32} (O : zOut σ b) (ob : z_ob σ b 8 = true) (h : zA9 σ b (f_X9_visit σ b x0 x1) (.inr v) g k gs tl tx) : zAC σ b (f_L_visit σ b x0 x1 (b + 123)) 0 v g k gs tl tx := by
  obtain ⟨σ1, E, C, Q, n⟩ := h
  have O1 := zOut_eq O Q n
  refine zAC_v O C Q n ?_
  unfold f_L_visit
  rw [if_pos ob, E, zb2_eq, zx_r, if_pos O1.1, if_pos (zOut_ix O1)]
  rfl
theorem x_visit2 {x0 x1 : Int32} (v : Int32) (O : zOut σ b) (ob : z_ob σ b 8 = true) (h : zA9 σ b (f_X9_visit σ b x0 x1) (.inl 2) g k gs tl tx) : zAC σ b (f_L_visit σ b x0 x1 (b + 123)) 1 v g k gs tl tx := by
  obtain ⟨σ1, E, C, Q, n⟩ := h
  refine zAC_x O C Q n (r := (1 : Int32)) ?_ (by decide)
  unfold f_L_visit
  rw [if_pos ob, E, zb2_eq, zx_l]
  rfl
theorem x_visit0 {x0 x1 : Int32} (v : Int32) (O : zOut σ b) (ob : z_ob σ b 8 = true) (h : zA9 σ b (f_X9_visit σ b x0 x1) (.inl 0) g k gs tl tx) : zAC σ b (f_L_visit σ b x0 x1 (b + 123)) 2 v g k gs tl tx := by
  obtain ⟨σ1, E, C, Q, n⟩ := h
  refine zAC_x O C Q n (r := (2 : Int32)) ?_ (by decide)
  unfold f_L_visit
  rw [if_pos ob, E, zb2_eq, zx_l]
  rfl
theorem w_waitOf {x0 : Int32} {v : Int32} (O : zOut σ b) (ob : z_ob σ b 8 = true) (h : zA9 σ b (f_X9_waitOf σ b x0) (.inr v) g k gs tl tx) : zAC σ b (f_L_waitOf σ b x0 (b + 123)) 0 v g k gs tl tx := by
  obtain ⟨σ1, E, C, Q, n⟩ := h
  have O1 := zOut_eq O Q n
  refine zAC_v O C Q n ?_
  unfold f_L_waitOf
  rw [if_pos ob, E, zb2_eq, zx_r, if_pos O1.1, if_pos (zOut_ix O1)]
  rfl
theorem x_waitOf2 {x0 : Int32} (v : Int32) (O : zOut σ b) (ob : z_ob σ b 8 = true) (h : zA9 σ b (f_X9_waitOf σ b x0) (.inl 2) g k gs tl tx) : zAC σ b (f_L_waitOf σ b x0 (b + 123)) 1 v g k gs tl tx := by
  obtain ⟨σ1, E, C, Q, n⟩ := h
  refine zAC_x O C Q n (r := (1 : Int32)) ?_ (by decide)
  unfold f_L_waitOf
  rw [if_pos ob, E, zb2_eq, zx_l]
  rfl
theorem x_waitOf1 {x0 : Int32} (v : Int32) (O : zOut σ b) (ob : z_ob σ b 8 = true) (h : zA9 σ b (f_X9_waitOf σ b x0) (.inl 1) g k gs tl tx) : zAC σ b (f_L_waitOf σ b x0 (b + 123)) 2 v g k gs tl tx := by
  obtain ⟨σ1, E, C, Q, n⟩ := h
  refine zAC_x O C Q n (r := (2 : Int32)) ?_ (by decide)
  unfold f_L_waitOf
  rw [if_pos ob, E, zb2_eq, zx_l]
  rfl
theorem w_completeAfter {v : Int32} (O : zOut σ b) (ob : z_ob σ b 8 = true) (h : zA9 σ b (f_X9_completeAfter σ b) (.inr v) g k gs tl tx) : zAC σ b (f_L_completeAfter σ b (b + 123)) 0 v g k gs tl tx := by
  obtain ⟨σ1, E, C, Q, n⟩ := h
  have O1 := zOut_eq O Q n
  refine zAC_v O C Q n ?_
  unfold f_L_completeAfter
  rw [if_pos ob, E, zb2_eq, zx_r, if_pos O1.1, if_pos (zOut_ix O1)]
  rfl
theorem x_completeAfter1 (v : Int32) (O : zOut σ b) (ob : z_ob σ b 8 = true) (h : zA9 σ b (f_X9_completeAfter σ b) (.inl 1) g k gs tl tx) : zAC σ b (f_L_completeAfter σ b (b + 123)) 1 v g k gs tl tx := by
  obtain ⟨σ1, E, C, Q, n⟩ := h
  refine zAC_x O C Q n (r := (1 : Int32)) ?_ (by decide)
  unfold f_L_completeAfter
  rw [if_pos ob, E, zb2_eq, zx_l]
  rfl
theorem w_leastTarget {x0 : Int32} {v : Int32} (O : zOut σ b) (ob : z_ob σ b 8 = true) (h : zA9 σ b (f_X9_leastTarget σ b x0) (.inr v) g k gs tl tx) : zAC σ b (f_L_leastTarget σ b x0 (b + 123)) 0 v g k gs tl tx := by
  obtain ⟨σ1, E, C, Q, n⟩ := h
  have O1 := zOut_eq O Q n
  refine zAC_v O C Q n ?_
  unfold f_L_leastTarget
  rw [if_pos ob, E, zb2_eq, zx_r, if_pos O1.1, if_pos (zOut_ix O1)]
  rfl
theorem x_leastTarget0 {x0 : Int32} (v : Int32) (O : zOut σ b) (ob : z_ob σ b 8 = true) (h : zA9 σ b (f_X9_leastTarget σ b x0) (.inl 0) g k gs tl tx) : zAC σ b (f_L_leastTarget σ b x0 (b + 123)) 1 v g k gs tl tx := by
  obtain ⟨σ1, E, C, Q, n⟩ := h
  refine zAC_x O C Q n (r := (1 : Int32)) ?_ (by decide)
  unfold f_L_leastTarget
  rw [if_pos ob, E, zb2_eq, zx_l]
  rfl
theorem x_leastTarget1 {x0 : Int32} (v : Int32) (O : zOut σ b) (ob : z_ob σ b 8 = true) (h : zA9 σ b (f_X9_leastTarget σ b x0) (.inl 1) g k gs tl tx) : zAC σ b (f_L_leastTarget σ b x0 (b + 123)) 2 v g k gs tl tx := by
  obtain ⟨σ1, E, C, Q, n⟩ := h
  refine zAC_x O C Q n (r := (2 : Int32)) ?_ (by decide)
  unfold f_L_leastTarget
  rw [if_pos ob, E, zb2_eq, zx_l]
  rfl
theorem w_append {x0 : Int32} {v : Int32} (O : zOut σ b) (ob : z_ob σ b 8 = true) (h : zA9 σ b (f_X9_append σ b x0) (.inr v) g k gs tl tx) : zAC σ b (f_L_append σ b x0 (b + 123)) 0 v g k gs tl tx := by
  obtain ⟨σ1, E, C, Q, n⟩ := h
  have O1 := zOut_eq O Q n
  refine zAC_v O C Q n ?_
  unfold f_L_append
  rw [if_pos ob, E, zb2_eq, zx_r, if_pos O1.1, if_pos (zOut_ix O1)]
  rfl
theorem x_append0 {x0 : Int32} (v : Int32) (O : zOut σ b) (ob : z_ob σ b 8 = true) (h : zA9 σ b (f_X9_append σ b x0) (.inl 0) g k gs tl tx) : zAC σ b (f_L_append σ b x0 (b + 123)) 1 v g k gs tl tx := by
  obtain ⟨σ1, E, C, Q, n⟩ := h
  refine zAC_x O C Q n (r := (1 : Int32)) ?_ (by decide)
  unfold f_L_append
  rw [if_pos ob, E, zb2_eq, zx_l]
  rfl
theorem x_append1 {x0 : Int32} (v : Int32) (O : zOut σ b) (ob : z_ob σ b 8 = true) (h : zA9 σ b (f_X9_append σ b x0) (.inl 1) g k gs tl tx) : zAC σ b (f_L_append σ b x0 (b + 123)) 2 v g k gs tl tx := by
  obtain ⟨σ1, E, C, Q, n⟩ := h
  refine zAC_x O C Q n (r := (2 : Int32)) ?_ (by decide)
  unfold f_L_append
  rw [if_pos ob, E, zb2_eq, zx_l]
  rfl
theorem w_undo {v : Int32} (O : zOut σ b) (ob : z_ob σ b 8 = true) (h : zA9 σ b (f_X9_undo σ b) (.inr v) g k gs tl tx) : zAC σ b (f_L_undo σ b (b + 123)) 0 v g k gs tl tx := by
  obtain ⟨σ1, E, C, Q, n⟩ := h
  have O1 := zOut_eq O Q n
  refine zAC_v O C Q n ?_
  unfold f_L_undo
  rw [if_pos ob, E, zb2_eq, zx_r, if_pos O1.1, if_pos (zOut_ix O1)]
  rfl
theorem x_undo1 (v : Int32) (O : zOut σ b) (ob : z_ob σ b 8 = true) (h : zA9 σ b (f_X9_undo σ b) (.inl 1) g k gs tl tx) : zAC σ b (f_L_undo σ b (b + 123)) 1 v g k gs tl tx := by
  obtain ⟨σ1, E, C, Q, n⟩ := h
  refine zAC_x O C Q n (r := (1 : Int32)) ?_ (by decide)
  unfold f_L_undo
  rw [if_pos ob, E, zb2_eq, zx_l]
  rfl
theorem w_setOn {x0 x1 : Int32} {c : Bool} (O : zOut σ b) (ob : z_ob σ b 8 = true) (h : zA9 σ b (f_X9_setOn σ b x0 x1) (.inr (bi c)) g k gs tl tx) : zAC σ b (f_L_setOn σ b x0 x1 (b + 123)) 0 (bi c) g k gs tl tx := by
  obtain ⟨σ1, E, C, Q, n⟩ := h
  have O1 := zOut_eq O Q n
  refine zAC_v O C Q n ?_
  unfold f_L_setOn
  rw [if_pos ob, E, zb2_eq, zx_r]
  cases c with
  | true =>
    rw [if_neg (by decide)]
    unfold f_L_setOn_16
    rw [zc_some, if_pos O1.1, if_pos (zOut_ix O1)]
    rfl
  | false =>
    rw [if_pos (by decide)]
    unfold f_L_setOn_16
    rw [zc_some, if_pos O1.1, if_pos (zOut_ix O1)]
    rfl
theorem x_setOn3 {x0 x1 : Int32} (v : Int32) (O : zOut σ b) (ob : z_ob σ b 8 = true) (h : zA9 σ b (f_X9_setOn σ b x0 x1) (.inl 3) g k gs tl tx) : zAC σ b (f_L_setOn σ b x0 x1 (b + 123)) 1 v g k gs tl tx := by
  obtain ⟨σ1, E, C, Q, n⟩ := h
  refine zAC_x O C Q n (r := (1 : Int32)) ?_ (by decide)
  unfold f_L_setOn
  rw [if_pos ob, E, zb2_eq, zx_l]
  rfl
theorem w_isNoisy {x0 : Int32} {c : Bool} (O : zOut σ b) (ob : z_ob σ b 8 = true) (h : zA9 σ b (f_X9_isNoisy σ b x0) (.inr (bi c)) g k gs tl tx) : zAC σ b (f_L_isNoisy σ b x0 (b + 123)) 0 (bi c) g k gs tl tx := by
  obtain ⟨σ1, E, C, Q, n⟩ := h
  have O1 := zOut_eq O Q n
  refine zAC_v O C Q n ?_
  unfold f_L_isNoisy
  rw [if_pos ob, E, zb2_eq, zx_r]
  cases c with
  | true =>
    rw [if_neg (by decide)]
    unfold f_L_isNoisy_15
    rw [zc_some, if_pos O1.1, if_pos (zOut_ix O1)]
    rfl
  | false =>
    rw [if_pos (by decide)]
    unfold f_L_isNoisy_15
    rw [zc_some, if_pos O1.1, if_pos (zOut_ix O1)]
    rfl
theorem x_isNoisy0 {x0 : Int32} (v : Int32) (O : zOut σ b) (ob : z_ob σ b 8 = true) (h : zA9 σ b (f_X9_isNoisy σ b x0) (.inl 0) g k gs tl tx) : zAC σ b (f_L_isNoisy σ b x0 (b + 123)) 1 v g k gs tl tx := by
  obtain ⟨σ1, E, C, Q, n⟩ := h
  refine zAC_x O C Q n (r := (1 : Int32)) ?_ (by decide)
  unfold f_L_isNoisy
  rw [if_pos ob, E, zb2_eq, zx_l]
  rfl
end WRAP
