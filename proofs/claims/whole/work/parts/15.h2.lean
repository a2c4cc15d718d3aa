section GEN
variable {p : Program} {l : Launch} {e : Env} {s : State} {m : MethodId} {args : Array Value} {below : List Frame} {meth : Method} {c : Code} {D : va_G} {cA : Nat → ClassId} {bs : Nat}
set_option maxRecDepth 100000 in
def f_X9_message (σ : zSt) (l0 : Nat) (l1 : Int32) (l2 : Int32) : Option ((Nat ⊕ Int32) × zSt) :=
(if z_ob σ l0 8 then (zc (z_R σ l0 0) none (fun q2 => (if z_ob σ q2 2 then (zc (z_R σ q2 1) none (fun q5 => (if z_ob σ q5 3 then (zb (f_X3_has σ q5 l1) (fun r9 => (if r9 = 0 then
(some (.inl 2, z_gr σ))
else
(zb (f_X9_isWithin σ l2 (0 : Int32) (4 : Int32)) (fun r11 => (if r11 = 0 then
(some (.inl 0, z_gr σ))
else
(zc (z_R σ l0 0) none (fun q12 => (if z_ob σ q12 2 then (zc (z_R σ q12 1) none (fun q15 => (if z_ob σ q15 3 then (zb (f_X3_value σ q15 l1 l2) (fun r19 => (some (.inr r19, σ)))) else none))) else none))))))))) else none))) else none))) else none)
set_option maxRecDepth 20000 in
set_option maxHeartbeats 4000000 in
theorem K_X9_message (hst : l.stackTraces = false) {σ : zSt} {l0 : Nat} {l1 : Int32} {l2 : Int32} {out : (Nat ⊕ Int32) × zSt} (hf : f_X9_message σ l0 l1 l2 = some out) : z_MX l D cA bs yX9_message cX9_message 3 (some .int) 6 100 1 6 [.ref l0, .int l1, .int l2] σ out := by
  refine z_metX (own := RX9) (lv := [(0, .ref l0), (1, .int l1), (2, .int l2)]) (by decide) rfl (Nat.le_of_ble_eq_true rfl) rfl (fun p e s m below meth c ls B hX htab hW hl => ?_)
  have hx := B.1
  have hb := B.2.1
  have hown := B.2.2.2.1
  have hts := B.2.2.2.2.1
  unfold f_X9_message at hf
  refine lv_aload_n hx hb dX9_message_0 rfl (lv_at hl 0 rfl) ?_
  obtain ⟨hg1, hf⟩ := z_g hf
  obtain ⟨q2, hv3, hf⟩ := z_nn hf
  refine z_getN B hW (Or.inr zf_X9_10) rfl hg1 hv3 dX9_message_1 ?_
  obtain ⟨hg4, hf⟩ := z_g hf
  obtain ⟨q5, hv6, hf⟩ := z_nn hf
  refine z_getN B hW (Or.inr zf_X9_97) rfl hg4 hv6 dX9_message_4 ?_
  refine lv_iload_n hx hb dX9_message_7 rfl (lv_at hl 1 rfl) ?_
  obtain ⟨hg7, hf⟩ := z_g hf
  obtain ⟨r9, hq8, hf⟩ := z_b hf
  refine z_ci hW (z_runV (As := [.int l1]) (rest := []) B hW zv_X9_177 (K_X3_has hq8) hg7 rfl rfl rfl (Nat.le_of_ble_eq_true rfl) hl.1 ⟨Nat.le_of_ble_eq_true rfl, Nat.le_of_ble_eq_true rfl⟩ dX9_message_8 ⟨Nat.le_of_ble_eq_true rfl, Nat.le_of_ble_eq_true rfl⟩) (fun H locs hW => ?_)
  refine lv_if_ne (tgt := 24) hx hb dX9_message_11 (by decide) (fun hc11 => ?_) (fun hc11 => ?_)
  · replace hf := z_in hc11 hf
    refine lv_iload_n hx hb dX9_message_24 rfl (lv_at hl 2 rfl) ?_
    refine lv_iconst (v := (0 : Int32)) hx hb dX9_message_25 (by decide) ?_
    refine lv_iconst (v := (4 : Int32)) hx hb dX9_message_26 (by decide) ?_
    obtain ⟨r11, hq10, hf⟩ := z_b hf
    refine z_ci hW (z_runS (As := [.int l2, .int (0 : Int32), .int (4 : Int32)]) (rest := []) B hW zv_X9_80 (K_X9_isWithin hq10) rfl rfl (Nat.le_of_ble_eq_true rfl) hl.1 ⟨Nat.le_of_ble_eq_true rfl, Nat.le_of_ble_eq_true rfl⟩ dX9_message_27 ⟨Nat.le_of_ble_eq_true rfl, Nat.le_of_ble_eq_true rfl⟩) (fun H locs hW => ?_)
    refine lv_if_ne (tgt := 43) hx hb dX9_message_30 (by decide) (fun hc30 => ?_) (fun hc30 => ?_)
    · replace hf := z_in hc30 hf
      refine lv_aload_n hx hb dX9_message_43 rfl (lv_at hl 0 rfl) ?_
      obtain ⟨q12, hv13, hf⟩ := z_nn hf
      refine z_getN B hW (Or.inr zf_X9_10) rfl hg1 hv13 dX9_message_44 ?_
      obtain ⟨hg14, hf⟩ := z_g hf
      obtain ⟨q15, hv16, hf⟩ := z_nn hf
      refine z_getN B hW (Or.inr zf_X9_97) rfl hg14 hv16 dX9_message_47 ?_
      refine lv_iload_n hx hb dX9_message_50 rfl (lv_at hl 1 rfl) ?_
      refine lv_iload_n hx hb dX9_message_51 rfl (lv_at hl 2 rfl) ?_
      obtain ⟨hg17, hf⟩ := z_g hf
      obtain ⟨r19, hq18, hf⟩ := z_b hf
      refine z_ci hW (z_runV (As := [.int l1, .int l2]) (rest := []) B hW zv_X9_184 (K_X3_value hq18) hg17 rfl rfl rfl (Nat.le_of_ble_eq_true rfl) hl.1 ⟨Nat.le_of_ble_eq_true rfl, Nat.le_of_ble_eq_true rfl⟩ dX9_message_52 ⟨Nat.le_of_ble_eq_true rfl, Nat.le_of_ble_eq_true rfl⟩) (fun H locs hW => ?_)
      exact z_rxi B hW (z_e1 hf) dX9_message_55 (Nat.le_of_ble_eq_true rfl) (Nat.le_of_ble_eq_true rfl)
    · replace hf := z_ip hc30 hf
      exact z_thr (rest := []) hst B hX htab hW zt_X9_34_182 hl.1 dX9_message_33 dX9_message_36 dX9_message_37 dX9_message_39 dX9_message_42 (Nat.le_of_ble_eq_true rfl) (Nat.le_of_ble_eq_true rfl) (Nat.le_of_ble_eq_true rfl) (Nat.le_of_ble_eq_true rfl) (z_e1 hf) (Nat.le_of_ble_eq_true rfl) (Nat.le_of_ble_eq_true rfl)
  · replace hf := z_ip hc11 hf
    exact z_thr (rest := []) hst B hX htab hW zt_X9_160_180 hl.1 dX9_message_14 dX9_message_17 dX9_message_18 dX9_message_20 dX9_message_23 (Nat.le_of_ble_eq_true rfl) (Nat.le_of_ble_eq_true rfl) (Nat.le_of_ble_eq_true rfl) (Nat.le_of_ble_eq_true rfl) (z_e1 hf) (Nat.le_of_ble_eq_true rfl) (Nat.le_of_ble_eq_true rfl)
set_option maxRecDepth 100000 in
def f_X9_count (σ : zSt) (l0 : Nat) (l1 : Int32) : Option ((Nat ⊕ Int32) × zSt) :=
(zb (f_X9_isWithin σ l1 (0 : Int32) (6 : Int32)) (fun r2 => (if r2 = 0 then
(some (.inl 0, z_gr σ))
else
(if z_ob σ l0 8 then (zc (z_R σ l0 0) none (fun q4 => (if z_ob σ q4 2 then (zc (z_R σ q4 3) none (fun q7 => (if z_ob σ q7 0 then (zb (f_X0_value σ q7 l1) (fun r11 => (some (.inr r11, σ)))) else none))) else none))) else none))))
set_option maxRecDepth 20000 in
set_option maxHeartbeats 4000000 in
theorem K_X9_count (hst : l.stackTraces = false) {σ : zSt} {l0 : Nat} {l1 : Int32} {out : (Nat ⊕ Int32) × zSt} (hf : f_X9_count σ l0 l1 = some out) : z_MX l D cA bs yX9_count cX9_count 2 (some .int) 6 100 1 6 [.ref l0, .int l1] σ out := by
  refine z_metX (own := RX9) (lv := [(0, .ref l0), (1, .int l1)]) (by decide) rfl (Nat.le_of_ble_eq_true rfl) rfl (fun p e s m below meth c ls B hX htab hW hl => ?_)
  have hx := B.1
  have hb := B.2.1
  have hown := B.2.2.2.1
  have hts := B.2.2.2.2.1
  unfold f_X9_count at hf
  refine lv_iload_n hx hb dX9_count_0 rfl (lv_at hl 1 rfl) ?_
  refine lv_iconst (v := (0 : Int32)) hx hb dX9_count_1 (by decide) ?_
  refine lv_bipush (v := (6 : Int32)) hx hb dX9_count_2 (by decide) ?_
  obtain ⟨r2, hq1, hf⟩ := z_b hf
  refine z_ci hW (z_runS (As := [.int l1, .int (0 : Int32), .int (6 : Int32)]) (rest := []) B hW zv_X9_80 (K_X9_isWithin hq1) rfl rfl (Nat.le_of_ble_eq_true rfl) hl.1 ⟨Nat.le_of_ble_eq_true rfl, Nat.le_of_ble_eq_true rfl⟩ dX9_count_4 ⟨Nat.le_of_ble_eq_true rfl, Nat.le_of_ble_eq_true rfl⟩) (fun H locs hW => ?_)
  refine lv_if_ne (tgt := 20) hx hb dX9_count_7 (by decide) (fun hc7 => ?_) (fun hc7 => ?_)
  · replace hf := z_in hc7 hf
    refine lv_aload_n hx hb dX9_count_20 rfl (lv_at hl 0 rfl) ?_
    obtain ⟨hg3, hf⟩ := z_g hf
    obtain ⟨q4, hv5, hf⟩ := z_nn hf
    refine z_getN B hW (Or.inr zf_X9_10) rfl hg3 hv5 dX9_count_21 ?_
    obtain ⟨hg6, hf⟩ := z_g hf
    obtain ⟨q7, hv8, hf⟩ := z_nn hf
    refine z_getN B hW (Or.inr zf_X9_191) rfl hg6 hv8 dX9_count_24 ?_
    refine lv_iload_n hx hb dX9_count_27 rfl (lv_at hl 1 rfl) ?_
    obtain ⟨hg9, hf⟩ := z_g hf
    obtain ⟨r11, hq10, hf⟩ := z_b hf
    refine z_ci hW (z_runV (As := [.int l1]) (rest := []) B hW zv_X9_195 (K_X0_value hq10) hg9 rfl rfl rfl (Nat.le_of_ble_eq_true rfl) hl.1 ⟨Nat.le_of_ble_eq_true rfl, Nat.le_of_ble_eq_true rfl⟩ dX9_count_28 ⟨Nat.le_of_ble_eq_true rfl, Nat.le_of_ble_eq_true rfl⟩) (fun H locs hW => ?_)
    exact z_rxi B hW (z_e1 hf) dX9_count_31 (Nat.le_of_ble_eq_true rfl) (Nat.le_of_ble_eq_true rfl)
  · replace hf := z_ip hc7 hf
    exact z_thr (rest := []) hst B hX htab hW zt_X9_34_189 hl.1 dX9_count_10 dX9_count_13 dX9_count_14 dX9_count_16 dX9_count_19 (Nat.le_of_ble_eq_true rfl) (Nat.le_of_ble_eq_true rfl) (Nat.le_of_ble_eq_true rfl) (Nat.le_of_ble_eq_true rfl) (z_e1 hf) (Nat.le_of_ble_eq_true rfl) (Nat.le_of_ble_eq_true rfl)
set_option maxRecDepth 100000 in
def f_X9_isNoisy (σ : zSt) (l0 : Nat) (l1 : Int32) : Option ((Nat ⊕ Int32) × zSt) :=
(zb (f_X9_isWithin σ l1 (0 : Int32) (1000000 : Int32)) (fun r2 => (if r2 = 0 then
(some (.inl 0, z_gr σ))
else
(if z_ob σ l0 8 then (zc (z_R σ l0 0) none (fun q4 => (if z_ob σ q4 2 then (zc (z_R σ q4 2) none (fun q7 => (if z_ob σ q7 4 then (zb (f_X4_touch σ q7 l1 l1) (fun r11 => (if z_bl r11 then (some (.inr r11, σ)) else none))) else none))) else none))) else none))))
set_option maxRecDepth 20000 in
set_option maxHeartbeats 4000000 in
theorem K_X9_isNoisy (hst : l.stackTraces = false) {σ : zSt} {l0 : Nat} {l1 : Int32} {out : (Nat ⊕ Int32) × zSt} (hf : f_X9_isNoisy σ l0 l1 = some out) : z_MX l D cA bs yX9_isNoisy cX9_isNoisy 2 (some .boolean) 6 100 1 6 [.ref l0, .int l1] σ out := by
  refine z_metX (own := RX9) (lv := [(0, .ref l0), (1, .int l1)]) (by decide) rfl (Nat.le_of_ble_eq_true rfl) rfl (fun p e s m below meth c ls B hX htab hW hl => ?_)
  have hx := B.1
  have hb := B.2.1
  have hown := B.2.2.2.1
  have hts := B.2.2.2.2.1
  unfold f_X9_isNoisy at hf
  refine lv_iload_n hx hb dX9_isNoisy_0 rfl (lv_at hl 1 rfl) ?_
  refine lv_iconst (v := (0 : Int32)) hx hb dX9_isNoisy_1 (by decide) ?_
  refine lv_ldc hx hb hown (hts _ zk_X9_113) dX9_isNoisy_2 ?_
  obtain ⟨r2, hq1, hf⟩ := z_b hf
  refine z_ci hW (z_runS (As := [.int l1, .int (0 : Int32), .int (1000000 : Int32)]) (rest := []) B hW zv_X9_80 (K_X9_isWithin hq1) rfl rfl (Nat.le_of_ble_eq_true rfl) hl.1 ⟨Nat.le_of_ble_eq_true rfl, Nat.le_of_ble_eq_true rfl⟩ dX9_isNoisy_4 ⟨Nat.le_of_ble_eq_true rfl, Nat.le_of_ble_eq_true rfl⟩) (fun H locs hW => ?_)
  refine lv_if_ne (tgt := 20) hx hb dX9_isNoisy_7 (by decide) (fun hc7 => ?_) (fun hc7 => ?_)
  · replace hf := z_in hc7 hf
    refine lv_aload_n hx hb dX9_isNoisy_20 rfl (lv_at hl 0 rfl) ?_
    obtain ⟨hg3, hf⟩ := z_g hf
    obtain ⟨q4, hv5, hf⟩ := z_nn hf
    refine z_getN B hW (Or.inr zf_X9_10) rfl hg3 hv5 dX9_isNoisy_21 ?_
    obtain ⟨hg6, hf⟩ := z_g hf
    obtain ⟨q7, hv8, hf⟩ := z_nn hf
    refine z_getN B hW (Or.inr zf_X9_116) rfl hg6 hv8 dX9_isNoisy_24 ?_
    refine lv_iload_n hx hb dX9_isNoisy_27 rfl (lv_at hl 1 rfl) ?_
    refine lv_iload_n hx hb dX9_isNoisy_28 rfl (lv_at hl 1 rfl) ?_
    obtain ⟨hg9, hf⟩ := z_g hf
    obtain ⟨r11, hq10, hf⟩ := z_b hf
    refine z_ci hW (z_runV (As := [.int l1, .int l1]) (rest := []) B hW zv_X9_198 (K_X4_touch hq10) hg9 rfl rfl rfl (Nat.le_of_ble_eq_true rfl) hl.1 ⟨Nat.le_of_ble_eq_true rfl, Nat.le_of_ble_eq_true rfl⟩ dX9_isNoisy_29 ⟨Nat.le_of_ble_eq_true rfl, Nat.le_of_ble_eq_true rfl⟩) (fun H locs hW => ?_)
    obtain ⟨hg12, hf⟩ := z_g hf
    exact z_rxz hg12 B hW (z_e1 hf) dX9_isNoisy_32 (Nat.le_of_ble_eq_true rfl) (Nat.le_of_ble_eq_true rfl)
  · replace hf := z_ip hc7 hf
    exact z_thr (rest := []) hst B hX htab hW zt_X9_34_196 hl.1 dX9_isNoisy_10 dX9_isNoisy_13 dX9_isNoisy_14 dX9_isNoisy_16 dX9_isNoisy_19 (Nat.le_of_ble_eq_true rfl) (Nat.le_of_ble_eq_true rfl) (Nat.le_of_ble_eq_true rfl) (Nat.le_of_ble_eq_true rfl) (z_e1 hf) (Nat.le_of_ble_eq_true rfl) (Nat.le_of_ble_eq_true rfl)
set_option maxRecDepth 100000 in
def f_X9_visit (σ : zSt) (l0 : Nat) (l1 : Int32) (l2 : Int32) : Option ((Nat ⊕ Int32) × zSt) :=
(if z_ob σ l0 8 then (zc (z_R σ l0 0) none (fun q2 => (if z_ob σ q2 2 then (zb (f_X2_logLength σ q2) (fun r6 => (zb (f_X9_isWithin σ l1 (0 : Int32) (r6 - (1 : Int32))) (fun r8 => (if r8 = 0 then
(some (.inl 2, z_gr σ))
else
(zb (f_X9_isWithin σ l2 (0 : Int32) (3 : Int32)) (fun r10 => (if r10 = 0 then
(some (.inl 0, z_gr σ))
else
(zc (z_R σ l0 0) none (fun q11 => (if z_ob σ q11 2 then (zb (f_X2_logValue σ q11 l1 l2) (fun r15 => (some (.inr r15, σ)))) else none))))))))))) else none))) else none)
set_option maxRecDepth 20000 in
set_option maxHeartbeats 4000000 in
theorem K_X9_visit (hst : l.stackTraces = false) {σ : zSt} {l0 : Nat} {l1 : Int32} {l2 : Int32} {out : (Nat ⊕ Int32) × zSt} (hf : f_X9_visit σ l0 l1 l2 = some out) : z_MX l D cA bs yX9_visit cX9_visit 3 (some .int) 6 100 1 6 [.ref l0, .int l1, .int l2] σ out := by
  refine z_metX (own := RX9) (lv := [(0, .ref l0), (1, .int l1), (2, .int l2)]) (by decide) rfl (Nat.le_of_ble_eq_true rfl) rfl (fun p e s m below meth c ls B hX htab hW hl => ?_)
  have hx := B.1
  have hb := B.2.1
  have hown := B.2.2.2.1
  have hts := B.2.2.2.2.1
  unfold f_X9_visit at hf
  refine lv_iload_n hx hb dX9_visit_0 rfl (lv_at hl 1 rfl) ?_
  refine lv_iconst (v := (0 : Int32)) hx hb dX9_visit_1 (by decide) ?_
  refine lv_aload_n hx hb dX9_visit_2 rfl (lv_at hl 0 rfl) ?_
  obtain ⟨hg1, hf⟩ := z_g hf
  obtain ⟨q2, hv3, hf⟩ := z_nn hf
  refine z_getN B hW (Or.inr zf_X9_10) rfl hg1 hv3 dX9_visit_3 ?_
  obtain ⟨hg4, hf⟩ := z_g hf
  obtain ⟨r6, hq5, hf⟩ := z_b hf
  refine z_ci hW (z_runV (As := []) (rest := [.int (0 : Int32), .int l1]) B hW zv_X9_202 (K_X2_logLength hq5) hg4 rfl rfl rfl (Nat.le_of_ble_eq_true rfl) hl.1 ⟨Nat.le_of_ble_eq_true rfl, Nat.le_of_ble_eq_true rfl⟩ dX9_visit_6 ⟨Nat.le_of_ble_eq_true rfl, Nat.le_of_ble_eq_true rfl⟩) (fun H locs hW => ?_)
  refine lv_iconst (v := (1 : Int32)) hx hb dX9_visit_9 (by decide) ?_
  refine lv_isub hx hb dX9_visit_10 ?_
  obtain ⟨r8, hq7, hf⟩ := z_b hf
  refine z_ci hW (z_runS (As := [.int l1, .int (0 : Int32), .int (r6 - (1 : Int32))]) (rest := []) B hW zv_X9_80 (K_X9_isWithin hq7) rfl rfl (Nat.le_of_ble_eq_true rfl) hl.1 ⟨Nat.le_of_ble_eq_true rfl, Nat.le_of_ble_eq_true rfl⟩ dX9_visit_11 ⟨Nat.le_of_ble_eq_true rfl, Nat.le_of_ble_eq_true rfl⟩) (fun H locs hW => ?_)
  refine lv_if_ne (tgt := 27) hx hb dX9_visit_14 (by decide) (fun hc14 => ?_) (fun hc14 => ?_)
  · replace hf := z_in hc14 hf
    refine lv_iload_n hx hb dX9_visit_27 rfl (lv_at hl 2 rfl) ?_
    refine lv_iconst (v := (0 : Int32)) hx hb dX9_visit_28 (by decide) ?_
    refine lv_iconst (v := (3 : Int32)) hx hb dX9_visit_29 (by decide) ?_
    obtain ⟨r10, hq9, hf⟩ := z_b hf
    refine z_ci hW (z_runS (As := [.int l2, .int (0 : Int32), .int (3 : Int32)]) (rest := []) B hW zv_X9_80 (K_X9_isWithin hq9) rfl rfl (Nat.le_of_ble_eq_true rfl) hl.1 ⟨Nat.le_of_ble_eq_true rfl, Nat.le_of_ble_eq_true rfl⟩ dX9_visit_30 ⟨Nat.le_of_ble_eq_true rfl, Nat.le_of_ble_eq_true rfl⟩) (fun H locs hW => ?_)
    refine lv_if_ne (tgt := 46) hx hb dX9_visit_33 (by decide) (fun hc33 => ?_) (fun hc33 => ?_)
    · replace hf := z_in hc33 hf
      refine lv_aload_n hx hb dX9_visit_46 rfl (lv_at hl 0 rfl) ?_
      obtain ⟨q11, hv12, hf⟩ := z_nn hf
      refine z_getN B hW (Or.inr zf_X9_10) rfl hg1 hv12 dX9_visit_47 ?_
      refine lv_iload_n hx hb dX9_visit_50 rfl (lv_at hl 1 rfl) ?_
      refine lv_iload_n hx hb dX9_visit_51 rfl (lv_at hl 2 rfl) ?_
      obtain ⟨hg13, hf⟩ := z_g hf
      obtain ⟨r15, hq14, hf⟩ := z_b hf
      refine z_ci hW (z_runV (As := [.int l1, .int l2]) (rest := []) B hW zv_X9_210 (K_X2_logValue hq14) hg13 rfl rfl rfl (Nat.le_of_ble_eq_true rfl) hl.1 ⟨Nat.le_of_ble_eq_true rfl, Nat.le_of_ble_eq_true rfl⟩ dX9_visit_52 ⟨Nat.le_of_ble_eq_true rfl, Nat.le_of_ble_eq_true rfl⟩) (fun H locs hW => ?_)
      exact z_rxi B hW (z_e1 hf) dX9_visit_55 (Nat.le_of_ble_eq_true rfl) (Nat.le_of_ble_eq_true rfl)
    · replace hf := z_ip hc33 hf
      exact z_thr (rest := []) hst B hX htab hW zt_X9_34_208 hl.1 dX9_visit_36 dX9_visit_39 dX9_visit_40 dX9_visit_42 dX9_visit_45 (Nat.le_of_ble_eq_true rfl) (Nat.le_of_ble_eq_true rfl) (Nat.le_of_ble_eq_true rfl) (Nat.le_of_ble_eq_true rfl) (z_e1 hf) (Nat.le_of_ble_eq_true rfl) (Nat.le_of_ble_eq_true rfl)
  · replace hf := z_ip hc14 hf
    exact z_thr (rest := []) hst B hX htab hW zt_X9_160_206 hl.1 dX9_visit_17 dX9_visit_20 dX9_visit_21 dX9_visit_23 dX9_visit_26 (Nat.le_of_ble_eq_true rfl) (Nat.le_of_ble_eq_true rfl) (Nat.le_of_ble_eq_true rfl) (Nat.le_of_ble_eq_true rfl) (z_e1 hf) (Nat.le_of_ble_eq_true rfl) (Nat.le_of_ble_eq_true rfl)
set_option maxRecDepth 100000 in
def f_X9_waitOf_50 (σ : zSt) : Option ((Nat ⊕ Int32) × zSt) :=
(some (.inl 1, z_gr σ))
set_option maxRecDepth 20000 in
set_option maxHeartbeats 4000000 in
theorem t_X9_waitOf_50 (B : z_B p s m args meth c D cA bs RX9 cX9_waitOf 4 (some .int)) (hst : l.stackTraces = false) (hX : z_X bs s) (htab : ∀ x ∈ c.exceptionTable.toList, False) {out : (Nat ⊕ Int32) × zSt} {σ : zSt} (hf : f_X9_waitOf_50 σ = some out) {H : Heap} {locs : List Loc} {ls : Array Slot} (hW : z_Ok D cA bs s σ H locs) (hl : lv_has ls 4 [])  : W p l e (zrm 6 1 6 126) s m args below meth c H locs 0 0 (vx_MQ below (z_QX D cA bs out) (z_XX D cA bs out) args s 1 6 (fun q => bs ≤ q)) (F0 m 50 ls []) := by
  have hx := B.1
  have hb := B.2.1
  have hown := B.2.2.2.1
  have hts := B.2.2.2.2.1
  unfold f_X9_waitOf_50 at hf
  exact z_thr (rest := []) hst B hX htab hW zt_X9_49_229 hl.1 dX9_waitOf_50 dX9_waitOf_53 dX9_waitOf_54 dX9_waitOf_56 dX9_waitOf_59 (Nat.le_of_ble_eq_true rfl) (Nat.le_of_ble_eq_true rfl) (Nat.le_of_ble_eq_true rfl) (Nat.le_of_ble_eq_true rfl) (z_e1 hf) (Nat.le_of_ble_eq_true rfl) (Nat.le_of_ble_eq_true rfl)
set_option maxRecDepth 100000 in
def f_X9_waitOf_113 (σ : zSt) (l2 : Int32) : Option ((Nat ⊕ Int32) × zSt) :=
(some (.inr l2, σ))
set_option maxRecDepth 20000 in
set_option maxHeartbeats 4000000 in
theorem t_X9_waitOf_113 (B : z_B p s m args meth c D cA bs RX9 cX9_waitOf 4 (some .int)) (hst : l.stackTraces = false) (hX : z_X bs s) (htab : ∀ x ∈ c.exceptionTable.toList, False) {out : (Nat ⊕ Int32) × zSt} {σ : zSt} {l2 : Int32} (hf : f_X9_waitOf_113 σ l2 = some out) {H : Heap} {locs : List Loc} {ls : Array Slot} (hW : z_Ok D cA bs s σ H locs) (hl : lv_has ls 4 [(2, .int l2)])  : W p l e (zrm 6 1 6 126) s m args below meth c H locs 0 0 (vx_MQ below (z_QX D cA bs out) (z_XX D cA bs out) args s 1 6 (fun q => bs ≤ q)) (F0 m 113 ls []) := by
  have hx := B.1
  have hb := B.2.1
  have hown := B.2.2.2.1
  have hts := B.2.2.2.2.1
  unfold f_X9_waitOf_113 at hf
  refine lv_iload_n hx hb dX9_waitOf_113 rfl (lv_at hl 0 rfl) ?_
  exact z_rxi B hW (z_e1 hf) dX9_waitOf_114 (Nat.le_of_ble_eq_true rfl) (Nat.le_of_ble_eq_true rfl)
set_option maxRecDepth 100000 in
def b_X9_waitOf_75 (l0 : Nat) (l1 : Int32) (σ : zSt) (l2 : Int32) (l3 : Int32) : Option ((zSt × Int32 × Int32) ⊕ ((Nat ⊕ Int32) × zSt)) :=
(if (300 : Int32) ≤ l3 then
(zex (f_X9_waitOf_113 σ l2))
else
(if l2 = (-1 : Int32) then
(if z_ob σ l0 8 then (zc (z_R σ l0 1) none (fun q4 => (zb (f_X8_makeVisit σ q4) (fun σ7 => (if z_ob σ7 l0 8 then (zc (z_R σ7 l0 1) none (fun q9 => (if z_ob σ7 q9 2 then (zc (z_R σ7 q9 1) none (fun q12 => (if z_ob σ7 q12 3 then (zb (f_X3_value σ7 q12 l1 (4 : Int32)) (fun r16 => (some (.inl (σ7, r16, (l3 + (1 : Int32))))))) else none))) else none))) else none))))) else none)
else
(zex (f_X9_waitOf_113 σ l2))))
set_option maxRecDepth 100000 in
def f_X9_waitOf_75 (l0 : Nat) (l1 : Int32) (σ : zSt) (l2 : Int32) (l3 : Int32) : Option ((Nat ⊕ Int32) × zSt) := zloop (fun (t : zSt × Int32 × Int32) => b_X9_waitOf_75 l0 l1 t.1 t.2.1 t.2.2) zN (σ, l2, l3)
set_option maxRecDepth 20000 in
set_option maxHeartbeats 4000000 in
theorem tb_X9_waitOf_75 (B : z_B p s m args meth c D cA bs RX9 cX9_waitOf 4 (some .int)) (hst : l.stackTraces = false) (hX : z_X bs s) (htab : ∀ x ∈ c.exceptionTable.toList, False) {out : (Nat ⊕ Int32) × zSt} {o1 : (zSt × Int32 × Int32) ⊕ ((Nat ⊕ Int32) × zSt)} {l0 : Nat} {l1 : Int32} {σ : zSt} {l2 : Int32} {l3 : Int32} (hf : b_X9_waitOf_75 l0 l1 σ l2 l3 = some o1) {H : Heap} {locs : List Loc} {ls : Array Slot} (hW : z_Ok D cA bs s σ H locs) (hl : lv_has ls 4 [(0, .ref l0), (1, .int l1), (2, .int l2), (3, .int l3)]) (hk1 : ∀ (σ : zSt) (l2 : Int32) (l3 : Int32), o1 = .inl (σ, l2, l3) → ∀ {H : Heap} {locs : List Loc} {ls : Array Slot}, z_Ok D cA bs s σ H locs → lv_has ls 4 [(0, .ref l0), (1, .int l1), (2, .int l2), (3, .int l3)] → W p l e (zrm 6 1 6 126) s m args below meth c H locs 0 0 (vx_MQ below (z_QX D cA bs out) (z_XX D cA bs out) args s 1 6 (fun q => bs ≤ q)) (F0 m 75 ls [])) (hr1 : ∀ x, o1 = .inr x → x = out) : W p l e (zrm 6 1 6 126) s m args below meth c H locs 0 0 (vx_MQ below (z_QX D cA bs out) (z_XX D cA bs out) args s 1 6 (fun q => bs ≤ q)) (F0 m 75 ls []) := by
  have hx := B.1
  have hb := B.2.1
  have hown := B.2.2.2.1
  have hts := B.2.2.2.2.1
  unfold b_X9_waitOf_75 at hf
  refine lv_iload_n hx hb dX9_waitOf_75 rfl (lv_at hl 3 rfl) ?_
  refine lv_sipush (v := (300 : Int32)) hx hb dX9_waitOf_76 (by decide) ?_
  refine lv_icmp_ge (tgt := 113) hx hb dX9_waitOf_79 (by decide) (fun hc79 => ?_) (fun hc79 => ?_)
  · replace hf := z_ip hc79 hf
    obtain ⟨w1, hf, ho1⟩ := z_x hf
    obtain rfl := hr1 _ ho1
    exact t_X9_waitOf_113 B hst hX htab hf hW (lv_sub hl [2] rfl) 
  · replace hf := z_in hc79 hf
    refine lv_iload_n hx hb dX9_waitOf_82 rfl (lv_at hl 2 rfl) ?_
    refine lv_iconst (v := (-1 : Int32)) hx hb dX9_waitOf_83 (by decide) ?_
    refine lv_icmp_ne (tgt := 113) hx hb dX9_waitOf_84 (by decide) (fun hc84 => ?_) (fun hc84 => ?_)
    · replace hf := z_in hc84 hf
      obtain ⟨w1, hf, ho2⟩ := z_x hf
      obtain rfl := hr1 _ ho2
      exact t_X9_waitOf_113 B hst hX htab hf hW (lv_sub hl [2] rfl) 
    · replace hf := z_ip hc84 hf
      refine lv_aload_n hx hb dX9_waitOf_87 rfl (lv_at hl 0 rfl) ?_
      obtain ⟨hg3, hf⟩ := z_g hf
      obtain ⟨q4, hv5, hf⟩ := z_nn hf
      refine z_getN B hW (Or.inr zf_X9_16) rfl hg3 hv5 dX9_waitOf_88 ?_
      obtain ⟨σ7, hq6, hf⟩ := z_b hf
      refine z_cv hW (z_runS (As := [.ref q4]) (rest := []) B hW zv_X9_138 (K_X8_makeVisit hq6) rfl rfl (Nat.le_of_ble_eq_true rfl) hl.1 ⟨Nat.le_of_ble_eq_true rfl, Nat.le_of_ble_eq_true rfl⟩ dX9_waitOf_91 ⟨Nat.le_of_ble_eq_true rfl, Nat.le_of_ble_eq_true rfl⟩) (fun H locs hW => ?_)
      refine lv_aload_n hx hb dX9_waitOf_94 rfl (lv_at hl 0 rfl) ?_
      obtain ⟨hg8, hf⟩ := z_g hf
      obtain ⟨q9, hv10, hf⟩ := z_nn hf
      refine z_getN B hW (Or.inr zf_X9_16) rfl hg8 hv10 dX9_waitOf_95 ?_
      obtain ⟨hg11, hf⟩ := z_g hf
      obtain ⟨q12, hv13, hf⟩ := z_nn hf
      refine z_getN B hW (Or.inr zf_X9_97) rfl hg11 hv13 dX9_waitOf_98 ?_
      refine lv_iload_n hx hb dX9_waitOf_101 rfl (lv_at hl 1 rfl) ?_
      refine lv_iconst (v := (4 : Int32)) hx hb dX9_waitOf_102 (by decide) ?_
      obtain ⟨hg14, hf⟩ := z_g hf
      obtain ⟨r16, hq15, hf⟩ := z_b hf
      refine z_ci hW (z_runV (As := [.int l1, .int (4 : Int32)]) (rest := []) B hW zv_X9_184 (K_X3_value hq15) hg14 rfl rfl rfl (Nat.le_of_ble_eq_true rfl) hl.1 ⟨Nat.le_of_ble_eq_true rfl, Nat.le_of_ble_eq_true rfl⟩ dX9_waitOf_103 ⟨Nat.le_of_ble_eq_true rfl, Nat.le_of_ble_eq_true rfl⟩) (fun H locs hW => ?_)
      refine lv_istore_n (lv' := [(2, .int r16), (0, .ref l0), (1, .int l1), (3, .int l3)]) hx hb dX9_waitOf_106 rfl hl (by decide) rfl (fun ls hl => ?_)
      refine lv_iinc (v := (l3 + (1 : Int32))) (lv' := [(3, .int (l3 + (1 : Int32))), (2, .int r16), (0, .ref l0), (1, .int l1)]) hx hb dX9_waitOf_107 hl (k := 3) rfl rfl (by decide) rfl (fun ls hl => ?_)
      refine lv_goto (tgt := 75) hx hb dX9_waitOf_110 (by decide) ?_
      exact hk1 _ _ _ (Option.some.inj hf).symm hW (lv_sub hl [2, 3, 1, 0] rfl)
set_option maxRecDepth 20000 in
set_option maxHeartbeats 4000000 in
theorem t_X9_waitOf_75 (B : z_B p s m args meth c D cA bs RX9 cX9_waitOf 4 (some .int)) (hst : l.stackTraces = false) (hX : z_X bs s) (htab : ∀ x ∈ c.exceptionTable.toList, False) {out : (Nat ⊕ Int32) × zSt} {l0 : Nat} {l1 : Int32}  : ∀ (n : Nat) {σ : zSt} {l2 : Int32} {l3 : Int32}, zloop (fun (t : zSt × Int32 × Int32) => b_X9_waitOf_75 l0 l1 t.1 t.2.1 t.2.2) n (σ, l2, l3) = some out → ∀ {H : Heap} {locs : List Loc} {ls : Array Slot}, z_Ok D cA bs s σ H locs → lv_has ls 4 [(0, .ref l0), (1, .int l1), (2, .int l2), (3, .int l3)] → W p l e (zrm 6 1 6 126) s m args below meth c H locs 0 0 (vx_MQ below (z_QX D cA bs out) (z_XX D cA bs out) args s 1 6 (fun q => bs ≤ q)) (F0 m 75 ls []) := by
  intro n
  induction n with
  | zero => intro σ l2 l3 hf; cases hf
  | succ n ih =>
    intro σ l2 l3 hf H locs ls hW hl
    obtain ⟨o1, hb1, hf⟩ := z_lp hf
    refine tb_X9_waitOf_75 B hst hX htab hb1 hW hl  (fun σ l2 l3 he H locs ls hW hl => ?_) (fun x he => ?_)
    · rcases hf with ⟨t, ht, hf⟩ | hf
      · rw [he] at ht
        cases ht
        exact ih hf hW hl
      · rw [he] at hf
        cases hf
    · rcases hf with ⟨t, ht, hf⟩ | hf
      · rw [he] at ht
        cases ht
      · rw [he] at hf
        exact Sum.inr.inj hf
set_option maxRecDepth 100000 in
def f_X9_waitOf (σ : zSt) (l0 : Nat) (l1 : Int32) : Option ((Nat ⊕ Int32) × zSt) :=
(if z_ob σ l0 8 then (zc (z_R σ l0 0) none (fun q2 => (if z_ob σ q2 2 then (zc (z_R σ q2 1) none (fun q5 => (if z_ob σ q5 3 then (zb (f_X3_has σ q5 l1) (fun r9 => (if r9 = 0 then
(some (.inl 2, z_gr σ))
else
(zc (z_R σ l0 0) none (fun q10 => (if z_ob σ q10 2 then (zc (z_R σ q10 1) none (fun q13 => (if z_ob σ q13 3 then (zb (f_X3_value σ q13 l1 (4 : Int32)) (fun r17 => (if r17 = (-1 : Int32) then
(zc (z_R σ l0 0) none (fun q18 => (if z_ob σ q18 2 then (zb (f_X2_isTooLate σ q18) (fun r22 => (if r22 = 0 then
(zc (z_R σ l0 1) none (fun q23 => (zc (z_R σ l0 0) none (fun q25 => (if z_ob σ q23 2 then (zb (f_X2_copyFrom σ q23 q25) (fun σ29 => (f_X9_waitOf_75 l0 l1 σ29 (-1 : Int32) (0 : Int32)))) else none)))))
else
(f_X9_waitOf_50 σ)))) else none)))
else
(f_X9_waitOf_50 σ)))) else none))) else none)))))) else none))) else none))) else none)
set_option maxRecDepth 20000 in
set_option maxHeartbeats 4000000 in
theorem K_X9_waitOf (hst : l.stackTraces = false) {σ : zSt} {l0 : Nat} {l1 : Int32} {out : (Nat ⊕ Int32) × zSt} (hf : f_X9_waitOf σ l0 l1 = some out) : z_MX l D cA bs yX9_waitOf cX9_waitOf 4 (some .int) 6 126 1 6 [.ref l0, .int l1] σ out := by
  refine z_metX (own := RX9) (lv := [(0, .ref l0), (1, .int l1)]) (by decide) rfl (Nat.le_of_ble_eq_true rfl) rfl (fun p e s m below meth c ls B hX htab hW hl => ?_)
  have hx := B.1
  have hb := B.2.1
  have hown := B.2.2.2.1
  have hts := B.2.2.2.2.1
  unfold f_X9_waitOf at hf
  refine lv_aload_n hx hb dX9_waitOf_0 rfl (lv_at hl 0 rfl) ?_
  obtain ⟨hg1, hf⟩ := z_g hf
  obtain ⟨q2, hv3, hf⟩ := z_nn hf
  refine z_getN B hW (Or.inr zf_X9_10) rfl hg1 hv3 dX9_waitOf_1 ?_
  obtain ⟨hg4, hf⟩ := z_g hf
  obtain ⟨q5, hv6, hf⟩ := z_nn hf
  refine z_getN B hW (Or.inr zf_X9_97) rfl hg4 hv6 dX9_waitOf_4 ?_
  refine lv_iload_n hx hb dX9_waitOf_7 rfl (lv_at hl 1 rfl) ?_
  obtain ⟨hg7, hf⟩ := z_g hf
  obtain ⟨r9, hq8, hf⟩ := z_b hf
  refine z_ci hW (z_runV (As := [.int l1]) (rest := []) B hW zv_X9_177 (K_X3_has hq8) hg7 rfl rfl rfl (Nat.le_of_ble_eq_true rfl) hl.1 ⟨Nat.le_of_ble_eq_true rfl, Nat.le_of_ble_eq_true rfl⟩ dX9_waitOf_8 ⟨Nat.le_of_ble_eq_true rfl, Nat.le_of_ble_eq_true rfl⟩) (fun H locs hW => ?_)
  refine lv_if_ne (tgt := 24) hx hb dX9_waitOf_11 (by decide) (fun hc11 => ?_) (fun hc11 => ?_)
  · replace hf := z_in hc11 hf
    refine lv_aload_n hx hb dX9_waitOf_24 rfl (lv_at hl 0 rfl) ?_
    obtain ⟨q10, hv11, hf⟩ := z_nn hf
    refine z_getN B hW (Or.inr zf_X9_10) rfl hg1 hv11 dX9_waitOf_25 ?_
    obtain ⟨hg12, hf⟩ := z_g hf
    obtain ⟨q13, hv14, hf⟩ := z_nn hf
    refine z_getN B hW (Or.inr zf_X9_97) rfl hg12 hv14 dX9_waitOf_28 ?_
    refine lv_iload_n hx hb dX9_waitOf_31 rfl (lv_at hl 1 rfl) ?_
    refine lv_iconst (v := (4 : Int32)) hx hb dX9_waitOf_32 (by decide) ?_
    obtain ⟨hg15, hf⟩ := z_g hf
    obtain ⟨r17, hq16, hf⟩ := z_b hf
    refine z_ci hW (z_runV (As := [.int l1, .int (4 : Int32)]) (rest := []) B hW zv_X9_184 (K_X3_value hq16) hg15 rfl rfl rfl (Nat.le_of_ble_eq_true rfl) hl.1 ⟨Nat.le_of_ble_eq_true rfl, Nat.le_of_ble_eq_true rfl⟩ dX9_waitOf_33 ⟨Nat.le_of_ble_eq_true rfl, Nat.le_of_ble_eq_true rfl⟩) (fun H locs hW => ?_)
    refine lv_iconst (v := (-1 : Int32)) hx hb dX9_waitOf_36 (by decide) ?_
    refine lv_icmp_ne (tgt := 50) hx hb dX9_waitOf_37 (by decide) (fun hc37 => ?_) (fun hc37 => ?_)
    · replace hf := z_in hc37 hf
      exact t_X9_waitOf_50 B hst hX htab hf hW (lv_sub hl [] rfl) 
    · replace hf := z_ip hc37 hf
      refine lv_aload_n hx hb dX9_waitOf_40 rfl (lv_at hl 0 rfl) ?_
      obtain ⟨q18, hv19, hf⟩ := z_nn hf
      refine z_getN B hW (Or.inr zf_X9_10) rfl hg1 hv19 dX9_waitOf_41 ?_
      obtain ⟨hg20, hf⟩ := z_g hf
      obtain ⟨r22, hq21, hf⟩ := z_b hf
      refine z_ci hW (z_runV (As := []) (rest := []) B hW zv_X9_133 (K_X2_isTooLate hq21) hg20 rfl rfl rfl (Nat.le_of_ble_eq_true rfl) hl.1 ⟨Nat.le_of_ble_eq_true rfl, Nat.le_of_ble_eq_true rfl⟩ dX9_waitOf_44 ⟨Nat.le_of_ble_eq_true rfl, Nat.le_of_ble_eq_true rfl⟩) (fun H locs hW => ?_)
      refine lv_if_eq (tgt := 60) hx hb dX9_waitOf_47 (by decide) (fun hc47 => ?_) (fun hc47 => ?_)
      · replace hf := z_ip hc47 hf
        refine lv_aload_n hx hb dX9_waitOf_60 rfl (lv_at hl 0 rfl) ?_
        obtain ⟨q23, hv24, hf⟩ := z_nn hf
        refine z_getN B hW (Or.inr zf_X9_16) rfl hg1 hv24 dX9_waitOf_61 ?_
        refine lv_aload_n hx hb dX9_waitOf_64 rfl (lv_at hl 0 rfl) ?_
        obtain ⟨q25, hv26, hf⟩ := z_nn hf
        refine z_getN B hW (Or.inr zf_X9_10) rfl hg1 hv26 dX9_waitOf_65 ?_
        obtain ⟨hg27, hf⟩ := z_g hf
        obtain ⟨σ29, hq28, hf⟩ := z_b hf
        refine z_cv hW (z_runV (As := [.ref q25]) (rest := []) B hW zv_X9_231 (K_X2_copyFrom hq28) hg27 rfl rfl rfl (Nat.le_of_ble_eq_true rfl) hl.1 ⟨Nat.le_of_ble_eq_true rfl, Nat.le_of_ble_eq_true rfl⟩ dX9_waitOf_68 ⟨Nat.le_of_ble_eq_true rfl, Nat.le_of_ble_eq_true rfl⟩) (fun H locs hW => ?_)
        refine lv_iconst (v := (-1 : Int32)) hx hb dX9_waitOf_71 (by decide) ?_
        refine lv_istore_n (lv' := [(2, .int (-1 : Int32)), (0, .ref l0), (1, .int l1)]) hx hb dX9_waitOf_72 rfl hl (by decide) rfl (fun ls hl => ?_)
        refine lv_iconst (v := (0 : Int32)) hx hb dX9_waitOf_73 (by decide) ?_
        refine lv_istore_n (lv' := [(3, .int (0 : Int32)), (2, .int (-1 : Int32)), (0, .ref l0), (1, .int l1)]) hx hb dX9_waitOf_74 rfl hl (by decide) rfl (fun ls hl => ?_)
        unfold f_X9_waitOf_75 at hf
        exact t_X9_waitOf_75 B hst hX htab  zN hf hW (lv_sub hl [2, 3, 1, 0] rfl)
      · replace hf := z_in hc47 hf
        exact t_X9_waitOf_50 B hst hX htab hf hW (lv_sub hl [] rfl) 
  · replace hf := z_ip hc11 hf
    exact z_thr (rest := []) hst B hX htab hW zt_X9_160_180 hl.1 dX9_waitOf_14 dX9_waitOf_17 dX9_waitOf_18 dX9_waitOf_20 dX9_waitOf_23 (Nat.le_of_ble_eq_true rfl) (Nat.le_of_ble_eq_true rfl) (Nat.le_of_ble_eq_true rfl) (Nat.le_of_ble_eq_true rfl) (z_e1 hf) (Nat.le_of_ble_eq_true rfl) (Nat.le_of_ble_eq_true rfl)
set_option maxRecDepth 100000 in
def f_X9_completeAfter_82 (σ : zSt) (s0 : Int32) : Option ((Nat ⊕ Int32) × zSt) :=
(some (.inr s0, σ))
set_option maxRecDepth 20000 in
set_option maxHeartbeats 4000000 in
theorem t_X9_completeAfter_82 (B : z_B p s m args meth c D cA bs RX9 cX9_completeAfter 2 (some .int)) (hst : l.stackTraces = false) (hX : z_X bs s) (htab : ∀ x ∈ c.exceptionTable.toList, False) {out : (Nat ⊕ Int32) × zSt} {σ : zSt} {s0 : Int32} (hf : f_X9_completeAfter_82 σ s0 = some out) {H : Heap} {locs : List Loc} {ls : Array Slot} (hW : z_Ok D cA bs s σ H locs) (hl : lv_has ls 2 [])  : W p l e (zrm 6 1 6 126) s m args below meth c H locs 0 0 (vx_MQ below (z_QX D cA bs out) (z_XX D cA bs out) args s 1 6 (fun q => bs ≤ q)) (F0 m 82 ls [.int s0]) := by
  have hx := B.1
  have hb := B.2.1
  have hown := B.2.2.2.1
  have hts := B.2.2.2.2.1
  unfold f_X9_completeAfter_82 at hf
  exact z_rxi B hW (z_e1 hf) dX9_completeAfter_82 (Nat.le_of_ble_eq_true rfl) (Nat.le_of_ble_eq_true rfl)
set_option maxRecDepth 100000 in
def b_X9_completeAfter_33 (l0 : Nat) (σ : zSt) (l1 : Int32) : Option ((zSt × Int32) ⊕ ((Nat ⊕ Int32) × zSt)) :=
(if (300 : Int32) ≤ l1 then
(zex (if z_ob σ l0 8 then (zc (z_R σ l0 1) none (fun q2 => (if z_ob σ q2 2 then (zb (f_X2_isComplete σ q2) (fun r6 => (if r6 = 0 then
(f_X9_completeAfter_82 σ (-1 : Int32))
else
(f_X9_completeAfter_82 σ (300 : Int32))))) else none))) else none))
else
(if z_ob σ l0 8 then (zc (z_R σ l0 1) none (fun q9 => (if z_ob σ q9 2 then (zb (f_X2_isComplete σ q9) (fun r13 => (if r13 = 0 then
(zc (z_R σ l0 1) none (fun q14 => (zb (f_X8_makeVisit σ q14) (fun σ17 => (some (.inl (σ17, (l1 + (1 : Int32)))))))))
else
(zex (some (.inr l1, σ)))))) else none))) else none))
set_option maxRecDepth 100000 in
def f_X9_completeAfter_33 (l0 : Nat) (σ : zSt) (l1 : Int32) : Option ((Nat ⊕ Int32) × zSt) := zloop (fun (t : zSt × Int32) => b_X9_completeAfter_33 l0 t.1 t.2) zN (σ, l1)
set_option maxRecDepth 20000 in
set_option maxHeartbeats 4000000 in
theorem tb_X9_completeAfter_33 (B : z_B p s m args meth c D cA bs RX9 cX9_completeAfter 2 (some .int)) (hst : l.stackTraces = false) (hX : z_X bs s) (htab : ∀ x ∈ c.exceptionTable.toList, False) {out : (Nat ⊕ Int32) × zSt} {o1 : (zSt × Int32) ⊕ ((Nat ⊕ Int32) × zSt)} {l0 : Nat} {σ : zSt} {l1 : Int32} (hf : b_X9_completeAfter_33 l0 σ l1 = some o1) {H : Heap} {locs : List Loc} {ls : Array Slot} (hW : z_Ok D cA bs s σ H locs) (hl : lv_has ls 2 [(0, .ref l0), (1, .int l1)]) (hk1 : ∀ (σ : zSt) (l1 : Int32), o1 = .inl (σ, l1) → ∀ {H : Heap} {locs : List Loc} {ls : Array Slot}, z_Ok D cA bs s σ H locs → lv_has ls 2 [(0, .ref l0), (1, .int l1)] → W p l e (zrm 6 1 6 126) s m args below meth c H locs 0 0 (vx_MQ below (z_QX D cA bs out) (z_XX D cA bs out) args s 1 6 (fun q => bs ≤ q)) (F0 m 33 ls [])) (hr1 : ∀ x, o1 = .inr x → x = out) : W p l e (zrm 6 1 6 126) s m args below meth c H locs 0 0 (vx_MQ below (z_QX D cA bs out) (z_XX D cA bs out) args s 1 6 (fun q => bs ≤ q)) (F0 m 33 ls []) := by
  have hx := B.1
  have hb := B.2.1
  have hown := B.2.2.2.1
  have hts := B.2.2.2.2.1
  unfold b_X9_completeAfter_33 at hf
  refine lv_iload_n hx hb dX9_completeAfter_33 rfl (lv_at hl 1 rfl) ?_
  refine lv_sipush (v := (300 : Int32)) hx hb dX9_completeAfter_34 (by decide) ?_
  refine lv_icmp_ge (tgt := 65) hx hb dX9_completeAfter_37 (by decide) (fun hc37 => ?_) (fun hc37 => ?_)
  · replace hf := z_ip hc37 hf
    obtain ⟨w1, hf, ho7⟩ := z_x hf
    obtain rfl := hr1 _ ho7
    refine lv_aload_n hx hb dX9_completeAfter_65 rfl (lv_at hl 0 rfl) ?_
    obtain ⟨hg1, hf⟩ := z_g hf
    obtain ⟨q2, hv3, hf⟩ := z_nn hf
    refine z_getN B hW (Or.inr zf_X9_16) rfl hg1 hv3 dX9_completeAfter_66 ?_
    obtain ⟨hg4, hf⟩ := z_g hf
    obtain ⟨r6, hq5, hf⟩ := z_b hf
    refine z_ci hW (z_runV (As := []) (rest := []) B hW zv_X9_234 (K_X2_isComplete hq5) hg4 rfl rfl rfl (Nat.le_of_ble_eq_true rfl) hl.1 ⟨Nat.le_of_ble_eq_true rfl, Nat.le_of_ble_eq_true rfl⟩ dX9_completeAfter_69 ⟨Nat.le_of_ble_eq_true rfl, Nat.le_of_ble_eq_true rfl⟩) (fun H locs hW => ?_)
    refine lv_if_eq (tgt := 81) hx hb dX9_completeAfter_72 (by decide) (fun hc72 => ?_) (fun hc72 => ?_)
    · replace hf := z_ip hc72 hf
      refine lv_iconst (v := (-1 : Int32)) hx hb dX9_completeAfter_81 (by decide) ?_
      exact t_X9_completeAfter_82 B hst hX htab hf hW (lv_sub hl [] rfl) 
    · replace hf := z_in hc72 hf
      refine lv_sipush (v := (300 : Int32)) hx hb dX9_completeAfter_75 (by decide) ?_
      refine lv_goto (tgt := 82) hx hb dX9_completeAfter_78 (by decide) ?_
      exact t_X9_completeAfter_82 B hst hX htab hf hW (lv_sub hl [] rfl) 
  · replace hf := z_in hc37 hf
    refine lv_aload_n hx hb dX9_completeAfter_40 rfl (lv_at hl 0 rfl) ?_
    obtain ⟨hg8, hf⟩ := z_g hf
    obtain ⟨q9, hv10, hf⟩ := z_nn hf
    refine z_getN B hW (Or.inr zf_X9_16) rfl hg8 hv10 dX9_completeAfter_41 ?_
    obtain ⟨hg11, hf⟩ := z_g hf
    obtain ⟨r13, hq12, hf⟩ := z_b hf
    refine z_ci hW (z_runV (As := []) (rest := []) B hW zv_X9_234 (K_X2_isComplete hq12) hg11 rfl rfl rfl (Nat.le_of_ble_eq_true rfl) hl.1 ⟨Nat.le_of_ble_eq_true rfl, Nat.le_of_ble_eq_true rfl⟩ dX9_completeAfter_44 ⟨Nat.le_of_ble_eq_true rfl, Nat.le_of_ble_eq_true rfl⟩) (fun H locs hW => ?_)
    refine lv_if_eq (tgt := 52) hx hb dX9_completeAfter_47 (by decide) (fun hc47 => ?_) (fun hc47 => ?_)
    · replace hf := z_ip hc47 hf
      refine lv_aload_n hx hb dX9_completeAfter_52 rfl (lv_at hl 0 rfl) ?_
      obtain ⟨q14, hv15, hf⟩ := z_nn hf
      refine z_getN B hW (Or.inr zf_X9_16) rfl hg8 hv15 dX9_completeAfter_53 ?_
      obtain ⟨σ17, hq16, hf⟩ := z_b hf
      refine z_cv hW (z_runS (As := [.ref q14]) (rest := []) B hW zv_X9_138 (K_X8_makeVisit hq16) rfl rfl (Nat.le_of_ble_eq_true rfl) hl.1 ⟨Nat.le_of_ble_eq_true rfl, Nat.le_of_ble_eq_true rfl⟩ dX9_completeAfter_56 ⟨Nat.le_of_ble_eq_true rfl, Nat.le_of_ble_eq_true rfl⟩) (fun H locs hW => ?_)
      refine lv_iinc (v := (l1 + (1 : Int32))) (lv' := [(1, .int (l1 + (1 : Int32))), (0, .ref l0)]) hx hb dX9_completeAfter_59 hl (k := 1) rfl rfl (by decide) rfl (fun ls hl => ?_)
      refine lv_goto (tgt := 33) hx hb dX9_completeAfter_62 (by decide) ?_
      exact hk1 _ _ (Option.some.inj hf).symm hW (lv_sub hl [1, 0] rfl)
    · replace hf := z_in hc47 hf
      obtain ⟨w1, hf, ho18⟩ := z_x hf
      obtain rfl := hr1 _ ho18
      refine lv_iload_n hx hb dX9_completeAfter_50 rfl (lv_at hl 1 rfl) ?_
      exact z_rxi B hW (z_e1 hf) dX9_completeAfter_51 (Nat.le_of_ble_eq_true rfl) (Nat.le_of_ble_eq_true rfl)
set_option maxRecDepth 20000 in
set_option maxHeartbeats 4000000 in
theorem t_X9_completeAfter_33 (B : z_B p s m args meth c D cA bs RX9 cX9_completeAfter 2 (some .int)) (hst : l.stackTraces = false) (hX : z_X bs s) (htab : ∀ x ∈ c.exceptionTable.toList, False) {out : (Nat ⊕ Int32) × zSt} {l0 : Nat}  : ∀ (n : Nat) {σ : zSt} {l1 : Int32}, zloop (fun (t : zSt × Int32) => b_X9_completeAfter_33 l0 t.1 t.2) n (σ, l1) = some out → ∀ {H : Heap} {locs : List Loc} {ls : Array Slot}, z_Ok D cA bs s σ H locs → lv_has ls 2 [(0, .ref l0), (1, .int l1)] → W p l e (zrm 6 1 6 126) s m args below meth c H locs 0 0 (vx_MQ below (z_QX D cA bs out) (z_XX D cA bs out) args s 1 6 (fun q => bs ≤ q)) (F0 m 33 ls []) := by
  intro n
  induction n with
  | zero => intro σ l1 hf; cases hf
  | succ n ih =>
    intro σ l1 hf H locs ls hW hl
    obtain ⟨o1, hb1, hf⟩ := z_lp hf
    refine tb_X9_completeAfter_33 B hst hX htab hb1 hW hl  (fun σ l1 he H locs ls hW hl => ?_) (fun x he => ?_)
    · rcases hf with ⟨t, ht, hf⟩ | hf
      · rw [he] at ht
        cases ht
        exact ih hf hW hl
      · rw [he] at hf
        cases hf
    · rcases hf with ⟨t, ht, hf⟩ | hf
      · rw [he] at ht
        cases ht
      · rw [he] at hf
        exact Sum.inr.inj hf
set_option maxRecDepth 100000 in
def f_X9_completeAfter (σ : zSt) (l0 : Nat) : Option ((Nat ⊕ Int32) × zSt) :=
(if z_ob σ l0 8 then (zc (z_R σ l0 0) none (fun q2 => (if z_ob σ q2 2 then (zb (f_X2_isTooLate σ q2) (fun r6 => (if r6 = 0 then
(zc (z_R σ l0 1) none (fun q7 => (zc (z_R σ l0 0) none (fun q9 => (if z_ob σ q7 2 then (zb (f_X2_copyFrom σ q7 q9) (fun σ13 => (f_X9_completeAfter_33 l0 σ13 (0 : Int32)))) else none)))))
else
(some (.inl 1, z_gr σ))))) else none))) else none)
set_option maxRecDepth 20000 in
set_option maxHeartbeats 4000000 in
theorem K_X9_completeAfter (hst : l.stackTraces = false) {σ : zSt} {l0 : Nat} {out : (Nat ⊕ Int32) × zSt} (hf : f_X9_completeAfter σ l0 = some out) : z_MX l D cA bs yX9_completeAfter cX9_completeAfter 2 (some .int) 6 126 1 6 [.ref l0] σ out := by
  refine z_metX (own := RX9) (lv := [(0, .ref l0)]) (by decide) rfl (Nat.le_of_ble_eq_true rfl) rfl (fun p e s m below meth c ls B hX htab hW hl => ?_)
  have hx := B.1
  have hb := B.2.1
  have hown := B.2.2.2.1
  have hts := B.2.2.2.2.1
  unfold f_X9_completeAfter at hf
  refine lv_aload_n hx hb dX9_completeAfter_0 rfl (lv_at hl 0 rfl) ?_
  obtain ⟨hg1, hf⟩ := z_g hf
  obtain ⟨q2, hv3, hf⟩ := z_nn hf
  refine z_getN B hW (Or.inr zf_X9_10) rfl hg1 hv3 dX9_completeAfter_1 ?_
  obtain ⟨hg4, hf⟩ := z_g hf
  obtain ⟨r6, hq5, hf⟩ := z_b hf
  refine z_ci hW (z_runV (As := []) (rest := []) B hW zv_X9_133 (K_X2_isTooLate hq5) hg4 rfl rfl rfl (Nat.le_of_ble_eq_true rfl) hl.1 ⟨Nat.le_of_ble_eq_true rfl, Nat.le_of_ble_eq_true rfl⟩ dX9_completeAfter_4 ⟨Nat.le_of_ble_eq_true rfl, Nat.le_of_ble_eq_true rfl⟩) (fun H locs hW => ?_)
  refine lv_if_eq (tgt := 20) hx hb dX9_completeAfter_7 (by decide) (fun hc7 => ?_) (fun hc7 => ?_)
  · replace hf := z_ip hc7 hf
    refine lv_aload_n hx hb dX9_completeAfter_20 rfl (lv_at hl 0 rfl) ?_
    obtain ⟨q7, hv8, hf⟩ := z_nn hf
    refine z_getN B hW (Or.inr zf_X9_16) rfl hg1 hv8 dX9_completeAfter_21 ?_
    refine lv_aload_n hx hb dX9_completeAfter_24 rfl (lv_at hl 0 rfl) ?_
    obtain ⟨q9, hv10, hf⟩ := z_nn hf
    refine z_getN B hW (Or.inr zf_X9_10) rfl hg1 hv10 dX9_completeAfter_25 ?_
    obtain ⟨hg11, hf⟩ := z_g hf
    obtain ⟨σ13, hq12, hf⟩ := z_b hf
    refine z_cv hW (z_runV (As := [.ref q9]) (rest := []) B hW zv_X9_231 (K_X2_copyFrom hq12) hg11 rfl rfl rfl (Nat.le_of_ble_eq_true rfl) hl.1 ⟨Nat.le_of_ble_eq_true rfl, Nat.le_of_ble_eq_true rfl⟩ dX9_completeAfter_28 ⟨Nat.le_of_ble_eq_true rfl, Nat.le_of_ble_eq_true rfl⟩) (fun H locs hW => ?_)
    refine lv_iconst (v := (0 : Int32)) hx hb dX9_completeAfter_31 (by decide) ?_
    refine lv_istore_n (lv' := [(1, .int (0 : Int32)), (0, .ref l0)]) hx hb dX9_completeAfter_32 rfl hl (by decide) rfl (fun ls hl => ?_)
    unfold f_X9_completeAfter_33 at hf
    exact t_X9_completeAfter_33 B hst hX htab  zN hf hW (lv_sub hl [1, 0] rfl)
  · replace hf := z_in hc7 hf
    exact z_thr (rest := []) hst B hX htab hW zt_X9_49_136 hl.1 dX9_completeAfter_10 dX9_completeAfter_13 dX9_completeAfter_14 dX9_completeAfter_16 dX9_completeAfter_19 (Nat.le_of_ble_eq_true rfl) (Nat.le_of_ble_eq_true rfl) (Nat.le_of_ble_eq_true rfl) (Nat.le_of_ble_eq_true rfl) (z_e1 hf) (Nat.le_of_ble_eq_true rfl) (Nat.le_of_ble_eq_true rfl)
set_option maxRecDepth 100000 in
def b_X9_leastTarget_43 (l0 : Nat) (l1 : Int32) (σ : zSt) (l2 : Int32) : Option ((zSt × Int32) ⊕ ((Nat ⊕ Int32) × zSt)) :=
(if (400 : Int32) < l2 then
(zex (some (.inr (-1 : Int32), σ)))
else
(if z_ob σ l0 8 then (zb2 (f_X9_sendsAll σ l0 l2 l1) (fun r4 σ5 => (if r4 = 0 then
(some (.inl (σ5, (l2 + (20 : Int32)))))
else
(zex (some (.inr l2, σ5)))))) else none))
set_option maxRecDepth 100000 in
def f_X9_leastTarget_43 (l0 : Nat) (l1 : Int32) (σ : zSt) (l2 : Int32) : Option ((Nat ⊕ Int32) × zSt) := zloop (fun (t : zSt × Int32) => b_X9_leastTarget_43 l0 l1 t.1 t.2) zN (σ, l2)
set_option maxRecDepth 20000 in
set_option maxHeartbeats 4000000 in
theorem tb_X9_leastTarget_43 (B : z_B p s m args meth c D cA bs RX9 cX9_leastTarget 3 (some .int)) (hst : l.stackTraces = false) (hX : z_X bs s) (htab : ∀ x ∈ c.exceptionTable.toList, False) {out : (Nat ⊕ Int32) × zSt} {o1 : (zSt × Int32) ⊕ ((Nat ⊕ Int32) × zSt)} {l0 : Nat} {l1 : Int32} {σ : zSt} {l2 : Int32} (hf : b_X9_leastTarget_43 l0 l1 σ l2 = some o1) {H : Heap} {locs : List Loc} {ls : Array Slot} (hW : z_Ok D cA bs s σ H locs) (hl : lv_has ls 3 [(0, .ref l0), (1, .int l1), (2, .int l2)]) (hk1 : ∀ (σ : zSt) (l2 : Int32), o1 = .inl (σ, l2) → ∀ {H : Heap} {locs : List Loc} {ls : Array Slot}, z_Ok D cA bs s σ H locs → lv_has ls 3 [(0, .ref l0), (1, .int l1), (2, .int l2)] → W p l e (zrm 6 1 6 149) s m args below meth c H locs 0 0 (vx_MQ below (z_QX D cA bs out) (z_XX D cA bs out) args s 1 6 (fun q => bs ≤ q)) (F0 m 43 ls [])) (hr1 : ∀ x, o1 = .inr x → x = out) : W p l e (zrm 6 1 6 149) s m args below meth c H locs 0 0 (vx_MQ below (z_QX D cA bs out) (z_XX D cA bs out) args s 1 6 (fun q => bs ≤ q)) (F0 m 43 ls []) := by
  have hx := B.1
  have hb := B.2.1
  have hown := B.2.2.2.1
  have hts := B.2.2.2.2.1
  unfold b_X9_leastTarget_43 at hf
  refine lv_iload_n hx hb dX9_leastTarget_43 rfl (lv_at hl 2 rfl) ?_
  refine lv_sipush (v := (400 : Int32)) hx hb dX9_leastTarget_44 (by decide) ?_
  refine lv_icmp_gt (tgt := 67) hx hb dX9_leastTarget_47 (by decide) (fun hc47 => ?_) (fun hc47 => ?_)
  · replace hf := z_ip hc47 hf
    obtain ⟨w1, hf, ho1⟩ := z_x hf
    obtain rfl := hr1 _ ho1
    refine lv_iconst (v := (-1 : Int32)) hx hb dX9_leastTarget_67 (by decide) ?_
    exact z_rxi B hW (z_e1 hf) dX9_leastTarget_68 (Nat.le_of_ble_eq_true rfl) (Nat.le_of_ble_eq_true rfl)
  · replace hf := z_in hc47 hf
    refine lv_aload_n hx hb dX9_leastTarget_50 rfl (lv_at hl 0 rfl) ?_
    refine lv_iload_n hx hb dX9_leastTarget_51 rfl (lv_at hl 2 rfl) ?_
    refine lv_iload_n hx hb dX9_leastTarget_52 rfl (lv_at hl 1 rfl) ?_
    obtain ⟨hg2, hf⟩ := z_g hf
    obtain ⟨r4, σ5, hq3, hf⟩ := z_b2 hf
    refine z_ci hW (z_runV (As := [.int l2, .int l1]) (rest := []) B hW zv_X9_237 (K_X9_sendsAll hq3) hg2 rfl rfl rfl (Nat.le_of_ble_eq_true rfl) hl.1 ⟨Nat.le_of_ble_eq_true rfl, Nat.le_of_ble_eq_true rfl⟩ dX9_leastTarget_53 ⟨Nat.le_of_ble_eq_true rfl, Nat.le_of_ble_eq_true rfl⟩) (fun H locs hW => ?_)
    refine lv_if_eq (tgt := 61) hx hb dX9_leastTarget_56 (by decide) (fun hc56 => ?_) (fun hc56 => ?_)
    · replace hf := z_ip hc56 hf
      refine lv_iinc (v := (l2 + (20 : Int32))) (lv' := [(2, .int (l2 + (20 : Int32))), (0, .ref l0), (1, .int l1)]) hx hb dX9_leastTarget_61 hl (k := 2) rfl rfl (by decide) rfl (fun ls hl => ?_)
      refine lv_goto (tgt := 43) hx hb dX9_leastTarget_64 (by decide) ?_
      exact hk1 _ _ (Option.some.inj hf).symm hW (lv_sub hl [1, 2, 0] rfl)
    · replace hf := z_in hc56 hf
      obtain ⟨w1, hf, ho6⟩ := z_x hf
      obtain rfl := hr1 _ ho6
      refine lv_iload_n hx hb dX9_leastTarget_59 rfl (lv_at hl 2 rfl) ?_
      exact z_rxi B hW (z_e1 hf) dX9_leastTarget_60 (Nat.le_of_ble_eq_true rfl) (Nat.le_of_ble_eq_true rfl)
set_option maxRecDepth 20000 in
set_option maxHeartbeats 4000000 in
theorem t_X9_leastTarget_43 (B : z_B p s m args meth c D cA bs RX9 cX9_leastTarget 3 (some .int)) (hst : l.stackTraces = false) (hX : z_X bs s) (htab : ∀ x ∈ c.exceptionTable.toList, False) {out : (Nat ⊕ Int32) × zSt} {l0 : Nat} {l1 : Int32}  : ∀ (n : Nat) {σ : zSt} {l2 : Int32}, zloop (fun (t : zSt × Int32) => b_X9_leastTarget_43 l0 l1 t.1 t.2) n (σ, l2) = some out → ∀ {H : Heap} {locs : List Loc} {ls : Array Slot}, z_Ok D cA bs s σ H locs → lv_has ls 3 [(0, .ref l0), (1, .int l1), (2, .int l2)] → W p l e (zrm 6 1 6 149) s m args below meth c H locs 0 0 (vx_MQ below (z_QX D cA bs out) (z_XX D cA bs out) args s 1 6 (fun q => bs ≤ q)) (F0 m 43 ls []) := by
  intro n
  induction n with
  | zero => intro σ l2 hf; cases hf
  | succ n ih =>
    intro σ l2 hf H locs ls hW hl
    obtain ⟨o1, hb1, hf⟩ := z_lp hf
    refine tb_X9_leastTarget_43 B hst hX htab hb1 hW hl  (fun σ l2 he H locs ls hW hl => ?_) (fun x he => ?_)
    · rcases hf with ⟨t, ht, hf⟩ | hf
      · rw [he] at ht
        cases ht
        exact ih hf hW hl
      · rw [he] at hf
        cases hf
    · rcases hf with ⟨t, ht, hf⟩ | hf
      · rw [he] at ht
        cases ht
      · rw [he] at hf
        exact Sum.inr.inj hf
set_option maxRecDepth 100000 in
def f_X9_leastTarget (σ : zSt) (l0 : Nat) (l1 : Int32) : Option ((Nat ⊕ Int32) × zSt) :=
(zb (f_X9_isWithin σ l1 (0 : Int32) (100 : Int32)) (fun r2 => (if r2 = 0 then
(some (.inl 0, z_gr σ))
else
(if z_ob σ l0 8 then (zc (z_R σ l0 0) none (fun q4 => (if z_ob σ q4 2 then (zb (f_X2_isTooLate σ q4) (fun r8 => (if r8 = 0 then
(f_X9_leastTarget_43 l0 l1 σ (20 : Int32))
else
(some (.inl 1, z_gr σ))))) else none))) else none))))
set_option maxRecDepth 20000 in
set_option maxHeartbeats 4000000 in
theorem K_X9_leastTarget (hst : l.stackTraces = false) {σ : zSt} {l0 : Nat} {l1 : Int32} {out : (Nat ⊕ Int32) × zSt} (hf : f_X9_leastTarget σ l0 l1 = some out) : z_MX l D cA bs yX9_leastTarget cX9_leastTarget 3 (some .int) 6 149 1 6 [.ref l0, .int l1] σ out := by
  refine z_metX (own := RX9) (lv := [(0, .ref l0), (1, .int l1)]) (by decide) rfl (Nat.le_of_ble_eq_true rfl) rfl (fun p e s m below meth c ls B hX htab hW hl => ?_)
  have hx := B.1
  have hb := B.2.1
  have hown := B.2.2.2.1
  have hts := B.2.2.2.2.1
  unfold f_X9_leastTarget at hf
  refine lv_iload_n hx hb dX9_leastTarget_0 rfl (lv_at hl 1 rfl) ?_
  refine lv_iconst (v := (0 : Int32)) hx hb dX9_leastTarget_1 (by decide) ?_
  refine lv_bipush (v := (100 : Int32)) hx hb dX9_leastTarget_2 (by decide) ?_
  obtain ⟨r2, hq1, hf⟩ := z_b hf
  refine z_ci hW (z_runS (As := [.int l1, .int (0 : Int32), .int (100 : Int32)]) (rest := []) B hW zv_X9_80 (K_X9_isWithin hq1) rfl rfl (Nat.le_of_ble_eq_true rfl) hl.1 ⟨Nat.le_of_ble_eq_true rfl, Nat.le_of_ble_eq_true rfl⟩ dX9_leastTarget_4 ⟨Nat.le_of_ble_eq_true rfl, Nat.le_of_ble_eq_true rfl⟩) (fun H locs hW => ?_)
  refine lv_if_ne (tgt := 20) hx hb dX9_leastTarget_7 (by decide) (fun hc7 => ?_) (fun hc7 => ?_)
  · replace hf := z_in hc7 hf
    refine lv_aload_n hx hb dX9_leastTarget_20 rfl (lv_at hl 0 rfl) ?_
    obtain ⟨hg3, hf⟩ := z_g hf
    obtain ⟨q4, hv5, hf⟩ := z_nn hf
    refine z_getN B hW (Or.inr zf_X9_10) rfl hg3 hv5 dX9_leastTarget_21 ?_
    obtain ⟨hg6, hf⟩ := z_g hf
    obtain ⟨r8, hq7, hf⟩ := z_b hf
    refine z_ci hW (z_runV (As := []) (rest := []) B hW zv_X9_133 (K_X2_isTooLate hq7) hg6 rfl rfl rfl (Nat.le_of_ble_eq_true rfl) hl.1 ⟨Nat.le_of_ble_eq_true rfl, Nat.le_of_ble_eq_true rfl⟩ dX9_leastTarget_24 ⟨Nat.le_of_ble_eq_true rfl, Nat.le_of_ble_eq_true rfl⟩) (fun H locs hW => ?_)
    refine lv_if_eq (tgt := 40) hx hb dX9_leastTarget_27 (by decide) (fun hc27 => ?_) (fun hc27 => ?_)
    · replace hf := z_ip hc27 hf
      refine lv_bipush (v := (20 : Int32)) hx hb dX9_leastTarget_40 (by decide) ?_
      refine lv_istore_n (lv' := [(2, .int (20 : Int32)), (0, .ref l0), (1, .int l1)]) hx hb dX9_leastTarget_42 rfl hl (by decide) rfl (fun ls hl => ?_)
      unfold f_X9_leastTarget_43 at hf
      exact t_X9_leastTarget_43 B hst hX htab  zN hf hW (lv_sub hl [1, 2, 0] rfl)
    · replace hf := z_in hc27 hf
      exact z_thr (rest := []) hst B hX htab hW zt_X9_49_136 hl.1 dX9_leastTarget_30 dX9_leastTarget_33 dX9_leastTarget_34 dX9_leastTarget_36 dX9_leastTarget_39 (Nat.le_of_ble_eq_true rfl) (Nat.le_of_ble_eq_true rfl) (Nat.le_of_ble_eq_true rfl) (Nat.le_of_ble_eq_true rfl) (z_e1 hf) (Nat.le_of_ble_eq_true rfl) (Nat.le_of_ble_eq_true rfl)
  · replace hf := z_ip hc7 hf
    exact z_thr (rest := []) hst B hX htab hW zt_X9_34_131 hl.1 dX9_leastTarget_10 dX9_leastTarget_13 dX9_leastTarget_14 dX9_leastTarget_16 dX9_leastTarget_19 (Nat.le_of_ble_eq_true rfl) (Nat.le_of_ble_eq_true rfl) (Nat.le_of_ble_eq_true rfl) (Nat.le_of_ble_eq_true rfl) (z_e1 hf) (Nat.le_of_ble_eq_true rfl) (Nat.le_of_ble_eq_true rfl)
set_option maxRecDepth 100000 in
def f_X9_append (σ : zSt) (l0 : Nat) (l1 : Int32) : Option ((Nat ⊕ Int32) × zSt) :=
(zb (f_X9_isWithin σ l1 (0 : Int32) (127 : Int32)) (fun r2 => (if r2 = 0 then
(some (.inl 0, z_gr σ))
else
(if z_ob σ l0 8 then (zc (z_R σ l0 3) none (fun q4 => (if z_ar σ q4 1 then (zb (f_X9_isWithin σ (z_I σ l0 4) (0 : Int32) ((Int32.ofNat (z_ln σ q4)) - (1 : Int32))) (fun r8 => (if r8 = 0 then
(some (.inl 1, z_gr σ))
else
(zc (z_R σ l0 3) none (fun q9 => (if z_ar σ q9 1 then (if z_ix (z_I σ l0 4) (z_ln σ q9) then (zl (z_pI σ q9 (z_I σ l0 4).toNatClampNeg (vp_nar .byte l1.toInt8.toInt32)) (fun σ13 => (if z_ob σ13 l0 8 then (zl (z_pI σ13 l0 4 ((z_I σ13 l0 4) + (1 : Int32))) (fun σ16 => (if z_ob σ16 l0 8 then (some (.inr (z_I σ16 l0 4), σ16)) else none))) else none))) else none) else none)))))) else none))) else none))))
set_option maxRecDepth 20000 in
set_option maxHeartbeats 4000000 in
theorem K_X9_append (hst : l.stackTraces = false) {σ : zSt} {l0 : Nat} {l1 : Int32} {out : (Nat ⊕ Int32) × zSt} (hf : f_X9_append σ l0 l1 = some out) : z_MX l D cA bs yX9_append cX9_append 2 (some .int) 6 100 1 6 [.ref l0, .int l1] σ out := by
  refine z_metX (own := RX9) (lv := [(0, .ref l0), (1, .int l1)]) (by decide) rfl (Nat.le_of_ble_eq_true rfl) rfl (fun p e s m below meth c ls B hX htab hW hl => ?_)
  have hx := B.1
  have hb := B.2.1
  have hown := B.2.2.2.1
  have hts := B.2.2.2.2.1
  unfold f_X9_append at hf
  refine lv_iload_n hx hb dX9_append_0 rfl (lv_at hl 1 rfl) ?_
  refine lv_iconst (v := (0 : Int32)) hx hb dX9_append_1 (by decide) ?_
  refine lv_bipush (v := (127 : Int32)) hx hb dX9_append_2 (by decide) ?_
  obtain ⟨r2, hq1, hf⟩ := z_b hf
  refine z_ci hW (z_runS (As := [.int l1, .int (0 : Int32), .int (127 : Int32)]) (rest := []) B hW zv_X9_80 (K_X9_isWithin hq1) rfl rfl (Nat.le_of_ble_eq_true rfl) hl.1 ⟨Nat.le_of_ble_eq_true rfl, Nat.le_of_ble_eq_true rfl⟩ dX9_append_4 ⟨Nat.le_of_ble_eq_true rfl, Nat.le_of_ble_eq_true rfl⟩) (fun H locs hW => ?_)
  refine lv_if_ne (tgt := 20) hx hb dX9_append_7 (by decide) (fun hc7 => ?_) (fun hc7 => ?_)
  · replace hf := z_in hc7 hf
    refine lv_aload_n hx hb dX9_append_20 rfl (lv_at hl 0 rfl) ?_
    obtain ⟨hg3, hf⟩ := z_g hf
    refine z_getI B hW (Or.inl zf_X9_242) rfl hg3 dX9_append_21 ?_
    refine lv_iconst (v := (0 : Int32)) hx hb dX9_append_24 (by decide) ?_
    refine lv_aload_n hx hb dX9_append_25 rfl (lv_at hl 0 rfl) ?_
    obtain ⟨q4, hv5, hf⟩ := z_nn hf
    refine z_getN B hW (Or.inr zf_X9_26) rfl hg3 hv5 dX9_append_26 ?_
    obtain ⟨hg6, hf⟩ := z_g hf
    refine z_alen (t := 1) (by decide) B hW hg6 dX9_append_29 ?_
    refine lv_iconst (v := (1 : Int32)) hx hb dX9_append_30 (by decide) ?_
    refine lv_isub hx hb dX9_append_31 ?_
    obtain ⟨r8, hq7, hf⟩ := z_b hf
    refine z_ci hW (z_runS (As := [.int (z_I σ l0 4), .int (0 : Int32), .int ((Int32.ofNat (z_ln σ q4)) - (1 : Int32))]) (rest := []) B hW zv_X9_80 (K_X9_isWithin hq7) rfl rfl (Nat.le_of_ble_eq_true rfl) hl.1 ⟨Nat.le_of_ble_eq_true rfl, Nat.le_of_ble_eq_true rfl⟩ dX9_append_32 ⟨Nat.le_of_ble_eq_true rfl, Nat.le_of_ble_eq_true rfl⟩) (fun H locs hW => ?_)
    refine lv_if_ne (tgt := 48) hx hb dX9_append_35 (by decide) (fun hc35 => ?_) (fun hc35 => ?_)
    · replace hf := z_in hc35 hf
      refine lv_aload_n hx hb dX9_append_48 rfl (lv_at hl 0 rfl) ?_
      obtain ⟨q9, hv10, hf⟩ := z_nn hf
      refine z_getN B hW (Or.inr zf_X9_26) rfl hg3 hv10 dX9_append_49 ?_
      refine lv_aload_n hx hb dX9_append_52 rfl (lv_at hl 0 rfl) ?_
      refine z_getI B hW (Or.inl zf_X9_242) rfl hg3 dX9_append_53 ?_
      refine lv_iload_n hx hb dX9_append_56 rfl (lv_at hl 1 rfl) ?_
      refine lv_i2b (v := l1.toInt8.toInt32) hx hb dX9_append_57 rfl ?_
      obtain ⟨hg11, hf⟩ := z_g hf
      obtain ⟨hg12, hf⟩ := z_g hf
      obtain ⟨σ13, hs14, hf⟩ := z_l hf
      refine z_bast B hW hg11 hg12 hs14 dX9_append_58 (fun H locs hW => ?_)
      refine lv_aload_n hx hb dX9_append_59 rfl (lv_at hl 0 rfl) ?_
      refine lv_dup hx hb dX9_append_60 rfl ?_
      obtain ⟨hg15, hf⟩ := z_g hf
      refine z_getI B hW (Or.inl zf_X9_242) rfl hg15 dX9_append_61 ?_
      refine lv_iconst (v := (1 : Int32)) hx hb dX9_append_64 (by decide) ?_
      refine lv_iadd hx hb dX9_append_65 ?_
      obtain ⟨σ16, hs17, hf⟩ := z_l hf
      refine z_putI B hW zf_X9_242 hg15 rfl hs17 dX9_append_66 (fun H locs hW => ?_)
      refine lv_aload_n hx hb dX9_append_69 rfl (lv_at hl 0 rfl) ?_
      obtain ⟨hg18, hf⟩ := z_g hf
      refine z_getI B hW (Or.inl zf_X9_242) rfl hg18 dX9_append_70 ?_
      exact z_rxi B hW (z_e1 hf) dX9_append_73 (Nat.le_of_ble_eq_true rfl) (Nat.le_of_ble_eq_true rfl)
    · replace hf := z_ip hc35 hf
      exact z_thr (rest := []) hst B hX htab hW zt_X9_49_245 hl.1 dX9_append_38 dX9_append_41 dX9_append_42 dX9_append_44 dX9_append_47 (Nat.le_of_ble_eq_true rfl) (Nat.le_of_ble_eq_true rfl) (Nat.le_of_ble_eq_true rfl) (Nat.le_of_ble_eq_true rfl) (z_e1 hf) (Nat.le_of_ble_eq_true rfl) (Nat.le_of_ble_eq_true rfl)
  · replace hf := z_ip hc7 hf
    exact z_thr (rest := []) hst B hX htab hW zt_X9_34_240 hl.1 dX9_append_10 dX9_append_13 dX9_append_14 dX9_append_16 dX9_append_19 (Nat.le_of_ble_eq_true rfl) (Nat.le_of_ble_eq_true rfl) (Nat.le_of_ble_eq_true rfl) (Nat.le_of_ble_eq_true rfl) (z_e1 hf) (Nat.le_of_ble_eq_true rfl) (Nat.le_of_ble_eq_true rfl)
set_option maxRecDepth 100000 in
def f_X9_undo (σ : zSt) (l0 : Nat) : Option ((Nat ⊕ Int32) × zSt) :=
(if z_ob σ l0 8 then (zc (z_R σ l0 2) none (fun q2 => (if z_ob σ q2 1 then (if (z_I σ q2 1) = 0 then
(some (.inl 1, z_gr σ))
else
(zc (z_R σ l0 2) none (fun q5 => (zc (z_R σ l0 0) none (fun q7 => (if z_ob σ q5 1 then (zb (f_X1_restore σ q5 q7) (fun σ11 => (if z_ob σ11 l0 8 then (zc (z_R σ11 l0 2) none (fun q13 => (if z_ob σ11 q13 1 then (some (.inr (z_I σ11 q13 1), σ11)) else none))) else none))) else none)))))) else none))) else none)
set_option maxRecDepth 20000 in
set_option maxHeartbeats 4000000 in
theorem K_X9_undo (hst : l.stackTraces = false) {σ : zSt} {l0 : Nat} {out : (Nat ⊕ Int32) × zSt} (hf : f_X9_undo σ l0 = some out) : z_MX l D cA bs yX9_undo cX9_undo 1 (some .int) 6 148 1 6 [.ref l0] σ out := by
  refine z_metX (own := RX9) (lv := [(0, .ref l0)]) (by decide) rfl (Nat.le_of_ble_eq_true rfl) rfl (fun p e s m below meth c ls B hX htab hW hl => ?_)
  have hx := B.1
  have hb := B.2.1
  have hown := B.2.2.2.1
  have hts := B.2.2.2.2.1
  unfold f_X9_undo at hf
  refine lv_aload_n hx hb dX9_undo_0 rfl (lv_at hl 0 rfl) ?_
  obtain ⟨hg1, hf⟩ := z_g hf
  obtain ⟨q2, hv3, hf⟩ := z_nn hf
  refine z_getN B hW (Or.inr zf_X9_22) rfl hg1 hv3 dX9_undo_1 ?_
  obtain ⟨hg4, hf⟩ := z_g hf
  refine z_getI B hW (Or.inl zf_X9_264) rfl hg4 dX9_undo_4 ?_
  refine lv_if_ne (tgt := 21) hx hb dX9_undo_7 (by decide) (fun hc7 => ?_) (fun hc7 => ?_)
  · replace hf := z_in hc7 hf
    refine lv_aload_n hx hb dX9_undo_21 rfl (lv_at hl 0 rfl) ?_
    obtain ⟨q5, hv6, hf⟩ := z_nn hf
    refine z_getN B hW (Or.inr zf_X9_22) rfl hg1 hv6 dX9_undo_22 ?_
    refine lv_aload_n hx hb dX9_undo_25 rfl (lv_at hl 0 rfl) ?_
    obtain ⟨q7, hv8, hf⟩ := z_nn hf
    refine z_getN B hW (Or.inr zf_X9_10) rfl hg1 hv8 dX9_undo_26 ?_
    obtain ⟨hg9, hf⟩ := z_g hf
    obtain ⟨σ11, hq10, hf⟩ := z_b hf
    refine z_cv hW (z_runV (As := [.ref q7]) (rest := []) B hW zv_X9_269 (K_X1_restore hq10) hg9 rfl rfl rfl (Nat.le_of_ble_eq_true rfl) hl.1 ⟨Nat.le_of_ble_eq_true rfl, Nat.le_of_ble_eq_true rfl⟩ dX9_undo_29 ⟨Nat.le_of_ble_eq_true rfl, Nat.le_of_ble_eq_true rfl⟩) (fun H locs hW => ?_)
    refine lv_aload_n hx hb dX9_undo_32 rfl (lv_at hl 0 rfl) ?_
    obtain ⟨hg12, hf⟩ := z_g hf
    obtain ⟨q13, hv14, hf⟩ := z_nn hf
    refine z_getN B hW (Or.inr zf_X9_22) rfl hg12 hv14 dX9_undo_33 ?_
    obtain ⟨hg15, hf⟩ := z_g hf
    refine z_getI B hW (Or.inl zf_X9_264) rfl hg15 dX9_undo_36 ?_
    exact z_rxi B hW (z_e1 hf) dX9_undo_39 (Nat.le_of_ble_eq_true rfl) (Nat.le_of_ble_eq_true rfl)
  · replace hf := z_ip hc7 hf
    exact z_thrW (rest := []) hst B hX htab hW zt_X9_49_267 hl.1 dX9_undo_10 dX9_undo_13 dX9_undo_14 dX9_undo_17 dX9_undo_20 (Nat.le_of_ble_eq_true rfl) (Nat.le_of_ble_eq_true rfl) (Nat.le_of_ble_eq_true rfl) (Nat.le_of_ble_eq_true rfl) (z_e1 hf) (Nat.le_of_ble_eq_true rfl) (Nat.le_of_ble_eq_true rfl)
end GEN
