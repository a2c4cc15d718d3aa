section GEN
variable {p : Program} {l : Launch} {e : Env} {s : State} {m : MethodId} {args : Array Value} {below : List Frame} {meth : Method} {c : Code} {D : va_G} {cA : Nat → ClassId} {bs : Nat}
set_option maxRecDepth 100000 in
def f_X9_init (σ : zSt) (l0 : Nat) : Option (zSt) :=
(zl (z_nw σ (.inl 2)) (fun σ1 => (zb (f_X2_init σ1 (z_nx σ)) (fun σ4 => (if z_ob σ4 l0 8 then (zl (z_pR σ4 l0 0 (some (z_nx σ))) (fun σ6 => (zl (z_nw σ6 (.inl 2)) (fun σ8 => (zb (f_X2_init σ8 (z_nx σ6)) (fun σ11 => (if z_ob σ11 l0 8 then (zl (z_pR σ11 l0 1 (some (z_nx σ6))) (fun σ13 => (zl (z_nw σ13 (.inl 1)) (fun σ15 => (zb (f_X1_init σ15 (z_nx σ13)) (fun σ18 => (if z_ob σ18 l0 8 then (zl (z_pR σ18 l0 2 (some (z_nx σ13))) (fun σ20 => (zl (z_nw σ20 (.inr (1, 120))) (fun σ22 => (if z_ob σ22 l0 8 then (zl (z_pR σ22 l0 3 (some (z_nx σ20))) (fun σ25 => (some σ25))) else none))))) else none))))))) else none))))))) else none)))))
set_option maxRecDepth 20000 in
set_option maxHeartbeats 4000000 in
theorem K_X9_init {σ : zSt} {l0 : Nat}  {σ' : zSt} (hf : f_X9_init σ l0 = some σ') : z_M l D cA bs yX9_init cX9_init 1 none 5 109 143 9639 [.ref l0] σ (z_Qv D cA bs σ') := by
  refine z_met (own := RX9) (lv := [(0, .ref l0)]) (by decide) rfl (Nat.le_of_ble_eq_true rfl) rfl (fun p e s m below meth c ls B hnm hW hl => ?_)
  have hx := B.1
  have hb := B.2.1
  have hown := B.2.2.2.1
  have hts := B.2.2.2.2.1
  unfold f_X9_init at hf
  refine lv_aload_n hx hb dX9_init_0 rfl (lv_at hl 0 rfl) ?_
  refine W.objInit hx hb hown (hts _ zoi_X9_1) (hts _ zoi_a) (hts _ zoi_b) rfl (by rw [B.2.2.1]; exact hl.1) rfl dX9_init_1 (Nat.le_of_ble_eq_true rfl) (Nat.le_of_ble_eq_true rfl) ?_
  refine W.eq (g2 := F0 m 4 ls []) rfl ?_
  refine lv_aload_n hx hb dX9_init_4 rfl (lv_at hl 0 rfl) ?_
  obtain ⟨σ1, hs2, hf⟩ := z_l hf
  refine z_newOb B hW zw_X9_7 hs2 (Nat.le_of_ble_eq_true rfl) (Nat.le_of_ble_eq_true rfl) dX9_init_5 (fun H hW => ?_)
  refine lv_dup hx hb dX9_init_8 rfl ?_
  obtain ⟨σ4, hq3, hf⟩ := z_b hf
  refine z_cv hW (z_runI (As := []) (rest := [.ref (z_nx σ), .ref l0]) B hW zv_X9_9 (K_X2_init hq3) rfl rfl (Nat.le_of_ble_eq_true rfl) hl.1 ⟨Nat.le_of_ble_eq_true rfl, Nat.le_of_ble_eq_true rfl⟩ dX9_init_9 ⟨Nat.le_of_ble_eq_true rfl, Nat.le_of_ble_eq_true rfl⟩) (fun H locs hW => ?_)
  obtain ⟨hg5, hf⟩ := z_g hf
  obtain ⟨σ6, hs7, hf⟩ := z_l hf
  refine z_putRF B hnm hW zf_X9_10 (fun C T h => by cases h; rfl) rfl hg5 (v := (some (z_nx σ))) hs7 dX9_init_12 (fun H locs hW => ?_)
  refine lv_aload_n hx hb dX9_init_15 rfl (lv_at hl 0 rfl) ?_
  obtain ⟨σ8, hs9, hf⟩ := z_l hf
  refine z_newOb B hW zw_X9_7 hs9 (Nat.le_of_ble_eq_true rfl) (Nat.le_of_ble_eq_true rfl) dX9_init_16 (fun H hW => ?_)
  refine lv_dup hx hb dX9_init_19 rfl ?_
  obtain ⟨σ11, hq10, hf⟩ := z_b hf
  refine z_cv hW (z_runI (As := []) (rest := [.ref (z_nx σ6), .ref l0]) B hW zv_X9_9 (K_X2_init hq10) rfl rfl (Nat.le_of_ble_eq_true rfl) hl.1 ⟨Nat.le_of_ble_eq_true rfl, Nat.le_of_ble_eq_true rfl⟩ dX9_init_20 ⟨Nat.le_of_ble_eq_true rfl, Nat.le_of_ble_eq_true rfl⟩) (fun H locs hW => ?_)
  obtain ⟨hg12, hf⟩ := z_g hf
  obtain ⟨σ13, hs14, hf⟩ := z_l hf
  refine z_putRF B hnm hW zf_X9_16 (fun C T h => by cases h; rfl) rfl hg12 (v := (some (z_nx σ6))) hs14 dX9_init_23 (fun H locs hW => ?_)
  refine lv_aload_n hx hb dX9_init_26 rfl (lv_at hl 0 rfl) ?_
  obtain ⟨σ15, hs16, hf⟩ := z_l hf
  refine z_newOb B hW zw_X9_19 hs16 (Nat.le_of_ble_eq_true rfl) (Nat.le_of_ble_eq_true rfl) dX9_init_27 (fun H hW => ?_)
  refine lv_dup hx hb dX9_init_30 rfl ?_
  obtain ⟨σ18, hq17, hf⟩ := z_b hf
  refine z_cv hW (z_runI (As := []) (rest := [.ref (z_nx σ13), .ref l0]) B hW zv_X9_21 (K_X1_init hq17) rfl rfl (Nat.le_of_ble_eq_true rfl) hl.1 ⟨Nat.le_of_ble_eq_true rfl, Nat.le_of_ble_eq_true rfl⟩ dX9_init_31 ⟨Nat.le_of_ble_eq_true rfl, Nat.le_of_ble_eq_true rfl⟩) (fun H locs hW => ?_)
  obtain ⟨hg19, hf⟩ := z_g hf
  obtain ⟨σ20, hs21, hf⟩ := z_l hf
  refine z_putRF B hnm hW zf_X9_22 (fun C T h => by cases h; rfl) rfl hg19 (v := (some (z_nx σ13))) hs21 dX9_init_34 (fun H locs hW => ?_)
  refine lv_aload_n hx hb dX9_init_37 rfl (lv_at hl 0 rfl) ?_
  refine lv_bipush (v := (120 : Int32)) hx hb dX9_init_38 (by decide) ?_
  obtain ⟨σ22, hs23, hf⟩ := z_l hf
  refine z_newA (atype := .byte) B hW (by decide) zac_byte (N := 120) (by decide) (by decide) (by decide) hs23 (Nat.le_of_ble_eq_true rfl) (Nat.le_of_ble_eq_true rfl) dX9_init_40 (fun H hW => ?_)
  obtain ⟨hg24, hf⟩ := z_g hf
  obtain ⟨σ25, hs26, hf⟩ := z_l hf
  refine z_putRF B hnm hW zf_X9_26 (fun C T h => by cases h; rfl) rfl hg24 (v := (some (z_nx σ20))) hs26 dX9_init_42 (fun H locs hW => ?_)
  obtain rfl := z_e1 hf
  exact z_rv B hW dX9_init_45 (Nat.le_of_ble_eq_true rfl) (Nat.le_of_ble_eq_true rfl)
set_option maxRecDepth 100000 in
def f_X9_isWithin_15 (σ : zSt) (s0 : Int32) : Option (Int32) :=
(if z_bl s0 then (some s0) else none)
set_option maxRecDepth 20000 in
set_option maxHeartbeats 4000000 in
theorem t_X9_isWithin_15 (B : z_B p s m args meth c D cA bs RX9 cX9_isWithin 3 (some .boolean)) {r : Int32} {σ : zSt} {s0 : Int32} (hf : f_X9_isWithin_15 σ s0 = some r) {H : Heap} {locs : List Loc} {ls : Array Slot} (hW : z_Ok D cA bs s σ H locs) (hl : lv_has ls 3 [])  : W p l e (zrm 0 0 0 0) s m args below meth c H locs 0 0 (MQ below (z_Qi D cA bs r σ) args s 0 0 (fun q => bs ≤ q)) (F0 m 15 ls [.int s0]) := by
  have hx := B.1
  have hb := B.2.1
  have hown := B.2.2.2.1
  have hts := B.2.2.2.2.1
  unfold f_X9_isWithin_15 at hf
  obtain ⟨hg1, hf⟩ := z_g hf
  obtain rfl := z_e1 hf
  exact z_rz hg1 B hW dX9_isWithin_15 (Nat.le_of_ble_eq_true rfl) (Nat.le_of_ble_eq_true rfl)
set_option maxRecDepth 100000 in
def f_X9_isWithin_14 (σ : zSt) : Option (Int32) :=
(f_X9_isWithin_15 σ (0 : Int32))
set_option maxRecDepth 20000 in
set_option maxHeartbeats 4000000 in
theorem t_X9_isWithin_14 (B : z_B p s m args meth c D cA bs RX9 cX9_isWithin 3 (some .boolean)) {r : Int32} {σ : zSt} (hf : f_X9_isWithin_14 σ = some r) {H : Heap} {locs : List Loc} {ls : Array Slot} (hW : z_Ok D cA bs s σ H locs) (hl : lv_has ls 3 [])  : W p l e (zrm 0 0 0 0) s m args below meth c H locs 0 0 (MQ below (z_Qi D cA bs r σ) args s 0 0 (fun q => bs ≤ q)) (F0 m 14 ls []) := by
  have hx := B.1
  have hb := B.2.1
  have hown := B.2.2.2.1
  have hts := B.2.2.2.2.1
  unfold f_X9_isWithin_14 at hf
  refine lv_iconst (v := (0 : Int32)) hx hb dX9_isWithin_14 (by decide) ?_
  exact t_X9_isWithin_15 B hf hW hl 
set_option maxRecDepth 100000 in
def f_X9_isWithin (σ : zSt) (l0 : Int32) (l1 : Int32) (l2 : Int32) : Option (Int32) :=
(if l0 < l1 then
(f_X9_isWithin_14 σ)
else
(if l2 < l0 then
(f_X9_isWithin_14 σ)
else
(f_X9_isWithin_15 σ (1 : Int32))))
set_option maxRecDepth 20000 in
set_option maxHeartbeats 4000000 in
theorem K_X9_isWithin {σ : zSt} {l0 : Int32} {l1 : Int32} {l2 : Int32} {r : Int32} (hf : f_X9_isWithin σ l0 l1 l2 = some r) : z_M l D cA bs yX9_isWithin cX9_isWithin 3 (some .boolean) 0 0 0 0 [.int l0, .int l1, .int l2] σ (z_Qi D cA bs r σ) := by
  refine z_met (own := RX9) (lv := [(0, .int l0), (1, .int l1), (2, .int l2)]) (by decide) rfl (Nat.le_of_ble_eq_true rfl) rfl (fun p e s m below meth c ls B hnm hW hl => ?_)
  have hx := B.1
  have hb := B.2.1
  have hown := B.2.2.2.1
  have hts := B.2.2.2.2.1
  unfold f_X9_isWithin at hf
  refine lv_iload_n hx hb dX9_isWithin_0 rfl (lv_at hl 0 rfl) ?_
  refine lv_iload_n hx hb dX9_isWithin_1 rfl (lv_at hl 1 rfl) ?_
  refine lv_icmp_lt (tgt := 14) hx hb dX9_isWithin_2 (by decide) (fun hc2 => ?_) (fun hc2 => ?_)
  · replace hf := z_ip hc2 hf
    exact t_X9_isWithin_14 B hf hW (lv_sub hl [] rfl) 
  · replace hf := z_in hc2 hf
    refine lv_iload_n hx hb dX9_isWithin_5 rfl (lv_at hl 0 rfl) ?_
    refine lv_iload_n hx hb dX9_isWithin_6 rfl (lv_at hl 2 rfl) ?_
    refine lv_icmp_gt (tgt := 14) hx hb dX9_isWithin_7 (by decide) (fun hc7 => ?_) (fun hc7 => ?_)
    · replace hf := z_ip hc7 hf
      exact t_X9_isWithin_14 B hf hW (lv_sub hl [] rfl) 
    · replace hf := z_in hc7 hf
      refine lv_iconst (v := (1 : Int32)) hx hb dX9_isWithin_10 (by decide) ?_
      refine lv_goto (tgt := 15) hx hb dX9_isWithin_11 (by decide) ?_
      exact t_X9_isWithin_15 B hf hW (lv_sub hl [] rfl) 
set_option maxRecDepth 100000 in
def f_X9_isAddress (σ : zSt) (l0 : Int32) : Option (Int32) :=
(zb (f_X9_isWithin σ l0 (0 : Int32) (31 : Int32)) (fun r2 => (if z_bl r2 then (some r2) else none)))
set_option maxRecDepth 20000 in
set_option maxHeartbeats 4000000 in
theorem K_X9_isAddress {σ : zSt} {l0 : Int32} {r : Int32} (hf : f_X9_isAddress σ l0 = some r) : z_M l D cA bs yX9_isAddress cX9_isAddress 1 (some .boolean) 1 22 0 0 [.int l0] σ (z_Qi D cA bs r σ) := by
  refine z_met (own := RX9) (lv := [(0, .int l0)]) (by decide) rfl (Nat.le_of_ble_eq_true rfl) rfl (fun p e s m below meth c ls B hnm hW hl => ?_)
  have hx := B.1
  have hb := B.2.1
  have hown := B.2.2.2.1
  have hts := B.2.2.2.2.1
  unfold f_X9_isAddress at hf
  refine lv_iload_n hx hb dX9_isAddress_0 rfl (lv_at hl 0 rfl) ?_
  refine lv_iconst (v := (0 : Int32)) hx hb dX9_isAddress_1 (by decide) ?_
  refine lv_bipush (v := (31 : Int32)) hx hb dX9_isAddress_2 (by decide) ?_
  obtain ⟨r2, hq1, hf⟩ := z_b hf
  refine z_ci hW (z_runS (As := [.int l0, .int (0 : Int32), .int (31 : Int32)]) (rest := []) B hW zv_X9_80 (K_X9_isWithin hq1) rfl rfl (Nat.le_of_ble_eq_true rfl) hl.1 ⟨Nat.le_of_ble_eq_true rfl, Nat.le_of_ble_eq_true rfl⟩ dX9_isAddress_4 ⟨Nat.le_of_ble_eq_true rfl, Nat.le_of_ble_eq_true rfl⟩) (fun H locs hW => ?_)
  obtain ⟨hg3, hf⟩ := z_g hf
  obtain rfl := z_e1 hf
  exact z_rz hg3 B hW dX9_isAddress_7 (Nat.le_of_ble_eq_true rfl) (Nat.le_of_ble_eq_true rfl)
set_option maxRecDepth 100000 in
def f_X9_addStation_38 (σ : zSt) : Option (Int32 × zSt) :=
none
set_option maxRecDepth 20000 in
set_option maxHeartbeats 4000000 in
theorem t_X9_addStation_38 (B : z_B p s m args meth c D cA bs RX9 cX9_addStation 2 (some .int)) {r : Int32} {σ' : zSt} {σ : zSt} (hf : f_X9_addStation_38 σ = some (r, σ')) {H : Heap} {locs : List Loc} {ls : Array Slot} (hW : z_Ok D cA bs s σ H locs) (hl : lv_has ls 2 [])  : W p l e (zrm 5 0 0 148) s m args below meth c H locs 0 0 (MQ below (z_Qi D cA bs r σ') args s 0 0 (fun q => bs ≤ q)) (F0 m 38 ls []) := by
  have hx := B.1
  have hb := B.2.1
  have hown := B.2.2.2.1
  have hts := B.2.2.2.2.1
  unfold f_X9_addStation_38 at hf
  cases hf
set_option maxRecDepth 100000 in
def f_X9_addStation (σ : zSt) (l0 : Nat) (l1 : Int32) : Option (Int32 × zSt) :=
(zb (f_X9_isAddress σ l1) (fun r2 => (if r2 = 0 then
none
else
(if z_ob σ l0 8 then (zc (z_R σ l0 0) none (fun q4 => (if z_ob σ q4 2 then (zb (f_X2_stationWith σ q4 l1) (fun r8 => (zc r8
(zc (z_R σ l0 0) none (fun q10 => (if z_ob σ q10 2 then (zb (f_X2_isFull σ q10) (fun r14 => (if r14 = 0 then
(zc (z_R σ l0 2) none (fun q15 => (zc (z_R σ l0 0) none (fun q17 => (if z_ob σ q15 1 then (zb (f_X1_save σ q15 q17) (fun σ21 => (if z_ob σ21 l0 8 then (zc (z_R σ21 l0 0) none (fun q23 => (if z_ob σ21 q23 2 then (zb2 (f_X2_placeStation σ21 q23 l1) (fun r27 σ28 => (if z_ob σ28 l0 8 then (zc (z_R σ28 l0 0) none (fun q30 => (if z_ob σ28 q30 2 then (some ((z_I σ28 q30 5), σ28)) else none))) else none))) else none))) else none))) else none)))))
else
(f_X9_addStation_38 σ)))) else none)))
(fun a9 => (f_X9_addStation_38 σ))))) else none))) else none))))
set_option maxRecDepth 20000 in
set_option maxHeartbeats 4000000 in
theorem K_X9_addStation {σ : zSt} {l0 : Nat} {l1 : Int32} {r : Int32} {σ' : zSt} (hf : f_X9_addStation σ l0 l1 = some (r, σ')) : z_M l D cA bs yX9_addStation cX9_addStation 2 (some .int) 5 148 0 0 [.ref l0, .int l1] σ (z_Qi D cA bs r σ') := by
  refine z_met (own := RX9) (lv := [(0, .ref l0), (1, .int l1)]) (by decide) rfl (Nat.le_of_ble_eq_true rfl) rfl (fun p e s m below meth c ls B hnm hW hl => ?_)
  have hx := B.1
  have hb := B.2.1
  have hown := B.2.2.2.1
  have hts := B.2.2.2.2.1
  unfold f_X9_addStation at hf
  refine lv_iload_n hx hb dX9_addStation_0 rfl (lv_at hl 1 rfl) ?_
  obtain ⟨r2, hq1, hf⟩ := z_b hf
  refine z_ci hW (z_runS (As := [.int l1]) (rest := []) B hW zv_X9_30 (K_X9_isAddress hq1) rfl rfl (Nat.le_of_ble_eq_true rfl) hl.1 ⟨Nat.le_of_ble_eq_true rfl, Nat.le_of_ble_eq_true rfl⟩ dX9_addStation_1 ⟨Nat.le_of_ble_eq_true rfl, Nat.le_of_ble_eq_true rfl⟩) (fun H locs hW => ?_)
  refine lv_if_ne (tgt := 17) hx hb dX9_addStation_4 (by decide) (fun hc4 => ?_) (fun hc4 => ?_)
  · replace hf := z_in hc4 hf
    refine lv_aload_n hx hb dX9_addStation_17 rfl (lv_at hl 0 rfl) ?_
    obtain ⟨hg3, hf⟩ := z_g hf
    obtain ⟨q4, hv5, hf⟩ := z_nn hf
    refine z_getN B hW (Or.inr zf_X9_10) rfl hg3 hv5 dX9_addStation_18 ?_
    refine lv_iload_n hx hb dX9_addStation_21 rfl (lv_at hl 1 rfl) ?_
    obtain ⟨hg6, hf⟩ := z_g hf
    obtain ⟨r8, hq7, hf⟩ := z_b hf
    refine z_cq hW (z_runV (As := [.int l1]) (rest := []) B hW zv_X9_41 (K_X2_stationWith hq7) hg6 rfl rfl rfl (Nat.le_of_ble_eq_true rfl) hl.1 ⟨Nat.le_of_ble_eq_true rfl, Nat.le_of_ble_eq_true rfl⟩ dX9_addStation_22 ⟨Nat.le_of_ble_eq_true rfl, Nat.le_of_ble_eq_true rfl⟩) (fun H locs hW => ?_)
    refine z_ifnonnull (tgt := 38) hx hb dX9_addStation_25 (by decide) (fun hz33 => ?_) (fun a9 hz33 => ?_)
    · subst hz33
      replace hf := z_c0 hf
      refine lv_aload_n hx hb dX9_addStation_28 rfl (lv_at hl 0 rfl) ?_
      obtain ⟨q10, hv11, hf⟩ := z_nn hf
      refine z_getN B hW (Or.inr zf_X9_10) rfl hg3 hv11 dX9_addStation_29 ?_
      obtain ⟨hg12, hf⟩ := z_g hf
      obtain ⟨r14, hq13, hf⟩ := z_b hf
      refine z_ci hW (z_runV (As := []) (rest := []) B hW zv_X9_45 (K_X2_isFull hq13) hg12 rfl rfl rfl (Nat.le_of_ble_eq_true rfl) hl.1 ⟨Nat.le_of_ble_eq_true rfl, Nat.le_of_ble_eq_true rfl⟩ dX9_addStation_32 ⟨Nat.le_of_ble_eq_true rfl, Nat.le_of_ble_eq_true rfl⟩) (fun H locs hW => ?_)
      refine lv_if_eq (tgt := 48) hx hb dX9_addStation_35 (by decide) (fun hc35 => ?_) (fun hc35 => ?_)
      · replace hf := z_ip hc35 hf
        refine lv_aload_n hx hb dX9_addStation_48 rfl (lv_at hl 0 rfl) ?_
        obtain ⟨q15, hv16, hf⟩ := z_nn hf
        refine z_getN B hW (Or.inr zf_X9_22) rfl hg3 hv16 dX9_addStation_49 ?_
        refine lv_aload_n hx hb dX9_addStation_52 rfl (lv_at hl 0 rfl) ?_
        obtain ⟨q17, hv18, hf⟩ := z_nn hf
        refine z_getN B hW (Or.inr zf_X9_10) rfl hg3 hv18 dX9_addStation_53 ?_
        obtain ⟨hg19, hf⟩ := z_g hf
        obtain ⟨σ21, hq20, hf⟩ := z_b hf
        refine z_cv hW (z_runV (As := [.ref q17]) (rest := []) B hW zv_X9_54 (K_X1_save hq20) hg19 rfl rfl rfl (Nat.le_of_ble_eq_true rfl) hl.1 ⟨Nat.le_of_ble_eq_true rfl, Nat.le_of_ble_eq_true rfl⟩ dX9_addStation_56 ⟨Nat.le_of_ble_eq_true rfl, Nat.le_of_ble_eq_true rfl⟩) (fun H locs hW => ?_)
        refine lv_aload_n hx hb dX9_addStation_59 rfl (lv_at hl 0 rfl) ?_
        obtain ⟨hg22, hf⟩ := z_g hf
        obtain ⟨q23, hv24, hf⟩ := z_nn hf
        refine z_getN B hW (Or.inr zf_X9_10) rfl hg22 hv24 dX9_addStation_60 ?_
        refine lv_iload_n hx hb dX9_addStation_63 rfl (lv_at hl 1 rfl) ?_
        obtain ⟨hg25, hf⟩ := z_g hf
        obtain ⟨r27, σ28, hq26, hf⟩ := z_b2 hf
        refine z_cq hW (z_runV (As := [.int l1]) (rest := []) B hW zv_X9_58 (K_X2_placeStation hq26) hg25 rfl rfl rfl (Nat.le_of_ble_eq_true rfl) hl.1 ⟨Nat.le_of_ble_eq_true rfl, Nat.le_of_ble_eq_true rfl⟩ dX9_addStation_64 ⟨Nat.le_of_ble_eq_true rfl, Nat.le_of_ble_eq_true rfl⟩) (fun H locs hW => ?_)
        refine lv_pop hx hb dX9_addStation_67 (z_cat _) ?_
        refine lv_aload_n hx hb dX9_addStation_68 rfl (lv_at hl 0 rfl) ?_
        obtain ⟨hg29, hf⟩ := z_g hf
        obtain ⟨q30, hv31, hf⟩ := z_nn hf
        refine z_getN B hW (Or.inr zf_X9_10) rfl hg29 hv31 dX9_addStation_69 ?_
        obtain ⟨hg32, hf⟩ := z_g hf
        refine z_getI B hW (Or.inl zf_X9_61) rfl hg32 dX9_addStation_72 ?_
        obtain ⟨rfl, rfl⟩ := z_e2 hf
        exact z_ri B hW dX9_addStation_75 (Nat.le_of_ble_eq_true rfl) (Nat.le_of_ble_eq_true rfl)
      · replace hf := z_in hc35 hf
        exact t_X9_addStation_38 B hf hW (lv_sub hl [] rfl) 
    · subst hz33
      replace hf := z_c1 hf
      exact t_X9_addStation_38 B hf hW (lv_sub hl [] rfl) 
  · replace hf := z_ip hc4 hf
    cases hf
set_option maxRecDepth 100000 in
def f_X9_setOn (σ : zSt) (l0 : Nat) (l1 : Int32) (l2 : Int32) : Option (Int32 × zSt) :=
(if z_ob σ l0 8 then (zc (z_R σ l0 0) none (fun q2 => (if z_ob σ q2 2 then (zb (f_X2_stationWith σ q2 l1) (fun r6 => (zc r6
none
(fun a7 => (if z_ob σ a7 6 then (zl (z_I σ a7 1) (fun x9 => (zc (z_R σ l0 2) none (fun q11 => (zc (z_R σ l0 0) none (fun q13 => (if z_ob σ q11 1 then (zb (f_X1_save σ q11 q13) (fun σ17 => (if z_ob σ17 l0 8 then (zc (z_R σ17 l0 0) none (fun q19 => (if z_ob σ17 q19 2 then (zb (f_X2_switchStation σ17 q19 a7 l2) (fun σ23 => (if z_bl x9 then (some (x9, σ23)) else none))) else none))) else none))) else none))))))) else none))))) else none))) else none)
set_option maxRecDepth 20000 in
set_option maxHeartbeats 4000000 in
theorem K_X9_setOn {σ : zSt} {l0 : Nat} {l1 : Int32} {l2 : Int32} {r : Int32} {σ' : zSt} (hf : f_X9_setOn σ l0 l1 l2 = some (r, σ')) : z_M l D cA bs yX9_setOn cX9_setOn 5 (some .boolean) 5 148 0 0 [.ref l0, .int l1, .int l2] σ (z_Qi D cA bs r σ') := by
  refine z_met (own := RX9) (lv := [(0, .ref l0), (1, .int l1), (2, .int l2)]) (by decide) rfl (Nat.le_of_ble_eq_true rfl) rfl (fun p e s m below meth c ls B hnm hW hl => ?_)
  have hx := B.1
  have hb := B.2.1
  have hown := B.2.2.2.1
  have hts := B.2.2.2.2.1
  unfold f_X9_setOn at hf
  refine lv_aload_n hx hb dX9_setOn_0 rfl (lv_at hl 0 rfl) ?_
  obtain ⟨hg1, hf⟩ := z_g hf
  obtain ⟨q2, hv3, hf⟩ := z_nn hf
  refine z_getN B hW (Or.inr zf_X9_10) rfl hg1 hv3 dX9_setOn_1 ?_
  refine lv_iload_n hx hb dX9_setOn_4 rfl (lv_at hl 1 rfl) ?_
  obtain ⟨hg4, hf⟩ := z_g hf
  obtain ⟨r6, hq5, hf⟩ := z_b hf
  refine z_cq hW (z_runV (As := [.int l1]) (rest := []) B hW zv_X9_41 (K_X2_stationWith hq5) hg4 rfl rfl rfl (Nat.le_of_ble_eq_true rfl) hl.1 ⟨Nat.le_of_ble_eq_true rfl, Nat.le_of_ble_eq_true rfl⟩ dX9_setOn_5 ⟨Nat.le_of_ble_eq_true rfl, Nat.le_of_ble_eq_true rfl⟩) (fun H locs hW => ?_)
  refine z_astore_n (lv' := [(3, va_rf r6), (0, .ref l0), (1, .int l1), (2, .int l2)]) hx hb dX9_setOn_8 rfl hl (by decide) rfl (fun ls hl => ?_)
  refine z_aload_n hx hb dX9_setOn_9 rfl (lv_at hl 0 rfl) ?_
  refine z_ifnonnull (tgt := 23) hx hb dX9_setOn_10 (by decide) (fun hz25 => ?_) (fun a7 hz25 => ?_)
  · subst hz25
    replace hf := z_c0 hf
    cases hf
  · subst hz25
    replace hf := z_c1 hf
    refine lv_aload_n hx hb dX9_setOn_23 rfl (lv_at hl 0 rfl) ?_
    obtain ⟨hg8, hf⟩ := z_g hf
    refine z_getI B hW (Or.inl zf_X9_70) rfl hg8 dX9_setOn_24 ?_
    obtain ⟨x9, hx10, hf⟩ := z_l hf
    rw [hx10]
    refine lv_istore (lv' := [(4, .int x9), (3, .ref a7), (0, .ref l0), (1, .int l1), (2, .int l2)]) hx hb dX9_setOn_27 hl (by decide) rfl (fun ls hl => ?_)
    refine lv_aload_n hx hb dX9_setOn_29 rfl (lv_at hl 2 rfl) ?_
    obtain ⟨q11, hv12, hf⟩ := z_nn hf
    refine z_getN B hW (Or.inr zf_X9_22) rfl hg1 hv12 dX9_setOn_30 ?_
    refine lv_aload_n hx hb dX9_setOn_33 rfl (lv_at hl 2 rfl) ?_
    obtain ⟨q13, hv14, hf⟩ := z_nn hf
    refine z_getN B hW (Or.inr zf_X9_10) rfl hg1 hv14 dX9_setOn_34 ?_
    obtain ⟨hg15, hf⟩ := z_g hf
    obtain ⟨σ17, hq16, hf⟩ := z_b hf
    refine z_cv hW (z_runV (As := [.ref q13]) (rest := []) B hW zv_X9_54 (K_X1_save hq16) hg15 rfl rfl rfl (Nat.le_of_ble_eq_true rfl) hl.1 ⟨Nat.le_of_ble_eq_true rfl, Nat.le_of_ble_eq_true rfl⟩ dX9_setOn_37 ⟨Nat.le_of_ble_eq_true rfl, Nat.le_of_ble_eq_true rfl⟩) (fun H locs hW => ?_)
    refine lv_aload_n hx hb dX9_setOn_40 rfl (lv_at hl 2 rfl) ?_
    obtain ⟨hg18, hf⟩ := z_g hf
    obtain ⟨q19, hv20, hf⟩ := z_nn hf
    refine z_getN B hW (Or.inr zf_X9_10) rfl hg18 hv20 dX9_setOn_41 ?_
    refine lv_aload_n hx hb dX9_setOn_44 rfl (lv_at hl 1 rfl) ?_
    refine lv_iload_n hx hb dX9_setOn_45 rfl (lv_at hl 4 rfl) ?_
    obtain ⟨hg21, hf⟩ := z_g hf
    obtain ⟨σ23, hq22, hf⟩ := z_b hf
    refine z_cv hW (z_runV (As := [.ref a7, .int l2]) (rest := []) B hW zv_X9_76 (K_X2_switchStation hq22) hg21 rfl rfl rfl (Nat.le_of_ble_eq_true rfl) hl.1 ⟨Nat.le_of_ble_eq_true rfl, Nat.le_of_ble_eq_true rfl⟩ dX9_setOn_46 ⟨Nat.le_of_ble_eq_true rfl, Nat.le_of_ble_eq_true rfl⟩) (fun H locs hW => ?_)
    refine lv_iload hx hb dX9_setOn_49 (lv_at hl 0 rfl) ?_
    obtain ⟨hg24, hf⟩ := z_g hf
    obtain ⟨rfl, rfl⟩ := z_e2 hf
    exact z_rz hg24 B hW dX9_setOn_51 (Nat.le_of_ble_eq_true rfl) (Nat.le_of_ble_eq_true rfl)
set_option maxRecDepth 100000 in
def f_X9_setTimes_31 (σ : zSt) : Option (Int32 × zSt) :=
none
set_option maxRecDepth 20000 in
set_option maxHeartbeats 4000000 in
theorem t_X9_setTimes_31 (B : z_B p s m args meth c D cA bs RX9 cX9_setTimes 5 (some .int)) {r : Int32} {σ' : zSt} {σ : zSt} (hf : f_X9_setTimes_31 σ = some (r, σ')) {H : Heap} {locs : List Loc} {ls : Array Slot} (hW : z_Ok D cA bs s σ H locs) (hl : lv_has ls 5 [])  : W p l e (zrm 5 0 0 148) s m args below meth c H locs 0 0 (MQ below (z_Qi D cA bs r σ') args s 0 0 (fun q => bs ≤ q)) (F0 m 31 ls []) := by
  have hx := B.1
  have hb := B.2.1
  have hown := B.2.2.2.1
  have hts := B.2.2.2.2.1
  unfold f_X9_setTimes_31 at hf
  cases hf
set_option maxRecDepth 100000 in
def f_X9_setTimes (σ : zSt) (l0 : Nat) (l1 : Int32) (l2 : Int32) (l3 : Int32) : Option (Int32 × zSt) :=
(zb (f_X9_isWithin σ l1 (1 : Int32) (500 : Int32)) (fun r2 => (if r2 = 0 then
(f_X9_setTimes_31 σ)
else
(zb (f_X9_isWithin σ l2 (1 : Int32) (20 : Int32)) (fun r4 => (if r4 = 0 then
(f_X9_setTimes_31 σ)
else
(zb (f_X9_isWithin σ l3 (1 : Int32) (20 : Int32)) (fun r6 => (if r6 = 0 then
(f_X9_setTimes_31 σ)
else
(if z_ob σ l0 8 then (zc (z_R σ l0 0) none (fun q8 => (if z_ob σ q8 2 then (zl (z_I σ q8 6) (fun x11 => (zc (z_R σ l0 2) none (fun q13 => (zc (z_R σ l0 0) none (fun q15 => (if z_ob σ q13 1 then (zb (f_X1_save σ q13 q15) (fun σ19 => (if z_ob σ19 l0 8 then (zc (z_R σ19 l0 0) none (fun q21 => (if z_ob σ19 q21 2 then (zl (z_pI σ19 q21 6 l1) (fun σ24 => (if z_ob σ24 l0 8 then (zc (z_R σ24 l0 0) none (fun q27 => (if z_ob σ24 q27 2 then (zl (z_pI σ24 q27 7 l2) (fun σ30 => (if z_ob σ30 l0 8 then (zc (z_R σ30 l0 0) none (fun q33 => (if z_ob σ30 q33 2 then (zl (z_pI σ30 q33 8 l3) (fun σ36 => (some (x11, σ36)))) else none))) else none))) else none))) else none))) else none))) else none))) else none))))))) else none))) else none))))))))))
set_option maxRecDepth 20000 in
set_option maxHeartbeats 4000000 in
theorem K_X9_setTimes {σ : zSt} {l0 : Nat} {l1 : Int32} {l2 : Int32} {l3 : Int32} {r : Int32} {σ' : zSt} (hf : f_X9_setTimes σ l0 l1 l2 l3 = some (r, σ')) : z_M l D cA bs yX9_setTimes cX9_setTimes 5 (some .int) 5 148 0 0 [.ref l0, .int l1, .int l2, .int l3] σ (z_Qi D cA bs r σ') := by
  refine z_met (own := RX9) (lv := [(0, .ref l0), (1, .int l1), (2, .int l2), (3, .int l3)]) (by decide) rfl (Nat.le_of_ble_eq_true rfl) rfl (fun p e s m below meth c ls B hnm hW hl => ?_)
  have hx := B.1
  have hb := B.2.1
  have hown := B.2.2.2.1
  have hts := B.2.2.2.2.1
  unfold f_X9_setTimes at hf
  refine lv_iload_n hx hb dX9_setTimes_0 rfl (lv_at hl 1 rfl) ?_
  refine lv_iconst (v := (1 : Int32)) hx hb dX9_setTimes_1 (by decide) ?_
  refine lv_sipush (v := (500 : Int32)) hx hb dX9_setTimes_2 (by decide) ?_
  obtain ⟨r2, hq1, hf⟩ := z_b hf
  refine z_ci hW (z_runS (As := [.int l1, .int (1 : Int32), .int (500 : Int32)]) (rest := []) B hW zv_X9_80 (K_X9_isWithin hq1) rfl rfl (Nat.le_of_ble_eq_true rfl) hl.1 ⟨Nat.le_of_ble_eq_true rfl, Nat.le_of_ble_eq_true rfl⟩ dX9_setTimes_5 ⟨Nat.le_of_ble_eq_true rfl, Nat.le_of_ble_eq_true rfl⟩) (fun H locs hW => ?_)
  refine lv_if_eq (tgt := 31) hx hb dX9_setTimes_8 (by decide) (fun hc8 => ?_) (fun hc8 => ?_)
  · replace hf := z_ip hc8 hf
    exact t_X9_setTimes_31 B hf hW (lv_sub hl [] rfl) 
  · replace hf := z_in hc8 hf
    refine lv_iload_n hx hb dX9_setTimes_11 rfl (lv_at hl 2 rfl) ?_
    refine lv_iconst (v := (1 : Int32)) hx hb dX9_setTimes_12 (by decide) ?_
    refine lv_bipush (v := (20 : Int32)) hx hb dX9_setTimes_13 (by decide) ?_
    obtain ⟨r4, hq3, hf⟩ := z_b hf
    refine z_ci hW (z_runS (As := [.int l2, .int (1 : Int32), .int (20 : Int32)]) (rest := []) B hW zv_X9_80 (K_X9_isWithin hq3) rfl rfl (Nat.le_of_ble_eq_true rfl) hl.1 ⟨Nat.le_of_ble_eq_true rfl, Nat.le_of_ble_eq_true rfl⟩ dX9_setTimes_15 ⟨Nat.le_of_ble_eq_true rfl, Nat.le_of_ble_eq_true rfl⟩) (fun H locs hW => ?_)
    refine lv_if_eq (tgt := 31) hx hb dX9_setTimes_18 (by decide) (fun hc18 => ?_) (fun hc18 => ?_)
    · replace hf := z_ip hc18 hf
      exact t_X9_setTimes_31 B hf hW (lv_sub hl [] rfl) 
    · replace hf := z_in hc18 hf
      refine lv_iload_n hx hb dX9_setTimes_21 rfl (lv_at hl 3 rfl) ?_
      refine lv_iconst (v := (1 : Int32)) hx hb dX9_setTimes_22 (by decide) ?_
      refine lv_bipush (v := (20 : Int32)) hx hb dX9_setTimes_23 (by decide) ?_
      obtain ⟨r6, hq5, hf⟩ := z_b hf
      refine z_ci hW (z_runS (As := [.int l3, .int (1 : Int32), .int (20 : Int32)]) (rest := []) B hW zv_X9_80 (K_X9_isWithin hq5) rfl rfl (Nat.le_of_ble_eq_true rfl) hl.1 ⟨Nat.le_of_ble_eq_true rfl, Nat.le_of_ble_eq_true rfl⟩ dX9_setTimes_25 ⟨Nat.le_of_ble_eq_true rfl, Nat.le_of_ble_eq_true rfl⟩) (fun H locs hW => ?_)
      refine lv_if_ne (tgt := 41) hx hb dX9_setTimes_28 (by decide) (fun hc28 => ?_) (fun hc28 => ?_)
      · replace hf := z_in hc28 hf
        refine lv_aload_n hx hb dX9_setTimes_41 rfl (lv_at hl 0 rfl) ?_
        obtain ⟨hg7, hf⟩ := z_g hf
        obtain ⟨q8, hv9, hf⟩ := z_nn hf
        refine z_getN B hW (Or.inr zf_X9_10) rfl hg7 hv9 dX9_setTimes_42 ?_
        obtain ⟨hg10, hf⟩ := z_g hf
        refine z_getI B hW (Or.inl zf_X9_86) rfl hg10 dX9_setTimes_45 ?_
        obtain ⟨x11, hx12, hf⟩ := z_l hf
        rw [hx12]
        refine lv_istore (lv' := [(4, .int x11), (0, .ref l0), (1, .int l1), (2, .int l2), (3, .int l3)]) hx hb dX9_setTimes_48 hl (by decide) rfl (fun ls hl => ?_)
        refine lv_aload_n hx hb dX9_setTimes_50 rfl (lv_at hl 1 rfl) ?_
        obtain ⟨q13, hv14, hf⟩ := z_nn hf
        refine z_getN B hW (Or.inr zf_X9_22) rfl hg7 hv14 dX9_setTimes_51 ?_
        refine lv_aload_n hx hb dX9_setTimes_54 rfl (lv_at hl 1 rfl) ?_
        obtain ⟨q15, hv16, hf⟩ := z_nn hf
        refine z_getN B hW (Or.inr zf_X9_10) rfl hg7 hv16 dX9_setTimes_55 ?_
        obtain ⟨hg17, hf⟩ := z_g hf
        obtain ⟨σ19, hq18, hf⟩ := z_b hf
        refine z_cv hW (z_runV (As := [.ref q15]) (rest := []) B hW zv_X9_54 (K_X1_save hq18) hg17 rfl rfl rfl (Nat.le_of_ble_eq_true rfl) hl.1 ⟨Nat.le_of_ble_eq_true rfl, Nat.le_of_ble_eq_true rfl⟩ dX9_setTimes_58 ⟨Nat.le_of_ble_eq_true rfl, Nat.le_of_ble_eq_true rfl⟩) (fun H locs hW => ?_)
        refine lv_aload_n hx hb dX9_setTimes_61 rfl (lv_at hl 1 rfl) ?_
        obtain ⟨hg20, hf⟩ := z_g hf
        obtain ⟨q21, hv22, hf⟩ := z_nn hf
        refine z_getN B hW (Or.inr zf_X9_10) rfl hg20 hv22 dX9_setTimes_62 ?_
        refine lv_iload_n hx hb dX9_setTimes_65 rfl (lv_at hl 2 rfl) ?_
        obtain ⟨hg23, hf⟩ := z_g hf
        obtain ⟨σ24, hs25, hf⟩ := z_l hf
        refine z_putI B hW zf_X9_86 hg23 rfl hs25 dX9_setTimes_66 (fun H locs hW => ?_)
        refine lv_aload_n hx hb dX9_setTimes_69 rfl (lv_at hl 1 rfl) ?_
        obtain ⟨hg26, hf⟩ := z_g hf
        obtain ⟨q27, hv28, hf⟩ := z_nn hf
        refine z_getN B hW (Or.inr zf_X9_10) rfl hg26 hv28 dX9_setTimes_70 ?_
        refine lv_iload_n hx hb dX9_setTimes_73 rfl (lv_at hl 3 rfl) ?_
        obtain ⟨hg29, hf⟩ := z_g hf
        obtain ⟨σ30, hs31, hf⟩ := z_l hf
        refine z_putI B hW zf_X9_89 hg29 rfl hs31 dX9_setTimes_74 (fun H locs hW => ?_)
        refine lv_aload_n hx hb dX9_setTimes_77 rfl (lv_at hl 1 rfl) ?_
        obtain ⟨hg32, hf⟩ := z_g hf
        obtain ⟨q33, hv34, hf⟩ := z_nn hf
        refine z_getN B hW (Or.inr zf_X9_10) rfl hg32 hv34 dX9_setTimes_78 ?_
        refine lv_iload_n hx hb dX9_setTimes_81 rfl (lv_at hl 4 rfl) ?_
        obtain ⟨hg35, hf⟩ := z_g hf
        obtain ⟨σ36, hs37, hf⟩ := z_l hf
        refine z_putI B hW zf_X9_92 hg35 rfl hs37 dX9_setTimes_82 (fun H locs hW => ?_)
        refine lv_iload hx hb dX9_setTimes_85 (lv_at hl 0 rfl) ?_
        obtain ⟨rfl, rfl⟩ := z_e2 hf
        exact z_ri B hW dX9_setTimes_87 (Nat.le_of_ble_eq_true rfl) (Nat.le_of_ble_eq_true rfl)
      · replace hf := z_ip hc28 hf
        exact t_X9_setTimes_31 B hf hW (lv_sub hl [] rfl) 
set_option maxRecDepth 100000 in
def f_X9_give_45 (σ : zSt) : Option (Int32 × zSt) :=
none
set_option maxRecDepth 20000 in
set_option maxHeartbeats 4000000 in
theorem t_X9_give_45 (B : z_B p s m args meth c D cA bs RX9 cX9_give 5 (some .int)) {r : Int32} {σ' : zSt} {σ : zSt} (hf : f_X9_give_45 σ = some (r, σ')) {H : Heap} {locs : List Loc} {ls : Array Slot} (hW : z_Ok D cA bs s σ H locs) (hl : lv_has ls 5 [])  : W p l e (zrm 5 0 0 148) s m args below meth c H locs 0 0 (MQ below (z_Qi D cA bs r σ') args s 0 0 (fun q => bs ≤ q)) (F0 m 45 ls []) := by
  have hx := B.1
  have hb := B.2.1
  have hown := B.2.2.2.1
  have hts := B.2.2.2.2.1
  unfold f_X9_give_45 at hf
  cases hf
set_option maxRecDepth 100000 in
def f_X9_give (σ : zSt) (l0 : Nat) (l1 : Int32) (l2 : Int32) (l3 : Int32) : Option (Int32 × zSt) :=
(if z_ob σ l0 8 then (zc (z_R σ l0 0) none (fun q2 => (if z_ob σ q2 2 then (zb (f_X2_stationWith σ q2 l1) (fun r6 => (zc r6
none
(fun a7 => (zb (f_X9_isWithin σ l2 (1 : Int32) (20 : Int32)) (fun r9 => (if r9 = 0 then
(f_X9_give_45 σ)
else
(zb (f_X9_isWithin σ l3 (0 : Int32) (9 : Int32)) (fun r11 => (if r11 = 0 then
(f_X9_give_45 σ)
else
(zc (z_R σ l0 0) none (fun q12 => (if z_ob σ q12 2 then (zc (z_R σ q12 1) none (fun q15 => (if z_ob σ q15 3 then (zb (f_X3_isFull σ q15) (fun r19 => (if r19 = 0 then
(zc (z_R σ l0 2) none (fun q20 => (zc (z_R σ l0 0) none (fun q22 => (if z_ob σ q20 1 then (zb (f_X1_save σ q20 q22) (fun σ26 => (if z_ob σ26 l0 8 then (zc (z_R σ26 l0 0) none (fun q28 => (if z_ob σ26 q28 2 then (zc (z_R σ26 q28 1) none (fun q31 => (zc (z_R σ26 l0 0) none (fun q33 => (if z_ob σ26 q33 2 then (if z_ob σ26 q31 3 then (zb2 (f_X3_add σ26 q31 a7 l2 l3 (z_I σ26 q33 9)) (fun r38 σ39 => (some (r38, σ39)))) else none) else none))))) else none))) else none))) else none)))))
else
none))) else none))) else none))))))))))))) else none))) else none)
set_option maxRecDepth 20000 in
set_option maxHeartbeats 4000000 in
theorem K_X9_give {σ : zSt} {l0 : Nat} {l1 : Int32} {l2 : Int32} {l3 : Int32} {r : Int32} {σ' : zSt} (hf : f_X9_give σ l0 l1 l2 l3 = some (r, σ')) : z_M l D cA bs yX9_give cX9_give 5 (some .int) 5 148 0 0 [.ref l0, .int l1, .int l2, .int l3] σ (z_Qi D cA bs r σ') := by
  refine z_met (own := RX9) (lv := [(0, .ref l0), (1, .int l1), (2, .int l2), (3, .int l3)]) (by decide) rfl (Nat.le_of_ble_eq_true rfl) rfl (fun p e s m below meth c ls B hnm hW hl => ?_)
  have hx := B.1
  have hb := B.2.1
  have hown := B.2.2.2.1
  have hts := B.2.2.2.2.1
  unfold f_X9_give at hf
  refine lv_aload_n hx hb dX9_give_0 rfl (lv_at hl 0 rfl) ?_
  obtain ⟨hg1, hf⟩ := z_g hf
  obtain ⟨q2, hv3, hf⟩ := z_nn hf
  refine z_getN B hW (Or.inr zf_X9_10) rfl hg1 hv3 dX9_give_1 ?_
  refine lv_iload_n hx hb dX9_give_4 rfl (lv_at hl 1 rfl) ?_
  obtain ⟨hg4, hf⟩ := z_g hf
  obtain ⟨r6, hq5, hf⟩ := z_b hf
  refine z_cq hW (z_runV (As := [.int l1]) (rest := []) B hW zv_X9_41 (K_X2_stationWith hq5) hg4 rfl rfl rfl (Nat.le_of_ble_eq_true rfl) hl.1 ⟨Nat.le_of_ble_eq_true rfl, Nat.le_of_ble_eq_true rfl⟩ dX9_give_5 ⟨Nat.le_of_ble_eq_true rfl, Nat.le_of_ble_eq_true rfl⟩) (fun H locs hW => ?_)
  refine z_astore (lv' := [(4, va_rf r6), (0, .ref l0), (1, .int l1), (2, .int l2), (3, .int l3)]) hx hb dX9_give_8 hl (by decide) rfl (fun ls hl => ?_)
  refine z_aload hx hb dX9_give_10 (lv_at hl 0 rfl) ?_
  refine z_ifnonnull (tgt := 25) hx hb dX9_give_12 (by decide) (fun hz40 => ?_) (fun a7 hz40 => ?_)
  · subst hz40
    replace hf := z_c0 hf
    cases hf
  · subst hz40
    replace hf := z_c1 hf
    refine lv_iload_n hx hb dX9_give_25 rfl (lv_at hl 3 rfl) ?_
    refine lv_iconst (v := (1 : Int32)) hx hb dX9_give_26 (by decide) ?_
    refine lv_bipush (v := (20 : Int32)) hx hb dX9_give_27 (by decide) ?_
    obtain ⟨r9, hq8, hf⟩ := z_b hf
    refine z_ci hW (z_runS (As := [.int l2, .int (1 : Int32), .int (20 : Int32)]) (rest := []) B hW zv_X9_80 (K_X9_isWithin hq8) rfl rfl (Nat.le_of_ble_eq_true rfl) hl.1 ⟨Nat.le_of_ble_eq_true rfl, Nat.le_of_ble_eq_true rfl⟩ dX9_give_29 ⟨Nat.le_of_ble_eq_true rfl, Nat.le_of_ble_eq_true rfl⟩) (fun H locs hW => ?_)
    refine lv_if_eq (tgt := 45) hx hb dX9_give_32 (by decide) (fun hc32 => ?_) (fun hc32 => ?_)
    · replace hf := z_ip hc32 hf
      exact t_X9_give_45 B hf hW (lv_sub hl [] rfl) 
    · replace hf := z_in hc32 hf
      refine lv_iload_n hx hb dX9_give_35 rfl (lv_at hl 4 rfl) ?_
      refine lv_iconst (v := (0 : Int32)) hx hb dX9_give_36 (by decide) ?_
      refine lv_bipush (v := (9 : Int32)) hx hb dX9_give_37 (by decide) ?_
      obtain ⟨r11, hq10, hf⟩ := z_b hf
      refine z_ci hW (z_runS (As := [.int l3, .int (0 : Int32), .int (9 : Int32)]) (rest := []) B hW zv_X9_80 (K_X9_isWithin hq10) rfl rfl (Nat.le_of_ble_eq_true rfl) hl.1 ⟨Nat.le_of_ble_eq_true rfl, Nat.le_of_ble_eq_true rfl⟩ dX9_give_39 ⟨Nat.le_of_ble_eq_true rfl, Nat.le_of_ble_eq_true rfl⟩) (fun H locs hW => ?_)
      refine lv_if_ne (tgt := 55) hx hb dX9_give_42 (by decide) (fun hc42 => ?_) (fun hc42 => ?_)
      · replace hf := z_in hc42 hf
        refine lv_aload_n hx hb dX9_give_55 rfl (lv_at hl 1 rfl) ?_
        obtain ⟨q12, hv13, hf⟩ := z_nn hf
        refine z_getN B hW (Or.inr zf_X9_10) rfl hg1 hv13 dX9_give_56 ?_
        obtain ⟨hg14, hf⟩ := z_g hf
        obtain ⟨q15, hv16, hf⟩ := z_nn hf
        refine z_getN B hW (Or.inr zf_X9_97) rfl hg14 hv16 dX9_give_59 ?_
        obtain ⟨hg17, hf⟩ := z_g hf
        obtain ⟨r19, hq18, hf⟩ := z_b hf
        refine z_ci hW (z_runV (As := []) (rest := []) B hW zv_X9_101 (K_X3_isFull hq18) hg17 rfl rfl rfl (Nat.le_of_ble_eq_true rfl) hl.1 ⟨Nat.le_of_ble_eq_true rfl, Nat.le_of_ble_eq_true rfl⟩ dX9_give_62 ⟨Nat.le_of_ble_eq_true rfl, Nat.le_of_ble_eq_true rfl⟩) (fun H locs hW => ?_)
        refine lv_if_eq (tgt := 78) hx hb dX9_give_65 (by decide) (fun hc65 => ?_) (fun hc65 => ?_)
        · replace hf := z_ip hc65 hf
          refine lv_aload_n hx hb dX9_give_78 rfl (lv_at hl 1 rfl) ?_
          obtain ⟨q20, hv21, hf⟩ := z_nn hf
          refine z_getN B hW (Or.inr zf_X9_22) rfl hg1 hv21 dX9_give_79 ?_
          refine lv_aload_n hx hb dX9_give_82 rfl (lv_at hl 1 rfl) ?_
          obtain ⟨q22, hv23, hf⟩ := z_nn hf
          refine z_getN B hW (Or.inr zf_X9_10) rfl hg1 hv23 dX9_give_83 ?_
          obtain ⟨hg24, hf⟩ := z_g hf
          obtain ⟨σ26, hq25, hf⟩ := z_b hf
          refine z_cv hW (z_runV (As := [.ref q22]) (rest := []) B hW zv_X9_54 (K_X1_save hq25) hg24 rfl rfl rfl (Nat.le_of_ble_eq_true rfl) hl.1 ⟨Nat.le_of_ble_eq_true rfl, Nat.le_of_ble_eq_true rfl⟩ dX9_give_86 ⟨Nat.le_of_ble_eq_true rfl, Nat.le_of_ble_eq_true rfl⟩) (fun H locs hW => ?_)
          refine lv_aload_n hx hb dX9_give_89 rfl (lv_at hl 1 rfl) ?_
          obtain ⟨hg27, hf⟩ := z_g hf
          obtain ⟨q28, hv29, hf⟩ := z_nn hf
          refine z_getN B hW (Or.inr zf_X9_10) rfl hg27 hv29 dX9_give_90 ?_
          obtain ⟨hg30, hf⟩ := z_g hf
          obtain ⟨q31, hv32, hf⟩ := z_nn hf
          refine z_getN B hW (Or.inr zf_X9_97) rfl hg30 hv32 dX9_give_93 ?_
          refine lv_aload hx hb dX9_give_96 (lv_at hl 0 rfl) ?_
          refine lv_iload_n hx hb dX9_give_98 rfl (lv_at hl 3 rfl) ?_
          refine lv_iload_n hx hb dX9_give_99 rfl (lv_at hl 4 rfl) ?_
          refine lv_aload_n hx hb dX9_give_100 rfl (lv_at hl 1 rfl) ?_
          obtain ⟨q33, hv34, hf⟩ := z_nn hf
          refine z_getN B hW (Or.inr zf_X9_10) rfl hg27 hv34 dX9_give_101 ?_
          obtain ⟨hg35, hf⟩ := z_g hf
          refine z_getI B hW (Or.inl zf_X9_106) rfl hg35 dX9_give_104 ?_
          obtain ⟨hg36, hf⟩ := z_g hf
          obtain ⟨r38, σ39, hq37, hf⟩ := z_b2 hf
          refine z_ci hW (z_runV (As := [.ref a7, .int l2, .int l3, .int (z_I σ26 q33 9)]) (rest := []) B hW zv_X9_109 (K_X3_add hq37) hg36 rfl rfl rfl (Nat.le_of_ble_eq_true rfl) hl.1 ⟨Nat.le_of_ble_eq_true rfl, Nat.le_of_ble_eq_true rfl⟩ dX9_give_107 ⟨Nat.le_of_ble_eq_true rfl, Nat.le_of_ble_eq_true rfl⟩) (fun H locs hW => ?_)
          obtain ⟨rfl, rfl⟩ := z_e2 hf
          exact z_ri B hW dX9_give_110 (Nat.le_of_ble_eq_true rfl) (Nat.le_of_ble_eq_true rfl)
        · replace hf := z_in hc65 hf
          cases hf
      · replace hf := z_ip hc42 hf
        exact t_X9_give_45 B hf hW (lv_sub hl [] rfl) 
set_option maxRecDepth 100000 in
def f_X9_addNoise_19 (σ : zSt) : Option (Int32 × zSt) :=
none
set_option maxRecDepth 20000 in
set_option maxHeartbeats 4000000 in
theorem t_X9_addNoise_19 (B : z_B p s m args meth c D cA bs RX9 cX9_addNoise 3 (some .int)) {r : Int32} {σ' : zSt} {σ : zSt} (hf : f_X9_addNoise_19 σ = some (r, σ')) {H : Heap} {locs : List Loc} {ls : Array Slot} (hW : z_Ok D cA bs s σ H locs) (hl : lv_has ls 3 [])  : W p l e (zrm 5 0 0 148) s m args below meth c H locs 0 0 (MQ below (z_Qi D cA bs r σ') args s 0 0 (fun q => bs ≤ q)) (F0 m 19 ls []) := by
  have hx := B.1
  have hb := B.2.1
  have hown := B.2.2.2.1
  have hts := B.2.2.2.2.1
  unfold f_X9_addNoise_19 at hf
  cases hf
set_option maxRecDepth 100000 in
def f_X9_addNoise (σ : zSt) (l0 : Nat) (l1 : Int32) (l2 : Int32) : Option (Int32 × zSt) :=
(zb (f_X9_isWithin σ l2 (0 : Int32) (1000000 : Int32)) (fun r2 => (if r2 = 0 then
(f_X9_addNoise_19 σ)
else
(zb (f_X9_isWithin σ l1 (0 : Int32) l2) (fun r4 => (if r4 = 0 then
(f_X9_addNoise_19 σ)
else
(if z_ob σ l0 8 then (zc (z_R σ l0 0) none (fun q6 => (if z_ob σ q6 2 then (zc (z_R σ q6 2) none (fun q9 => (if z_ob σ q9 4 then (zb (f_X4_isFull σ q9) (fun r13 => (if r13 = 0 then
(zc (z_R σ l0 2) none (fun q14 => (zc (z_R σ l0 0) none (fun q16 => (if z_ob σ q14 1 then (zb (f_X1_save σ q14 q16) (fun σ20 => (if z_ob σ20 l0 8 then (zc (z_R σ20 l0 0) none (fun q22 => (if z_ob σ20 q22 2 then (zc (z_R σ20 q22 2) none (fun q25 => (if z_ob σ20 q25 4 then (zb (f_X4_add σ20 q25 l1 l2) (fun σ29 => (if z_ob σ29 l0 8 then (zc (z_R σ29 l0 0) none (fun q31 => (if z_ob σ29 q31 2 then (zc (z_R σ29 q31 2) none (fun q34 => (if z_ob σ29 q34 4 then (some ((z_I σ29 q34 2), σ29)) else none))) else none))) else none))) else none))) else none))) else none))) else none)))))
else
none))) else none))) else none))) else none)))))))
set_option maxRecDepth 20000 in
set_option maxHeartbeats 4000000 in
theorem K_X9_addNoise {σ : zSt} {l0 : Nat} {l1 : Int32} {l2 : Int32} {r : Int32} {σ' : zSt} (hf : f_X9_addNoise σ l0 l1 l2 = some (r, σ')) : z_M l D cA bs yX9_addNoise cX9_addNoise 3 (some .int) 5 148 0 0 [.ref l0, .int l1, .int l2] σ (z_Qi D cA bs r σ') := by
  refine z_met (own := RX9) (lv := [(0, .ref l0), (1, .int l1), (2, .int l2)]) (by decide) rfl (Nat.le_of_ble_eq_true rfl) rfl (fun p e s m below meth c ls B hnm hW hl => ?_)
  have hx := B.1
  have hb := B.2.1
  have hown := B.2.2.2.1
  have hts := B.2.2.2.2.1
  unfold f_X9_addNoise at hf
  refine lv_iload_n hx hb dX9_addNoise_0 rfl (lv_at hl 2 rfl) ?_
  refine lv_iconst (v := (0 : Int32)) hx hb dX9_addNoise_1 (by decide) ?_
  refine lv_ldc hx hb hown (hts _ zk_X9_113) dX9_addNoise_2 ?_
  obtain ⟨r2, hq1, hf⟩ := z_b hf
  refine z_ci hW (z_runS (As := [.int l2, .int (0 : Int32), .int (1000000 : Int32)]) (rest := []) B hW zv_X9_80 (K_X9_isWithin hq1) rfl rfl (Nat.le_of_ble_eq_true rfl) hl.1 ⟨Nat.le_of_ble_eq_true rfl, Nat.le_of_ble_eq_true rfl⟩ dX9_addNoise_4 ⟨Nat.le_of_ble_eq_true rfl, Nat.le_of_ble_eq_true rfl⟩) (fun H locs hW => ?_)
  refine lv_if_eq (tgt := 19) hx hb dX9_addNoise_7 (by decide) (fun hc7 => ?_) (fun hc7 => ?_)
  · replace hf := z_ip hc7 hf
    exact t_X9_addNoise_19 B hf hW (lv_sub hl [] rfl) 
  · replace hf := z_in hc7 hf
    refine lv_iload_n hx hb dX9_addNoise_10 rfl (lv_at hl 1 rfl) ?_
    refine lv_iconst (v := (0 : Int32)) hx hb dX9_addNoise_11 (by decide) ?_
    refine lv_iload_n hx hb dX9_addNoise_12 rfl (lv_at hl 2 rfl) ?_
    obtain ⟨r4, hq3, hf⟩ := z_b hf
    refine z_ci hW (z_runS (As := [.int l1, .int (0 : Int32), .int l2]) (rest := []) B hW zv_X9_80 (K_X9_isWithin hq3) rfl rfl (Nat.le_of_ble_eq_true rfl) hl.1 ⟨Nat.le_of_ble_eq_true rfl, Nat.le_of_ble_eq_true rfl⟩ dX9_addNoise_13 ⟨Nat.le_of_ble_eq_true rfl, Nat.le_of_ble_eq_true rfl⟩) (fun H locs hW => ?_)
    refine lv_if_ne (tgt := 29) hx hb dX9_addNoise_16 (by decide) (fun hc16 => ?_) (fun hc16 => ?_)
    · replace hf := z_in hc16 hf
      refine lv_aload_n hx hb dX9_addNoise_29 rfl (lv_at hl 0 rfl) ?_
      obtain ⟨hg5, hf⟩ := z_g hf
      obtain ⟨q6, hv7, hf⟩ := z_nn hf
      refine z_getN B hW (Or.inr zf_X9_10) rfl hg5 hv7 dX9_addNoise_30 ?_
      obtain ⟨hg8, hf⟩ := z_g hf
      obtain ⟨q9, hv10, hf⟩ := z_nn hf
      refine z_getN B hW (Or.inr zf_X9_116) rfl hg8 hv10 dX9_addNoise_33 ?_
      obtain ⟨hg11, hf⟩ := z_g hf
      obtain ⟨r13, hq12, hf⟩ := z_b hf
      refine z_ci hW (z_runV (As := []) (rest := []) B hW zv_X9_120 (K_X4_isFull hq12) hg11 rfl rfl rfl (Nat.le_of_ble_eq_true rfl) hl.1 ⟨Nat.le_of_ble_eq_true rfl, Nat.le_of_ble_eq_true rfl⟩ dX9_addNoise_36 ⟨Nat.le_of_ble_eq_true rfl, Nat.le_of_ble_eq_true rfl⟩) (fun H locs hW => ?_)
      refine lv_if_eq (tgt := 52) hx hb dX9_addNoise_39 (by decide) (fun hc39 => ?_) (fun hc39 => ?_)
      · replace hf := z_ip hc39 hf
        refine lv_aload_n hx hb dX9_addNoise_52 rfl (lv_at hl 0 rfl) ?_
        obtain ⟨q14, hv15, hf⟩ := z_nn hf
        refine z_getN B hW (Or.inr zf_X9_22) rfl hg5 hv15 dX9_addNoise_53 ?_
        refine lv_aload_n hx hb dX9_addNoise_56 rfl (lv_at hl 0 rfl) ?_
        obtain ⟨q16, hv17, hf⟩ := z_nn hf
        refine z_getN B hW (Or.inr zf_X9_10) rfl hg5 hv17 dX9_addNoise_57 ?_
        obtain ⟨hg18, hf⟩ := z_g hf
        obtain ⟨σ20, hq19, hf⟩ := z_b hf
        refine z_cv hW (z_runV (As := [.ref q16]) (rest := []) B hW zv_X9_54 (K_X1_save hq19) hg18 rfl rfl rfl (Nat.le_of_ble_eq_true rfl) hl.1 ⟨Nat.le_of_ble_eq_true rfl, Nat.le_of_ble_eq_true rfl⟩ dX9_addNoise_60 ⟨Nat.le_of_ble_eq_true rfl, Nat.le_of_ble_eq_true rfl⟩) (fun H locs hW => ?_)
        refine lv_aload_n hx hb dX9_addNoise_63 rfl (lv_at hl 0 rfl) ?_
        obtain ⟨hg21, hf⟩ := z_g hf
        obtain ⟨q22, hv23, hf⟩ := z_nn hf
        refine z_getN B hW (Or.inr zf_X9_10) rfl hg21 hv23 dX9_addNoise_64 ?_
        obtain ⟨hg24, hf⟩ := z_g hf
        obtain ⟨q25, hv26, hf⟩ := z_nn hf
        refine z_getN B hW (Or.inr zf_X9_116) rfl hg24 hv26 dX9_addNoise_67 ?_
        refine lv_iload_n hx hb dX9_addNoise_70 rfl (lv_at hl 1 rfl) ?_
        refine lv_iload_n hx hb dX9_addNoise_71 rfl (lv_at hl 2 rfl) ?_
        obtain ⟨hg27, hf⟩ := z_g hf
        obtain ⟨σ29, hq28, hf⟩ := z_b hf
        refine z_cv hW (z_runV (As := [.int l1, .int l2]) (rest := []) B hW zv_X9_125 (K_X4_add hq28) hg27 rfl rfl rfl (Nat.le_of_ble_eq_true rfl) hl.1 ⟨Nat.le_of_ble_eq_true rfl, Nat.le_of_ble_eq_true rfl⟩ dX9_addNoise_72 ⟨Nat.le_of_ble_eq_true rfl, Nat.le_of_ble_eq_true rfl⟩) (fun H locs hW => ?_)
        refine lv_aload_n hx hb dX9_addNoise_75 rfl (lv_at hl 0 rfl) ?_
        obtain ⟨hg30, hf⟩ := z_g hf
        obtain ⟨q31, hv32, hf⟩ := z_nn hf
        refine z_getN B hW (Or.inr zf_X9_10) rfl hg30 hv32 dX9_addNoise_76 ?_
        obtain ⟨hg33, hf⟩ := z_g hf
        obtain ⟨q34, hv35, hf⟩ := z_nn hf
        refine z_getN B hW (Or.inr zf_X9_116) rfl hg33 hv35 dX9_addNoise_79 ?_
        obtain ⟨hg36, hf⟩ := z_g hf
        refine z_getI B hW (Or.inl zf_X9_128) rfl hg36 dX9_addNoise_82 ?_
        obtain ⟨rfl, rfl⟩ := z_e2 hf
        exact z_ri B hW dX9_addNoise_85 (Nat.le_of_ble_eq_true rfl) (Nat.le_of_ble_eq_true rfl)
      · replace hf := z_in hc39 hf
        cases hf
    · replace hf := z_ip hc16 hf
      exact t_X9_addNoise_19 B hf hW (lv_sub hl [] rfl) 
set_option maxRecDepth 100000 in
def b_X9_run_54 (l0 : Nat) (l1 : Int32) (σ : zSt) (l2 : Int32) : Option ((zSt × Int32) ⊕ (Int32 × zSt)) :=
(if l1 ≤ l2 then
(zex (if z_ob σ l0 8 then (zc (z_R σ l0 0) none (fun q2 => (if z_ob σ q2 2 then (some ((z_I σ q2 9), σ)) else none))) else none))
else
(if z_ob σ l0 8 then (zc (z_R σ l0 0) none (fun q7 => (zb (f_X8_makeVisit σ q7) (fun σ10 => (some (.inl (σ10, (l2 + (1 : Int32))))))))) else none))
set_option maxRecDepth 100000 in
def f_X9_run_54 (l0 : Nat) (l1 : Int32) (σ : zSt) (l2 : Int32) : Option (Int32 × zSt) := zloop (fun (t : zSt × Int32) => b_X9_run_54 l0 l1 t.1 t.2) zN (σ, l2)
set_option maxRecDepth 20000 in
set_option maxHeartbeats 4000000 in
theorem tb_X9_run_54 (B : z_B p s m args meth c D cA bs RX9 cX9_run 3 (some .int)) {r : Int32} {σ' : zSt} {o1 : (zSt × Int32) ⊕ (Int32 × zSt)} {l0 : Nat} {l1 : Int32} {σ : zSt} {l2 : Int32} (hf : b_X9_run_54 l0 l1 σ l2 = some o1) {H : Heap} {locs : List Loc} {ls : Array Slot} (hW : z_Ok D cA bs s σ H locs) (hl : lv_has ls 3 [(0, .ref l0), (1, .int l1), (2, .int l2)]) (hk1 : ∀ (σ : zSt) (l2 : Int32), o1 = .inl (σ, l2) → ∀ {H : Heap} {locs : List Loc} {ls : Array Slot}, z_Ok D cA bs s σ H locs → lv_has ls 3 [(0, .ref l0), (1, .int l1), (2, .int l2)] → W p l e (zrm 5 0 0 148) s m args below meth c H locs 0 0 (MQ below (z_Qi D cA bs r σ') args s 0 0 (fun q => bs ≤ q)) (F0 m 54 ls [])) (hr1 : ∀ x, o1 = .inr x → x = (r, σ')) : W p l e (zrm 5 0 0 148) s m args below meth c H locs 0 0 (MQ below (z_Qi D cA bs r σ') args s 0 0 (fun q => bs ≤ q)) (F0 m 54 ls []) := by
  have hx := B.1
  have hb := B.2.1
  have hown := B.2.2.2.1
  have hts := B.2.2.2.2.1
  unfold b_X9_run_54 at hf
  refine lv_iload_n hx hb dX9_run_54 rfl (lv_at hl 2 rfl) ?_
  refine lv_iload_n hx hb dX9_run_55 rfl (lv_at hl 1 rfl) ?_
  refine lv_icmp_ge (tgt := 72) hx hb dX9_run_56 (by decide) (fun hc56 => ?_) (fun hc56 => ?_)
  · replace hf := z_ip hc56 hf
    obtain ⟨w1, hf, ho5⟩ := z_x hf
    obtain rfl := hr1 _ ho5
    refine lv_aload_n hx hb dX9_run_72 rfl (lv_at hl 0 rfl) ?_
    obtain ⟨hg1, hf⟩ := z_g hf
    obtain ⟨q2, hv3, hf⟩ := z_nn hf
    refine z_getN B hW (Or.inr zf_X9_10) rfl hg1 hv3 dX9_run_73 ?_
    obtain ⟨hg4, hf⟩ := z_g hf
    refine z_getI B hW (Or.inl zf_X9_106) rfl hg4 dX9_run_76 ?_
    obtain ⟨rfl, rfl⟩ := z_e2 hf
    exact z_ri B hW dX9_run_79 (Nat.le_of_ble_eq_true rfl) (Nat.le_of_ble_eq_true rfl)
  · replace hf := z_in hc56 hf
    refine lv_aload_n hx hb dX9_run_59 rfl (lv_at hl 0 rfl) ?_
    obtain ⟨hg6, hf⟩ := z_g hf
    obtain ⟨q7, hv8, hf⟩ := z_nn hf
    refine z_getN B hW (Or.inr zf_X9_10) rfl hg6 hv8 dX9_run_60 ?_
    obtain ⟨σ10, hq9, hf⟩ := z_b hf
    refine z_cv hW (z_runS (As := [.ref q7]) (rest := []) B hW zv_X9_138 (K_X8_makeVisit hq9) rfl rfl (Nat.le_of_ble_eq_true rfl) hl.1 ⟨Nat.le_of_ble_eq_true rfl, Nat.le_of_ble_eq_true rfl⟩ dX9_run_63 ⟨Nat.le_of_ble_eq_true rfl, Nat.le_of_ble_eq_true rfl⟩) (fun H locs hW => ?_)
    refine lv_iinc (v := (l2 + (1 : Int32))) (lv' := [(2, .int (l2 + (1 : Int32))), (0, .ref l0), (1, .int l1)]) hx hb dX9_run_66 hl (k := 2) rfl rfl (by decide) rfl (fun ls hl => ?_)
    refine lv_goto (tgt := 54) hx hb dX9_run_69 (by decide) ?_
    exact hk1 _ _ (Option.some.inj hf).symm hW (lv_sub hl [1, 2, 0] rfl)
set_option maxRecDepth 20000 in
set_option maxHeartbeats 4000000 in
theorem t_X9_run_54 (B : z_B p s m args meth c D cA bs RX9 cX9_run 3 (some .int)) {r : Int32} {σ' : zSt} {l0 : Nat} {l1 : Int32}  : ∀ (n : Nat) {σ : zSt} {l2 : Int32}, zloop (fun (t : zSt × Int32) => b_X9_run_54 l0 l1 t.1 t.2) n (σ, l2) = some (r, σ') → ∀ {H : Heap} {locs : List Loc} {ls : Array Slot}, z_Ok D cA bs s σ H locs → lv_has ls 3 [(0, .ref l0), (1, .int l1), (2, .int l2)] → W p l e (zrm 5 0 0 148) s m args below meth c H locs 0 0 (MQ below (z_Qi D cA bs r σ') args s 0 0 (fun q => bs ≤ q)) (F0 m 54 ls []) := by
  intro n
  induction n with
  | zero => intro σ l2 hf; cases hf
  | succ n ih =>
    intro σ l2 hf H locs ls hW hl
    obtain ⟨o1, hb1, hf⟩ := z_lp hf
    refine tb_X9_run_54 B hb1 hW hl  (fun σ l2 he H locs ls hW hl => ?_) (fun x he => ?_)
    · rcases hf with ⟨t, ht, hf⟩ | hf
      · rw [he] at ht
        cases ht
        exact ih hf hW hl
      · rw [he] at hf
        cases hf
    · rcases hf with ⟨t, ht, hf⟩ | hf
      · rw [he] at ht
        cases ht
      · rw [he] at hf
        exact Sum.inr.inj hf
set_option maxRecDepth 100000 in
def f_X9_run (σ : zSt) (l0 : Nat) (l1 : Int32) : Option (Int32 × zSt) :=
(zb (f_X9_isWithin σ l1 (0 : Int32) (200 : Int32)) (fun r2 => (if r2 = 0 then
none
else
(if z_ob σ l0 8 then (zc (z_R σ l0 0) none (fun q4 => (if z_ob σ q4 2 then (zb (f_X2_isTooLate σ q4) (fun r8 => (if r8 = 0 then
(zc (z_R σ l0 2) none (fun q9 => (zc (z_R σ l0 0) none (fun q11 => (if z_ob σ q9 1 then (zb (f_X1_save σ q9 q11) (fun σ15 => (f_X9_run_54 l0 l1 σ15 (0 : Int32)))) else none)))))
else
none))) else none))) else none))))
set_option maxRecDepth 20000 in
set_option maxHeartbeats 4000000 in
theorem K_X9_run {σ : zSt} {l0 : Nat} {l1 : Int32} {r : Int32} {σ' : zSt} (hf : f_X9_run σ l0 l1 = some (r, σ')) : z_M l D cA bs yX9_run cX9_run 3 (some .int) 5 148 0 0 [.ref l0, .int l1] σ (z_Qi D cA bs r σ') := by
  refine z_met (own := RX9) (lv := [(0, .ref l0), (1, .int l1)]) (by decide) rfl (Nat.le_of_ble_eq_true rfl) rfl (fun p e s m below meth c ls B hnm hW hl => ?_)
  have hx := B.1
  have hb := B.2.1
  have hown := B.2.2.2.1
  have hts := B.2.2.2.2.1
  unfold f_X9_run at hf
  refine lv_iload_n hx hb dX9_run_0 rfl (lv_at hl 1 rfl) ?_
  refine lv_iconst (v := (0 : Int32)) hx hb dX9_run_1 (by decide) ?_
  refine lv_sipush (v := (200 : Int32)) hx hb dX9_run_2 (by decide) ?_
  obtain ⟨r2, hq1, hf⟩ := z_b hf
  refine z_ci hW (z_runS (As := [.int l1, .int (0 : Int32), .int (200 : Int32)]) (rest := []) B hW zv_X9_80 (K_X9_isWithin hq1) rfl rfl (Nat.le_of_ble_eq_true rfl) hl.1 ⟨Nat.le_of_ble_eq_true rfl, Nat.le_of_ble_eq_true rfl⟩ dX9_run_5 ⟨Nat.le_of_ble_eq_true rfl, Nat.le_of_ble_eq_true rfl⟩) (fun H locs hW => ?_)
  refine lv_if_ne (tgt := 21) hx hb dX9_run_8 (by decide) (fun hc8 => ?_) (fun hc8 => ?_)
  · replace hf := z_in hc8 hf
    refine lv_aload_n hx hb dX9_run_21 rfl (lv_at hl 0 rfl) ?_
    obtain ⟨hg3, hf⟩ := z_g hf
    obtain ⟨q4, hv5, hf⟩ := z_nn hf
    refine z_getN B hW (Or.inr zf_X9_10) rfl hg3 hv5 dX9_run_22 ?_
    obtain ⟨hg6, hf⟩ := z_g hf
    obtain ⟨r8, hq7, hf⟩ := z_b hf
    refine z_ci hW (z_runV (As := []) (rest := []) B hW zv_X9_133 (K_X2_isTooLate hq7) hg6 rfl rfl rfl (Nat.le_of_ble_eq_true rfl) hl.1 ⟨Nat.le_of_ble_eq_true rfl, Nat.le_of_ble_eq_true rfl⟩ dX9_run_25 ⟨Nat.le_of_ble_eq_true rfl, Nat.le_of_ble_eq_true rfl⟩) (fun H locs hW => ?_)
    refine lv_if_eq (tgt := 41) hx hb dX9_run_28 (by decide) (fun hc28 => ?_) (fun hc28 => ?_)
    · replace hf := z_ip hc28 hf
      refine lv_aload_n hx hb dX9_run_41 rfl (lv_at hl 0 rfl) ?_
      obtain ⟨q9, hv10, hf⟩ := z_nn hf
      refine z_getN B hW (Or.inr zf_X9_22) rfl hg3 hv10 dX9_run_42 ?_
      refine lv_aload_n hx hb dX9_run_45 rfl (lv_at hl 0 rfl) ?_
      obtain ⟨q11, hv12, hf⟩ := z_nn hf
      refine z_getN B hW (Or.inr zf_X9_10) rfl hg3 hv12 dX9_run_46 ?_
      obtain ⟨hg13, hf⟩ := z_g hf
      obtain ⟨σ15, hq14, hf⟩ := z_b hf
      refine z_cv hW (z_runV (As := [.ref q11]) (rest := []) B hW zv_X9_54 (K_X1_save hq14) hg13 rfl rfl rfl (Nat.le_of_ble_eq_true rfl) hl.1 ⟨Nat.le_of_ble_eq_true rfl, Nat.le_of_ble_eq_true rfl⟩ dX9_run_49 ⟨Nat.le_of_ble_eq_true rfl, Nat.le_of_ble_eq_true rfl⟩) (fun H locs hW => ?_)
      refine lv_iconst (v := (0 : Int32)) hx hb dX9_run_52 (by decide) ?_
      refine lv_istore_n (lv' := [(2, .int (0 : Int32)), (0, .ref l0), (1, .int l1)]) hx hb dX9_run_53 rfl hl (by decide) rfl (fun ls hl => ?_)
      unfold f_X9_run_54 at hf
      exact t_X9_run_54 B  zN hf hW (lv_sub hl [1, 2, 0] rfl)
    · replace hf := z_in hc28 hf
      cases hf
  · replace hf := z_ip hc8 hf
    cases hf
set_option maxRecDepth 100000 in
def f_X9_loseToken (σ : zSt) (l0 : Nat) : Option (Int32 × zSt) :=
(if z_ob σ l0 8 then (zc (z_R σ l0 0) none (fun q2 => (if z_ob σ q2 2 then (zl (z_I σ q2 10) (fun x5 => (zc (z_R σ l0 2) none (fun q7 => (zc (z_R σ l0 0) none (fun q9 => (if z_ob σ q7 1 then (zb (f_X1_save σ q7 q9) (fun σ13 => (if z_ob σ13 l0 8 then (zc (z_R σ13 l0 0) none (fun q15 => (if z_ob σ13 q15 2 then (zl (z_pI σ13 q15 10 (-1 : Int32)) (fun σ18 => (some (x5, σ18)))) else none))) else none))) else none))))))) else none))) else none)
set_option maxRecDepth 20000 in
set_option maxHeartbeats 4000000 in
theorem K_X9_loseToken {σ : zSt} {l0 : Nat} {r : Int32} {σ' : zSt} (hf : f_X9_loseToken σ l0 = some (r, σ')) : z_M l D cA bs yX9_loseToken cX9_loseToken 2 (some .int) 5 148 0 0 [.ref l0] σ (z_Qi D cA bs r σ') := by
  refine z_met (own := RX9) (lv := [(0, .ref l0)]) (by decide) rfl (Nat.le_of_ble_eq_true rfl) rfl (fun p e s m below meth c ls B hnm hW hl => ?_)
  have hx := B.1
  have hb := B.2.1
  have hown := B.2.2.2.1
  have hts := B.2.2.2.2.1
  unfold f_X9_loseToken at hf
  refine lv_aload_n hx hb dX9_loseToken_0 rfl (lv_at hl 0 rfl) ?_
  obtain ⟨hg1, hf⟩ := z_g hf
  obtain ⟨q2, hv3, hf⟩ := z_nn hf
  refine z_getN B hW (Or.inr zf_X9_10) rfl hg1 hv3 dX9_loseToken_1 ?_
  obtain ⟨hg4, hf⟩ := z_g hf
  refine z_getI B hW (Or.inl zf_X9_143) rfl hg4 dX9_loseToken_4 ?_
  obtain ⟨x5, hx6, hf⟩ := z_l hf
  rw [hx6]
  refine lv_istore_n (lv' := [(1, .int x5), (0, .ref l0)]) hx hb dX9_loseToken_7 rfl hl (by decide) rfl (fun ls hl => ?_)
  refine lv_aload_n hx hb dX9_loseToken_8 rfl (lv_at hl 1 rfl) ?_
  obtain ⟨q7, hv8, hf⟩ := z_nn hf
  refine z_getN B hW (Or.inr zf_X9_22) rfl hg1 hv8 dX9_loseToken_9 ?_
  refine lv_aload_n hx hb dX9_loseToken_12 rfl (lv_at hl 1 rfl) ?_
  obtain ⟨q9, hv10, hf⟩ := z_nn hf
  refine z_getN B hW (Or.inr zf_X9_10) rfl hg1 hv10 dX9_loseToken_13 ?_
  obtain ⟨hg11, hf⟩ := z_g hf
  obtain ⟨σ13, hq12, hf⟩ := z_b hf
  refine z_cv hW (z_runV (As := [.ref q9]) (rest := []) B hW zv_X9_54 (K_X1_save hq12) hg11 rfl rfl rfl (Nat.le_of_ble_eq_true rfl) hl.1 ⟨Nat.le_of_ble_eq_true rfl, Nat.le_of_ble_eq_true rfl⟩ dX9_loseToken_16 ⟨Nat.le_of_ble_eq_true rfl, Nat.le_of_ble_eq_true rfl⟩) (fun H locs hW => ?_)
  refine lv_aload_n hx hb dX9_loseToken_19 rfl (lv_at hl 1 rfl) ?_
  obtain ⟨hg14, hf⟩ := z_g hf
  obtain ⟨q15, hv16, hf⟩ := z_nn hf
  refine z_getN B hW (Or.inr zf_X9_10) rfl hg14 hv16 dX9_loseToken_20 ?_
  refine lv_iconst (v := (-1 : Int32)) hx hb dX9_loseToken_23 (by decide) ?_
  obtain ⟨hg17, hf⟩ := z_g hf
  obtain ⟨σ18, hs19, hf⟩ := z_l hf
  refine z_putI B hW zf_X9_143 hg17 rfl hs19 dX9_loseToken_24 (fun H locs hW => ?_)
  refine lv_iload_n hx hb dX9_loseToken_27 rfl (lv_at hl 0 rfl) ?_
  obtain ⟨rfl, rfl⟩ := z_e2 hf
  exact z_ri B hW dX9_loseToken_28 (Nat.le_of_ble_eq_true rfl) (Nat.le_of_ble_eq_true rfl)
set_option maxRecDepth 100000 in
def f_X9_setting (σ : zSt) (l0 : Nat) (l1 : Int32) : Option (Int32) :=
(zb (f_X9_isWithin σ l1 (0 : Int32) (8 : Int32)) (fun r2 => (if r2 = 0 then
none
else
(if z_ob σ l0 8 then (zc (z_R σ l0 0) none (fun q4 => (if z_ob σ q4 2 then (zb (f_X2_settingValue σ q4 l1) (fun r8 => (some r8))) else none))) else none))))
set_option maxRecDepth 20000 in
set_option maxHeartbeats 4000000 in
theorem K_X9_setting {σ : zSt} {l0 : Nat} {l1 : Int32} {r : Int32} (hf : f_X9_setting σ l0 l1 = some r) : z_M l D cA bs yX9_setting cX9_setting 2 (some .int) 3 65 0 0 [.ref l0, .int l1] σ (z_Qi D cA bs r σ) := by
  refine z_met (own := RX9) (lv := [(0, .ref l0), (1, .int l1)]) (by decide) rfl (Nat.le_of_ble_eq_true rfl) rfl (fun p e s m below meth c ls B hnm hW hl => ?_)
  have hx := B.1
  have hb := B.2.1
  have hown := B.2.2.2.1
  have hts := B.2.2.2.2.1
  unfold f_X9_setting at hf
  refine lv_iload_n hx hb dX9_setting_0 rfl (lv_at hl 1 rfl) ?_
  refine lv_iconst (v := (0 : Int32)) hx hb dX9_setting_1 (by decide) ?_
  refine lv_bipush (v := (8 : Int32)) hx hb dX9_setting_2 (by decide) ?_
  obtain ⟨r2, hq1, hf⟩ := z_b hf
  refine z_ci hW (z_runS (As := [.int l1, .int (0 : Int32), .int (8 : Int32)]) (rest := []) B hW zv_X9_80 (K_X9_isWithin hq1) rfl rfl (Nat.le_of_ble_eq_true rfl) hl.1 ⟨Nat.le_of_ble_eq_true rfl, Nat.le_of_ble_eq_true rfl⟩ dX9_setting_4 ⟨Nat.le_of_ble_eq_true rfl, Nat.le_of_ble_eq_true rfl⟩) (fun H locs hW => ?_)
  refine lv_if_ne (tgt := 20) hx hb dX9_setting_7 (by decide) (fun hc7 => ?_) (fun hc7 => ?_)
  · replace hf := z_in hc7 hf
    refine lv_aload_n hx hb dX9_setting_20 rfl (lv_at hl 0 rfl) ?_
    obtain ⟨hg3, hf⟩ := z_g hf
    obtain ⟨q4, hv5, hf⟩ := z_nn hf
    refine z_getN B hW (Or.inr zf_X9_10) rfl hg3 hv5 dX9_setting_21 ?_
    refine lv_iload_n hx hb dX9_setting_24 rfl (lv_at hl 1 rfl) ?_
    obtain ⟨hg6, hf⟩ := z_g hf
    obtain ⟨r8, hq7, hf⟩ := z_b hf
    refine z_ci hW (z_runV (As := [.int l1]) (rest := []) B hW zv_X9_148 (K_X2_settingValue hq7) hg6 rfl rfl rfl (Nat.le_of_ble_eq_true rfl) hl.1 ⟨Nat.le_of_ble_eq_true rfl, Nat.le_of_ble_eq_true rfl⟩ dX9_setting_25 ⟨Nat.le_of_ble_eq_true rfl, Nat.le_of_ble_eq_true rfl⟩) (fun H locs hW => ?_)
    obtain rfl := z_e1 hf
    exact z_ri B hW dX9_setting_28 (Nat.le_of_ble_eq_true rfl) (Nat.le_of_ble_eq_true rfl)
  · replace hf := z_ip hc7 hf
    cases hf
end GEN
