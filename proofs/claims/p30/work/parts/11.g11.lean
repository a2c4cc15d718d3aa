section GEN
variable {p : Program} {l : Launch} {e : Env} {s : State} {m : MethodId} {args : Array Value} {below : List Frame} {meth : Method} {c : Code} {D : va_G} {cA : Nat → ClassId} {bs : Nat}
set_option maxRecDepth 100000 in
def f_X9_station (σ : zSt) (l0 : Nat) (l1 : Int32) (l2 : Int32) : Option (Int32) :=
(if z_ob σ l0 8 then (zc (z_R σ l0 0) none (fun q2 => (if z_ob σ q2 2 then (zb (f_X2_stationWith σ q2 l1) (fun r6 => (zc r6
none
(fun a7 => (zb (f_X9_isWithin σ l2 (0 : Int32) (6 : Int32)) (fun r9 => (if r9 = 0 then
none
else
(if z_ob σ a7 6 then (zb (f_X6_value σ a7 l2) (fun r12 => (some r12))) else none)))))))) else none))) else none)
set_option maxRecDepth 20000 in
set_option maxHeartbeats 4000000 in
theorem K_X9_station {σ : zSt} {l0 : Nat} {l1 : Int32} {l2 : Int32} {r : Int32} (hf : f_X9_station σ l0 l1 l2 = some r) : z_M l D cA bs yX9_station cX9_station 4 (some .int) 1 23 0 0 [.ref l0, .int l1, .int l2] σ (z_Qi D cA bs r σ) := by
  refine z_met (own := RX9) (lv := [(0, .ref l0), (1, .int l1), (2, .int l2)]) (by decide) rfl (Nat.le_of_ble_eq_true rfl) rfl (fun p e s m below meth c ls B hnm hW hl => ?_)
  have hx := B.1
  have hb := B.2.1
  have hown := B.2.2.2.1
  have hts := B.2.2.2.2.1
  unfold f_X9_station at hf
  refine lv_aload_n hx hb dX9_station_0 rfl (lv_at hl 0 rfl) ?_
  obtain ⟨hg1, hf⟩ := z_g hf
  obtain ⟨q2, hv3, hf⟩ := z_nn hf
  refine z_getN B hW (Or.inr zf_X9_10) rfl hg1 hv3 dX9_station_1 ?_
  refine lv_iload_n hx hb dX9_station_4 rfl (lv_at hl 1 rfl) ?_
  obtain ⟨hg4, hf⟩ := z_g hf
  obtain ⟨r6, hq5, hf⟩ := z_b hf
  refine z_cq hW (z_runV (As := [.int l1]) (rest := []) B hW zv_X9_41 (K_X2_stationWith hq5) hg4 rfl rfl rfl (Nat.le_of_ble_eq_true rfl) hl.1 ⟨Nat.le_of_ble_eq_true rfl, Nat.le_of_ble_eq_true rfl⟩ dX9_station_5 ⟨Nat.le_of_ble_eq_true rfl, Nat.le_of_ble_eq_true rfl⟩) (fun H locs hW => ?_)
  refine z_astore_n (lv' := [(3, va_rf r6), (0, .ref l0), (1, .int l1), (2, .int l2)]) hx hb dX9_station_8 rfl hl (by decide) rfl (fun ls hl => ?_)
  refine z_aload_n hx hb dX9_station_9 rfl (lv_at hl 0 rfl) ?_
  refine z_ifnonnull (tgt := 23) hx hb dX9_station_10 (by decide) (fun hz13 => ?_) (fun a7 hz13 => ?_)
  · subst hz13
    replace hf := z_c0 hf
    cases hf
  · subst hz13
    replace hf := z_c1 hf
    refine lv_iload_n hx hb dX9_station_23 rfl (lv_at hl 3 rfl) ?_
    refine lv_iconst (v := (0 : Int32)) hx hb dX9_station_24 (by decide) ?_
    refine lv_bipush (v := (6 : Int32)) hx hb dX9_station_25 (by decide) ?_
    obtain ⟨r9, hq8, hf⟩ := z_b hf
    refine z_ci hW (z_runS (As := [.int l2, .int (0 : Int32), .int (6 : Int32)]) (rest := []) B hW zv_X9_80 (K_X9_isWithin hq8) rfl rfl (Nat.le_of_ble_eq_true rfl) hl.1 ⟨Nat.le_of_ble_eq_true rfl, Nat.le_of_ble_eq_true rfl⟩ dX9_station_27 ⟨Nat.le_of_ble_eq_true rfl, Nat.le_of_ble_eq_true rfl⟩) (fun H locs hW => ?_)
    refine lv_if_ne (tgt := 43) hx hb dX9_station_30 (by decide) (fun hc30 => ?_) (fun hc30 => ?_)
    · replace hf := z_in hc30 hf
      refine lv_aload_n hx hb dX9_station_43 rfl (lv_at hl 0 rfl) ?_
      refine lv_iload_n hx hb dX9_station_44 rfl (lv_at hl 3 rfl) ?_
      obtain ⟨hg10, hf⟩ := z_g hf
      obtain ⟨r12, hq11, hf⟩ := z_b hf
      refine z_ci hW (z_runV (As := [.int l2]) (rest := []) B hW zv_X9_154 (K_X6_value hq11) hg10 rfl rfl rfl (Nat.le_of_ble_eq_true rfl) hl.1 ⟨Nat.le_of_ble_eq_true rfl, Nat.le_of_ble_eq_true rfl⟩ dX9_station_45 ⟨Nat.le_of_ble_eq_true rfl, Nat.le_of_ble_eq_true rfl⟩) (fun H locs hW => ?_)
      obtain rfl := z_e1 hf
      exact z_ri B hW dX9_station_48 (Nat.le_of_ble_eq_true rfl) (Nat.le_of_ble_eq_true rfl)
    · replace hf := z_ip hc30 hf
      cases hf
set_option maxRecDepth 100000 in
def f_X9_addressAt (σ : zSt) (l0 : Nat) (l1 : Int32) : Option (Int32) :=
(if z_ob σ l0 8 then (zc (z_R σ l0 0) none (fun q2 => (if z_ob σ q2 2 then (zb (f_X2_stationIn σ q2 l1) (fun r6 => (zc r6
none
(fun a7 => (if z_ob σ a7 6 then (some (z_I σ a7 0)) else none))))) else none))) else none)
set_option maxRecDepth 20000 in
set_option maxHeartbeats 4000000 in
theorem K_X9_addressAt {σ : zSt} {l0 : Nat} {l1 : Int32} {r : Int32} (hf : f_X9_addressAt σ l0 l1 = some r) : z_M l D cA bs yX9_addressAt cX9_addressAt 3 (some .int) 1 21 0 0 [.ref l0, .int l1] σ (z_Qi D cA bs r σ) := by
  refine z_met (own := RX9) (lv := [(0, .ref l0), (1, .int l1)]) (by decide) rfl (Nat.le_of_ble_eq_true rfl) rfl (fun p e s m below meth c ls B hnm hW hl => ?_)
  have hx := B.1
  have hb := B.2.1
  have hown := B.2.2.2.1
  have hts := B.2.2.2.2.1
  unfold f_X9_addressAt at hf
  refine lv_aload_n hx hb dX9_addressAt_0 rfl (lv_at hl 0 rfl) ?_
  obtain ⟨hg1, hf⟩ := z_g hf
  obtain ⟨q2, hv3, hf⟩ := z_nn hf
  refine z_getN B hW (Or.inr zf_X9_10) rfl hg1 hv3 dX9_addressAt_1 ?_
  refine lv_iload_n hx hb dX9_addressAt_4 rfl (lv_at hl 1 rfl) ?_
  obtain ⟨hg4, hf⟩ := z_g hf
  obtain ⟨r6, hq5, hf⟩ := z_b hf
  refine z_cq hW (z_runV (As := [.int l1]) (rest := []) B hW zv_X9_157 (K_X2_stationIn hq5) hg4 rfl rfl rfl (Nat.le_of_ble_eq_true rfl) hl.1 ⟨Nat.le_of_ble_eq_true rfl, Nat.le_of_ble_eq_true rfl⟩ dX9_addressAt_5 ⟨Nat.le_of_ble_eq_true rfl, Nat.le_of_ble_eq_true rfl⟩) (fun H locs hW => ?_)
  refine z_astore_n (lv' := [(2, va_rf r6), (0, .ref l0), (1, .int l1)]) hx hb dX9_addressAt_8 rfl hl (by decide) rfl (fun ls hl => ?_)
  refine z_aload_n hx hb dX9_addressAt_9 rfl (lv_at hl 0 rfl) ?_
  refine z_ifnonnull (tgt := 23) hx hb dX9_addressAt_10 (by decide) (fun hz9 => ?_) (fun a7 hz9 => ?_)
  · subst hz9
    replace hf := z_c0 hf
    cases hf
  · subst hz9
    replace hf := z_c1 hf
    refine lv_aload_n hx hb dX9_addressAt_23 rfl (lv_at hl 0 rfl) ?_
    obtain ⟨hg8, hf⟩ := z_g hf
    refine z_getI B hW (Or.inl zf_X9_165) rfl hg8 dX9_addressAt_24 ?_
    obtain rfl := z_e1 hf
    exact z_ri B hW dX9_addressAt_27 (Nat.le_of_ble_eq_true rfl) (Nat.le_of_ble_eq_true rfl)
set_option maxRecDepth 100000 in
def f_X9_message (σ : zSt) (l0 : Nat) (l1 : Int32) (l2 : Int32) : Option (Int32) :=
(if z_ob σ l0 8 then (zc (z_R σ l0 0) none (fun q2 => (if z_ob σ q2 2 then (zc (z_R σ q2 1) none (fun q5 => (if z_ob σ q5 3 then (zb (f_X3_has σ q5 l1) (fun r9 => (if r9 = 0 then
none
else
(zb (f_X9_isWithin σ l2 (0 : Int32) (4 : Int32)) (fun r11 => (if r11 = 0 then
none
else
(zc (z_R σ l0 0) none (fun q12 => (if z_ob σ q12 2 then (zc (z_R σ q12 1) none (fun q15 => (if z_ob σ q15 3 then (zb (f_X3_value σ q15 l1 l2) (fun r19 => (some r19))) else none))) else none))))))))) else none))) else none))) else none)
set_option maxRecDepth 20000 in
set_option maxHeartbeats 4000000 in
theorem K_X9_message {σ : zSt} {l0 : Nat} {l1 : Int32} {l2 : Int32} {r : Int32} (hf : f_X9_message σ l0 l1 l2 = some r) : z_M l D cA bs yX9_message cX9_message 3 (some .int) 2 45 0 0 [.ref l0, .int l1, .int l2] σ (z_Qi D cA bs r σ) := by
  refine z_met (own := RX9) (lv := [(0, .ref l0), (1, .int l1), (2, .int l2)]) (by decide) rfl (Nat.le_of_ble_eq_true rfl) rfl (fun p e s m below meth c ls B hnm hW hl => ?_)
  have hx := B.1
  have hb := B.2.1
  have hown := B.2.2.2.1
  have hts := B.2.2.2.2.1
  unfold f_X9_message at hf
  refine lv_aload_n hx hb dX9_message_0 rfl (lv_at hl 0 rfl) ?_
  obtain ⟨hg1, hf⟩ := z_g hf
  obtain ⟨q2, hv3, hf⟩ := z_nn hf
  refine z_getN B hW (Or.inr zf_X9_10) rfl hg1 hv3 dX9_message_1 ?_
  obtain ⟨hg4, hf⟩ := z_g hf
  obtain ⟨q5, hv6, hf⟩ := z_nn hf
  refine z_getN B hW (Or.inr zf_X9_97) rfl hg4 hv6 dX9_message_4 ?_
  refine lv_iload_n hx hb dX9_message_7 rfl (lv_at hl 1 rfl) ?_
  obtain ⟨hg7, hf⟩ := z_g hf
  obtain ⟨r9, hq8, hf⟩ := z_b hf
  refine z_ci hW (z_runV (As := [.int l1]) (rest := []) B hW zv_X9_177 (K_X3_has hq8) hg7 rfl rfl rfl (Nat.le_of_ble_eq_true rfl) hl.1 ⟨Nat.le_of_ble_eq_true rfl, Nat.le_of_ble_eq_true rfl⟩ dX9_message_8 ⟨Nat.le_of_ble_eq_true rfl, Nat.le_of_ble_eq_true rfl⟩) (fun H locs hW => ?_)
  refine lv_if_ne (tgt := 24) hx hb dX9_message_11 (by decide) (fun hc11 => ?_) (fun hc11 => ?_)
  · replace hf := z_in hc11 hf
    refine lv_iload_n hx hb dX9_message_24 rfl (lv_at hl 2 rfl) ?_
    refine lv_iconst (v := (0 : Int32)) hx hb dX9_message_25 (by decide) ?_
    refine lv_iconst (v := (4 : Int32)) hx hb dX9_message_26 (by decide) ?_
    obtain ⟨r11, hq10, hf⟩ := z_b hf
    refine z_ci hW (z_runS (As := [.int l2, .int (0 : Int32), .int (4 : Int32)]) (rest := []) B hW zv_X9_80 (K_X9_isWithin hq10) rfl rfl (Nat.le_of_ble_eq_true rfl) hl.1 ⟨Nat.le_of_ble_eq_true rfl, Nat.le_of_ble_eq_true rfl⟩ dX9_message_27 ⟨Nat.le_of_ble_eq_true rfl, Nat.le_of_ble_eq_true rfl⟩) (fun H locs hW => ?_)
    refine lv_if_ne (tgt := 43) hx hb dX9_message_30 (by decide) (fun hc30 => ?_) (fun hc30 => ?_)
    · replace hf := z_in hc30 hf
      refine lv_aload_n hx hb dX9_message_43 rfl (lv_at hl 0 rfl) ?_
      obtain ⟨q12, hv13, hf⟩ := z_nn hf
      refine z_getN B hW (Or.inr zf_X9_10) rfl hg1 hv13 dX9_message_44 ?_
      obtain ⟨hg14, hf⟩ := z_g hf
      obtain ⟨q15, hv16, hf⟩ := z_nn hf
      refine z_getN B hW (Or.inr zf_X9_97) rfl hg14 hv16 dX9_message_47 ?_
      refine lv_iload_n hx hb dX9_message_50 rfl (lv_at hl 1 rfl) ?_
      refine lv_iload_n hx hb dX9_message_51 rfl (lv_at hl 2 rfl) ?_
      obtain ⟨hg17, hf⟩ := z_g hf
      obtain ⟨r19, hq18, hf⟩ := z_b hf
      refine z_ci hW (z_runV (As := [.int l1, .int l2]) (rest := []) B hW zv_X9_184 (K_X3_value hq18) hg17 rfl rfl rfl (Nat.le_of_ble_eq_true rfl) hl.1 ⟨Nat.le_of_ble_eq_true rfl, Nat.le_of_ble_eq_true rfl⟩ dX9_message_52 ⟨Nat.le_of_ble_eq_true rfl, Nat.le_of_ble_eq_true rfl⟩) (fun H locs hW => ?_)
      obtain rfl := z_e1 hf
      exact z_ri B hW dX9_message_55 (Nat.le_of_ble_eq_true rfl) (Nat.le_of_ble_eq_true rfl)
    · replace hf := z_ip hc30 hf
      cases hf
  · replace hf := z_ip hc11 hf
    cases hf
set_option maxRecDepth 100000 in
def f_X9_count (σ : zSt) (l0 : Nat) (l1 : Int32) : Option (Int32) :=
(zb (f_X9_isWithin σ l1 (0 : Int32) (6 : Int32)) (fun r2 => (if r2 = 0 then
none
else
(if z_ob σ l0 8 then (zc (z_R σ l0 0) none (fun q4 => (if z_ob σ q4 2 then (zc (z_R σ q4 3) none (fun q7 => (if z_ob σ q7 0 then (zb (f_X0_value σ q7 l1) (fun r11 => (some r11))) else none))) else none))) else none))))
set_option maxRecDepth 20000 in
set_option maxHeartbeats 4000000 in
theorem K_X9_count {σ : zSt} {l0 : Nat} {l1 : Int32} {r : Int32} (hf : f_X9_count σ l0 l1 = some r) : z_M l D cA bs yX9_count cX9_count 2 (some .int) 1 22 0 0 [.ref l0, .int l1] σ (z_Qi D cA bs r σ) := by
  refine z_met (own := RX9) (lv := [(0, .ref l0), (1, .int l1)]) (by decide) rfl (Nat.le_of_ble_eq_true rfl) rfl (fun p e s m below meth c ls B hnm hW hl => ?_)
  have hx := B.1
  have hb := B.2.1
  have hown := B.2.2.2.1
  have hts := B.2.2.2.2.1
  unfold f_X9_count at hf
  refine lv_iload_n hx hb dX9_count_0 rfl (lv_at hl 1 rfl) ?_
  refine lv_iconst (v := (0 : Int32)) hx hb dX9_count_1 (by decide) ?_
  refine lv_bipush (v := (6 : Int32)) hx hb dX9_count_2 (by decide) ?_
  obtain ⟨r2, hq1, hf⟩ := z_b hf
  refine z_ci hW (z_runS (As := [.int l1, .int (0 : Int32), .int (6 : Int32)]) (rest := []) B hW zv_X9_80 (K_X9_isWithin hq1) rfl rfl (Nat.le_of_ble_eq_true rfl) hl.1 ⟨Nat.le_of_ble_eq_true rfl, Nat.le_of_ble_eq_true rfl⟩ dX9_count_4 ⟨Nat.le_of_ble_eq_true rfl, Nat.le_of_ble_eq_true rfl⟩) (fun H locs hW => ?_)
  refine lv_if_ne (tgt := 20) hx hb dX9_count_7 (by decide) (fun hc7 => ?_) (fun hc7 => ?_)
  · replace hf := z_in hc7 hf
    refine lv_aload_n hx hb dX9_count_20 rfl (lv_at hl 0 rfl) ?_
    obtain ⟨hg3, hf⟩ := z_g hf
    obtain ⟨q4, hv5, hf⟩ := z_nn hf
    refine z_getN B hW (Or.inr zf_X9_10) rfl hg3 hv5 dX9_count_21 ?_
    obtain ⟨hg6, hf⟩ := z_g hf
    obtain ⟨q7, hv8, hf⟩ := z_nn hf
    refine z_getN B hW (Or.inr zf_X9_191) rfl hg6 hv8 dX9_count_24 ?_
    refine lv_iload_n hx hb dX9_count_27 rfl (lv_at hl 1 rfl) ?_
    obtain ⟨hg9, hf⟩ := z_g hf
    obtain ⟨r11, hq10, hf⟩ := z_b hf
    refine z_ci hW (z_runV (As := [.int l1]) (rest := []) B hW zv_X9_195 (K_X0_value hq10) hg9 rfl rfl rfl (Nat.le_of_ble_eq_true rfl) hl.1 ⟨Nat.le_of_ble_eq_true rfl, Nat.le_of_ble_eq_true rfl⟩ dX9_count_28 ⟨Nat.le_of_ble_eq_true rfl, Nat.le_of_ble_eq_true rfl⟩) (fun H locs hW => ?_)
    obtain rfl := z_e1 hf
    exact z_ri B hW dX9_count_31 (Nat.le_of_ble_eq_true rfl) (Nat.le_of_ble_eq_true rfl)
  · replace hf := z_ip hc7 hf
    cases hf
set_option maxRecDepth 100000 in
def f_X9_logged (σ : zSt) (l0 : Nat) : Option (Int32) :=
(if z_ob σ l0 8 then (zc (z_R σ l0 0) none (fun q2 => (if z_ob σ q2 2 then (zb (f_X2_logLength σ q2) (fun r6 => (some r6))) else none))) else none)
set_option maxRecDepth 20000 in
set_option maxHeartbeats 4000000 in
theorem K_X9_logged {σ : zSt} {l0 : Nat} {r : Int32} (hf : f_X9_logged σ l0 = some r) : z_M l D cA bs yX9_logged cX9_logged 1 (some .int) 2 45 0 0 [.ref l0] σ (z_Qi D cA bs r σ) := by
  refine z_met (own := RX9) (lv := [(0, .ref l0)]) (by decide) rfl (Nat.le_of_ble_eq_true rfl) rfl (fun p e s m below meth c ls B hnm hW hl => ?_)
  have hx := B.1
  have hb := B.2.1
  have hown := B.2.2.2.1
  have hts := B.2.2.2.2.1
  unfold f_X9_logged at hf
  refine lv_aload_n hx hb dX9_logged_0 rfl (lv_at hl 0 rfl) ?_
  obtain ⟨hg1, hf⟩ := z_g hf
  obtain ⟨q2, hv3, hf⟩ := z_nn hf
  refine z_getN B hW (Or.inr zf_X9_10) rfl hg1 hv3 dX9_logged_1 ?_
  obtain ⟨hg4, hf⟩ := z_g hf
  obtain ⟨r6, hq5, hf⟩ := z_b hf
  refine z_ci hW (z_runV (As := []) (rest := []) B hW zv_X9_202 (K_X2_logLength hq5) hg4 rfl rfl rfl (Nat.le_of_ble_eq_true rfl) hl.1 ⟨Nat.le_of_ble_eq_true rfl, Nat.le_of_ble_eq_true rfl⟩ dX9_logged_4 ⟨Nat.le_of_ble_eq_true rfl, Nat.le_of_ble_eq_true rfl⟩) (fun H locs hW => ?_)
  obtain rfl := z_e1 hf
  exact z_ri B hW dX9_logged_7 (Nat.le_of_ble_eq_true rfl) (Nat.le_of_ble_eq_true rfl)
set_option maxRecDepth 100000 in
def f_X9_visit (σ : zSt) (l0 : Nat) (l1 : Int32) (l2 : Int32) : Option (Int32) :=
(if z_ob σ l0 8 then (zc (z_R σ l0 0) none (fun q2 => (if z_ob σ q2 2 then (zb (f_X2_logLength σ q2) (fun r6 => (zb (f_X9_isWithin σ l1 (0 : Int32) (r6 - (1 : Int32))) (fun r8 => (if r8 = 0 then
none
else
(zb (f_X9_isWithin σ l2 (0 : Int32) (3 : Int32)) (fun r10 => (if r10 = 0 then
none
else
(zc (z_R σ l0 0) none (fun q11 => (if z_ob σ q11 2 then (zb (f_X2_logValue σ q11 l1 l2) (fun r15 => (some r15))) else none))))))))))) else none))) else none)
set_option maxRecDepth 20000 in
set_option maxHeartbeats 4000000 in
theorem K_X9_visit {σ : zSt} {l0 : Nat} {l1 : Int32} {l2 : Int32} {r : Int32} (hf : f_X9_visit σ l0 l1 l2 = some r) : z_M l D cA bs yX9_visit cX9_visit 3 (some .int) 3 68 0 0 [.ref l0, .int l1, .int l2] σ (z_Qi D cA bs r σ) := by
  refine z_met (own := RX9) (lv := [(0, .ref l0), (1, .int l1), (2, .int l2)]) (by decide) rfl (Nat.le_of_ble_eq_true rfl) rfl (fun p e s m below meth c ls B hnm hW hl => ?_)
  have hx := B.1
  have hb := B.2.1
  have hown := B.2.2.2.1
  have hts := B.2.2.2.2.1
  unfold f_X9_visit at hf
  refine lv_iload_n hx hb dX9_visit_0 rfl (lv_at hl 1 rfl) ?_
  refine lv_iconst (v := (0 : Int32)) hx hb dX9_visit_1 (by decide) ?_
  refine lv_aload_n hx hb dX9_visit_2 rfl (lv_at hl 0 rfl) ?_
  obtain ⟨hg1, hf⟩ := z_g hf
  obtain ⟨q2, hv3, hf⟩ := z_nn hf
  refine z_getN B hW (Or.inr zf_X9_10) rfl hg1 hv3 dX9_visit_3 ?_
  obtain ⟨hg4, hf⟩ := z_g hf
  obtain ⟨r6, hq5, hf⟩ := z_b hf
  refine z_ci hW (z_runV (As := []) (rest := [.int (0 : Int32), .int l1]) B hW zv_X9_202 (K_X2_logLength hq5) hg4 rfl rfl rfl (Nat.le_of_ble_eq_true rfl) hl.1 ⟨Nat.le_of_ble_eq_true rfl, Nat.le_of_ble_eq_true rfl⟩ dX9_visit_6 ⟨Nat.le_of_ble_eq_true rfl, Nat.le_of_ble_eq_true rfl⟩) (fun H locs hW => ?_)
  refine lv_iconst (v := (1 : Int32)) hx hb dX9_visit_9 (by decide) ?_
  refine lv_isub hx hb dX9_visit_10 ?_
  obtain ⟨r8, hq7, hf⟩ := z_b hf
  refine z_ci hW (z_runS (As := [.int l1, .int (0 : Int32), .int (r6 - (1 : Int32))]) (rest := []) B hW zv_X9_80 (K_X9_isWithin hq7) rfl rfl (Nat.le_of_ble_eq_true rfl) hl.1 ⟨Nat.le_of_ble_eq_true rfl, Nat.le_of_ble_eq_true rfl⟩ dX9_visit_11 ⟨Nat.le_of_ble_eq_true rfl, Nat.le_of_ble_eq_true rfl⟩) (fun H locs hW => ?_)
  refine lv_if_ne (tgt := 27) hx hb dX9_visit_14 (by decide) (fun hc14 => ?_) (fun hc14 => ?_)
  · replace hf := z_in hc14 hf
    refine lv_iload_n hx hb dX9_visit_27 rfl (lv_at hl 2 rfl) ?_
    refine lv_iconst (v := (0 : Int32)) hx hb dX9_visit_28 (by decide) ?_
    refine lv_iconst (v := (3 : Int32)) hx hb dX9_visit_29 (by decide) ?_
    obtain ⟨r10, hq9, hf⟩ := z_b hf
    refine z_ci hW (z_runS (As := [.int l2, .int (0 : Int32), .int (3 : Int32)]) (rest := []) B hW zv_X9_80 (K_X9_isWithin hq9) rfl rfl (Nat.le_of_ble_eq_true rfl) hl.1 ⟨Nat.le_of_ble_eq_true rfl, Nat.le_of_ble_eq_true rfl⟩ dX9_visit_30 ⟨Nat.le_of_ble_eq_true rfl, Nat.le_of_ble_eq_true rfl⟩) (fun H locs hW => ?_)
    refine lv_if_ne (tgt := 46) hx hb dX9_visit_33 (by decide) (fun hc33 => ?_) (fun hc33 => ?_)
    · replace hf := z_in hc33 hf
      refine lv_aload_n hx hb dX9_visit_46 rfl (lv_at hl 0 rfl) ?_
      obtain ⟨q11, hv12, hf⟩ := z_nn hf
      refine z_getN B hW (Or.inr zf_X9_10) rfl hg1 hv12 dX9_visit_47 ?_
      refine lv_iload_n hx hb dX9_visit_50 rfl (lv_at hl 1 rfl) ?_
      refine lv_iload_n hx hb dX9_visit_51 rfl (lv_at hl 2 rfl) ?_
      obtain ⟨hg13, hf⟩ := z_g hf
      obtain ⟨r15, hq14, hf⟩ := z_b hf
      refine z_ci hW (z_runV (As := [.int l1, .int l2]) (rest := []) B hW zv_X9_210 (K_X2_logValue hq14) hg13 rfl rfl rfl (Nat.le_of_ble_eq_true rfl) hl.1 ⟨Nat.le_of_ble_eq_true rfl, Nat.le_of_ble_eq_true rfl⟩ dX9_visit_52 ⟨Nat.le_of_ble_eq_true rfl, Nat.le_of_ble_eq_true rfl⟩) (fun H locs hW => ?_)
      obtain rfl := z_e1 hf
      exact z_ri B hW dX9_visit_55 (Nat.le_of_ble_eq_true rfl) (Nat.le_of_ble_eq_true rfl)
    · replace hf := z_ip hc33 hf
      cases hf
  · replace hf := z_ip hc14 hf
    cases hf
set_option maxRecDepth 100000 in
def f_X9_greatestRotation (σ : zSt) (l0 : Nat) : Option (Int32) :=
(if z_ob σ l0 8 then (zc (z_R σ l0 0) none (fun q2 => (if z_ob σ q2 2 then (zc (z_R σ q2 3) none (fun q5 => (if z_ob σ q5 0 then (some (z_I σ q5 7)) else none))) else none))) else none)
set_option maxRecDepth 20000 in
set_option maxHeartbeats 4000000 in
theorem K_X9_greatestRotation {σ : zSt} {l0 : Nat} {r : Int32} (hf : f_X9_greatestRotation σ l0 = some r) : z_M l D cA bs yX9_greatestRotation cX9_greatestRotation 1 (some .int) 0 0 0 0 [.ref l0] σ (z_Qi D cA bs r σ) := by
  refine z_met (own := RX9) (lv := [(0, .ref l0)]) (by decide) rfl (Nat.le_of_ble_eq_true rfl) rfl (fun p e s m below meth c ls B hnm hW hl => ?_)
  have hx := B.1
  have hb := B.2.1
  have hown := B.2.2.2.1
  have hts := B.2.2.2.2.1
  unfold f_X9_greatestRotation at hf
  refine lv_aload_n hx hb dX9_greatestRotation_0 rfl (lv_at hl 0 rfl) ?_
  obtain ⟨hg1, hf⟩ := z_g hf
  obtain ⟨q2, hv3, hf⟩ := z_nn hf
  refine z_getN B hW (Or.inr zf_X9_10) rfl hg1 hv3 dX9_greatestRotation_1 ?_
  obtain ⟨hg4, hf⟩ := z_g hf
  obtain ⟨q5, hv6, hf⟩ := z_nn hf
  refine z_getN B hW (Or.inr zf_X9_191) rfl hg4 hv6 dX9_greatestRotation_4 ?_
  obtain ⟨hg7, hf⟩ := z_g hf
  refine z_getI B hW (Or.inl zf_X9_213) rfl hg7 dX9_greatestRotation_7 ?_
  obtain rfl := z_e1 hf
  exact z_ri B hW dX9_greatestRotation_10 (Nat.le_of_ble_eq_true rfl) (Nat.le_of_ble_eq_true rfl)
set_option maxRecDepth 100000 in
def f_X9_waits_40 (σ : zSt) (s0 : UInt64) : Option (UInt64) :=
(some s0)
set_option maxRecDepth 20000 in
set_option maxHeartbeats 4000000 in
theorem t_X9_waits_40 (B : z_B p s m args meth c D cA bs RX9 cX9_waits 3 (some .double)) {r : UInt64} {σ : zSt} {s0 : UInt64} (hf : f_X9_waits_40 σ s0 = some r) {H : Heap} {locs : List Loc} {ls : Array Slot} (hW : z_Ok D cA bs s σ H locs) (hl : lv_has ls 3 [])  : W p l e (zrm 0 0 0 0) s m args below meth c H locs 0 0 (MQ below (z_Qd D cA bs r σ) args s 0 0 (fun q => bs ≤ q)) (F0 m 40 ls [.double s0]) := by
  have hx := B.1
  have hb := B.2.1
  have hown := B.2.2.2.1
  have hts := B.2.2.2.2.1
  unfold f_X9_waits_40 at hf
  obtain rfl := z_e1 hf
  exact z_rd B hW dX9_waits_40 (Nat.le_of_ble_eq_true rfl) (Nat.le_of_ble_eq_true rfl)
set_option maxRecDepth 100000 in
def f_X9_waits (σ : zSt) (l0 : Nat) (l1 : Int32) : Option (UInt64) :=
(if z_ob σ l0 8 then (zc (z_R σ l0 0) none (fun q2 => (if z_ob σ q2 2 then (zc (z_R σ q2 3) none (fun q5 => (if z_ob σ q5 0 then (if (z_I σ q5 1) = 0 then
(some FP.dconst0)
else
(if l1 = 0 then
(if vf_n64b (FP.ddiv (FP.l2d (z_J σ q5 9)) (FP.i2d (z_I σ q5 1))) then (f_X9_waits_40 σ (FP.ddiv (FP.l2d (z_J σ q5 9)) (FP.i2d (z_I σ q5 1)))) else none)
else
(f_X9_waits_40 σ (FP.i2d (z_I σ q5 8))))) else none))) else none))) else none)
set_option maxRecDepth 20000 in
set_option maxHeartbeats 4000000 in
theorem K_X9_waits {σ : zSt} {l0 : Nat} {l1 : Int32} {r : UInt64} (hf : f_X9_waits σ l0 l1 = some r) : z_M l D cA bs yX9_waits cX9_waits 3 (some .double) 0 0 0 0 [.ref l0, .int l1] σ (z_Qd D cA bs r σ) := by
  refine z_met (own := RX9) (lv := [(0, .ref l0), (1, .int l1)]) (by decide) rfl (Nat.le_of_ble_eq_true rfl) rfl (fun p e s m below meth c ls B hnm hW hl => ?_)
  have hx := B.1
  have hb := B.2.1
  have hown := B.2.2.2.1
  have hts := B.2.2.2.2.1
  unfold f_X9_waits at hf
  refine lv_aload_n hx hb dX9_waits_0 rfl (lv_at hl 0 rfl) ?_
  obtain ⟨hg1, hf⟩ := z_g hf
  obtain ⟨q2, hv3, hf⟩ := z_nn hf
  refine z_getN B hW (Or.inr zf_X9_10) rfl hg1 hv3 dX9_waits_1 ?_
  obtain ⟨hg4, hf⟩ := z_g hf
  obtain ⟨q5, hv6, hf⟩ := z_nn hf
  refine z_getN B hW (Or.inr zf_X9_191) rfl hg4 hv6 dX9_waits_4 ?_
  refine lv_astore_n (lv' := [(2, .ref q5), (0, .ref l0), (1, .int l1)]) hx hb dX9_waits_7 rfl hl (by decide) rfl (fun ls hl => ?_)
  refine lv_aload_n hx hb dX9_waits_8 rfl (lv_at hl 0 rfl) ?_
  obtain ⟨hg7, hf⟩ := z_g hf
  refine z_getI B hW (Or.inl zf_X9_216) rfl hg7 dX9_waits_9 ?_
  refine lv_if_ne (tgt := 17) hx hb dX9_waits_12 (by decide) (fun hc12 => ?_) (fun hc12 => ?_)
  · replace hf := z_in hc12 hf
    refine lv_iload_n hx hb dX9_waits_17 rfl (lv_at hl 2 rfl) ?_
    refine lv_if_eq (tgt := 29) hx hb dX9_waits_18 (by decide) (fun hc18 => ?_) (fun hc18 => ?_)
    · replace hf := z_ip hc18 hf
      refine lv_aload_n hx hb dX9_waits_29 rfl (lv_at hl 0 rfl) ?_
      refine z_getJ B hW (Or.inl zf_X9_222) rfl hg7 dX9_waits_30 ?_
      refine lv_l2d hx hb dX9_waits_33 ?_
      refine lv_aload_n hx hb dX9_waits_34 rfl (lv_at hl 0 rfl) ?_
      refine z_getI B hW (Or.inl zf_X9_216) rfl hg7 dX9_waits_35 ?_
      refine lv_i2d hx hb dX9_waits_38 ?_
      obtain ⟨hg8, hf⟩ := z_g hf
      refine lv_ddiv hx hb dX9_waits_39 (vf_n64b_of hg8) ?_
      exact t_X9_waits_40 B hf hW (lv_sub hl [] rfl) 
    · replace hf := z_in hc18 hf
      refine lv_aload_n hx hb dX9_waits_21 rfl (lv_at hl 0 rfl) ?_
      refine z_getI B hW (Or.inl zf_X9_219) rfl hg7 dX9_waits_22 ?_
      refine lv_i2d hx hb dX9_waits_25 ?_
      refine lv_goto (tgt := 40) hx hb dX9_waits_26 (by decide) ?_
      exact t_X9_waits_40 B hf hW (lv_sub hl [] rfl) 
  · replace hf := z_ip hc12 hf
    refine lv_dconst0 hx hb dX9_waits_15 ?_
    obtain rfl := z_e1 hf
    exact z_rd B hW dX9_waits_16 (Nat.le_of_ble_eq_true rfl) (Nat.le_of_ble_eq_true rfl)
set_option maxRecDepth 100000 in
def f_X9_use_34 (σ : zSt) (s0 : UInt64) : Option (UInt64) :=
(some s0)
set_option maxRecDepth 20000 in
set_option maxHeartbeats 4000000 in
theorem t_X9_use_34 (B : z_B p s m args meth c D cA bs RX9 cX9_use 1 (some .double)) {r : UInt64} {σ : zSt} {s0 : UInt64} (hf : f_X9_use_34 σ s0 = some r) {H : Heap} {locs : List Loc} {ls : Array Slot} (hW : z_Ok D cA bs s σ H locs) (hl : lv_has ls 1 [])  : W p l e (zrm 0 0 0 0) s m args below meth c H locs 0 0 (MQ below (z_Qd D cA bs r σ) args s 0 0 (fun q => bs ≤ q)) (F0 m 34 ls [.double s0]) := by
  have hx := B.1
  have hb := B.2.1
  have hown := B.2.2.2.1
  have hts := B.2.2.2.2.1
  unfold f_X9_use_34 at hf
  obtain rfl := z_e1 hf
  exact z_rd B hW dX9_use_34 (Nat.le_of_ble_eq_true rfl) (Nat.le_of_ble_eq_true rfl)
set_option maxRecDepth 100000 in
def f_X9_use (σ : zSt) (l0 : Nat) : Option (UInt64) :=
(if z_ob σ l0 8 then (zc (z_R σ l0 0) none (fun q2 => (if z_ob σ q2 2 then (if (z_I σ q2 9) = 0 then
(f_X9_use_34 σ FP.dconst0)
else
(zc (z_R σ l0 0) none (fun q5 => (if z_ob σ q5 2 then (zc (z_R σ q5 3) none (fun q8 => (if z_ob σ q8 0 then (zc (z_R σ l0 0) none (fun q11 => (if z_ob σ q11 2 then (if vf_n64b (FP.ddiv (FP.i2d (z_I σ q8 6)) (FP.i2d (z_I σ q11 9))) then (f_X9_use_34 σ (FP.ddiv (FP.i2d (z_I σ q8 6)) (FP.i2d (z_I σ q11 9)))) else none) else none))) else none))) else none)))) else none))) else none)
set_option maxRecDepth 20000 in
set_option maxHeartbeats 4000000 in
theorem K_X9_use {σ : zSt} {l0 : Nat} {r : UInt64} (hf : f_X9_use σ l0 = some r) : z_M l D cA bs yX9_use cX9_use 1 (some .double) 0 0 0 0 [.ref l0] σ (z_Qd D cA bs r σ) := by
  refine z_met (own := RX9) (lv := [(0, .ref l0)]) (by decide) rfl (Nat.le_of_ble_eq_true rfl) rfl (fun p e s m below meth c ls B hnm hW hl => ?_)
  have hx := B.1
  have hb := B.2.1
  have hown := B.2.2.2.1
  have hts := B.2.2.2.2.1
  unfold f_X9_use at hf
  refine lv_aload_n hx hb dX9_use_0 rfl (lv_at hl 0 rfl) ?_
  obtain ⟨hg1, hf⟩ := z_g hf
  obtain ⟨q2, hv3, hf⟩ := z_nn hf
  refine z_getN B hW (Or.inr zf_X9_10) rfl hg1 hv3 dX9_use_1 ?_
  obtain ⟨hg4, hf⟩ := z_g hf
  refine z_getI B hW (Or.inl zf_X9_106) rfl hg4 dX9_use_4 ?_
  refine lv_if_ne (tgt := 14) hx hb dX9_use_7 (by decide) (fun hc7 => ?_) (fun hc7 => ?_)
  · replace hf := z_in hc7 hf
    refine lv_aload_n hx hb dX9_use_14 rfl (lv_at hl 0 rfl) ?_
    obtain ⟨q5, hv6, hf⟩ := z_nn hf
    refine z_getN B hW (Or.inr zf_X9_10) rfl hg1 hv6 dX9_use_15 ?_
    obtain ⟨hg7, hf⟩ := z_g hf
    obtain ⟨q8, hv9, hf⟩ := z_nn hf
    refine z_getN B hW (Or.inr zf_X9_191) rfl hg7 hv9 dX9_use_18 ?_
    obtain ⟨hg10, hf⟩ := z_g hf
    refine z_getI B hW (Or.inl zf_X9_226) rfl hg10 dX9_use_21 ?_
    refine lv_i2d hx hb dX9_use_24 ?_
    refine lv_aload_n hx hb dX9_use_25 rfl (lv_at hl 0 rfl) ?_
    obtain ⟨q11, hv12, hf⟩ := z_nn hf
    refine z_getN B hW (Or.inr zf_X9_10) rfl hg1 hv12 dX9_use_26 ?_
    obtain ⟨hg13, hf⟩ := z_g hf
    refine z_getI B hW (Or.inl zf_X9_106) rfl hg13 dX9_use_29 ?_
    refine lv_i2d hx hb dX9_use_32 ?_
    obtain ⟨hg14, hf⟩ := z_g hf
    refine lv_ddiv hx hb dX9_use_33 (vf_n64b_of hg14) ?_
    exact t_X9_use_34 B hf hW (lv_sub hl [] rfl) 
  · replace hf := z_ip hc7 hf
    refine lv_dconst0 hx hb dX9_use_10 ?_
    refine lv_goto (tgt := 34) hx hb dX9_use_11 (by decide) ?_
    exact t_X9_use_34 B hf hW (lv_sub hl [] rfl) 
set_option maxRecDepth 100000 in
def f_X9_waitOf_50 (σ : zSt) : Option (Int32 × zSt) :=
none
set_option maxRecDepth 20000 in
set_option maxHeartbeats 4000000 in
theorem t_X9_waitOf_50 (B : z_B p s m args meth c D cA bs RX9 cX9_waitOf 4 (some .int)) {r : Int32} {σ' : zSt} {σ : zSt} (hf : f_X9_waitOf_50 σ = some (r, σ')) {H : Heap} {locs : List Loc} {ls : Array Slot} (hW : z_Ok D cA bs s σ H locs) (hl : lv_has ls 4 [])  : W p l e (zrm 5 0 0 126) s m args below meth c H locs 0 0 (MQ below (z_Qi D cA bs r σ') args s 0 0 (fun q => bs ≤ q)) (F0 m 50 ls []) := by
  have hx := B.1
  have hb := B.2.1
  have hown := B.2.2.2.1
  have hts := B.2.2.2.2.1
  unfold f_X9_waitOf_50 at hf
  cases hf
set_option maxRecDepth 100000 in
def f_X9_waitOf_113 (σ : zSt) (l2 : Int32) : Option (Int32 × zSt) :=
(some (l2, σ))
set_option maxRecDepth 20000 in
set_option maxHeartbeats 4000000 in
theorem t_X9_waitOf_113 (B : z_B p s m args meth c D cA bs RX9 cX9_waitOf 4 (some .int)) {r : Int32} {σ' : zSt} {σ : zSt} {l2 : Int32} (hf : f_X9_waitOf_113 σ l2 = some (r, σ')) {H : Heap} {locs : List Loc} {ls : Array Slot} (hW : z_Ok D cA bs s σ H locs) (hl : lv_has ls 4 [(2, .int l2)])  : W p l e (zrm 5 0 0 126) s m args below meth c H locs 0 0 (MQ below (z_Qi D cA bs r σ') args s 0 0 (fun q => bs ≤ q)) (F0 m 113 ls []) := by
  have hx := B.1
  have hb := B.2.1
  have hown := B.2.2.2.1
  have hts := B.2.2.2.2.1
  unfold f_X9_waitOf_113 at hf
  refine lv_iload_n hx hb dX9_waitOf_113 rfl (lv_at hl 0 rfl) ?_
  obtain ⟨rfl, rfl⟩ := z_e2 hf
  exact z_ri B hW dX9_waitOf_114 (Nat.le_of_ble_eq_true rfl) (Nat.le_of_ble_eq_true rfl)
set_option maxRecDepth 100000 in
def b_X9_waitOf_75 (l0 : Nat) (l1 : Int32) (σ : zSt) (l2 : Int32) (l3 : Int32) : Option ((zSt × Int32 × Int32) ⊕ (Int32 × zSt)) :=
(if (300 : Int32) ≤ l3 then
(zex (f_X9_waitOf_113 σ l2))
else
(if l2 = (-1 : Int32) then
(if z_ob σ l0 8 then (zc (z_R σ l0 1) none (fun q4 => (zb (f_X8_makeVisit σ q4) (fun σ7 => (if z_ob σ7 l0 8 then (zc (z_R σ7 l0 1) none (fun q9 => (if z_ob σ7 q9 2 then (zc (z_R σ7 q9 1) none (fun q12 => (if z_ob σ7 q12 3 then (zb (f_X3_value σ7 q12 l1 (4 : Int32)) (fun r16 => (some (.inl (σ7, r16, (l3 + (1 : Int32))))))) else none))) else none))) else none))))) else none)
else
(zex (f_X9_waitOf_113 σ l2))))
set_option maxRecDepth 100000 in
def f_X9_waitOf_75 (l0 : Nat) (l1 : Int32) (σ : zSt) (l2 : Int32) (l3 : Int32) : Option (Int32 × zSt) := zloop (fun (t : zSt × Int32 × Int32) => b_X9_waitOf_75 l0 l1 t.1 t.2.1 t.2.2) zN (σ, l2, l3)
set_option maxRecDepth 20000 in
set_option maxHeartbeats 4000000 in
theorem tb_X9_waitOf_75 (B : z_B p s m args meth c D cA bs RX9 cX9_waitOf 4 (some .int)) {r : Int32} {σ' : zSt} {o1 : (zSt × Int32 × Int32) ⊕ (Int32 × zSt)} {l0 : Nat} {l1 : Int32} {σ : zSt} {l2 : Int32} {l3 : Int32} (hf : b_X9_waitOf_75 l0 l1 σ l2 l3 = some o1) {H : Heap} {locs : List Loc} {ls : Array Slot} (hW : z_Ok D cA bs s σ H locs) (hl : lv_has ls 4 [(0, .ref l0), (1, .int l1), (2, .int l2), (3, .int l3)]) (hk1 : ∀ (σ : zSt) (l2 : Int32) (l3 : Int32), o1 = .inl (σ, l2, l3) → ∀ {H : Heap} {locs : List Loc} {ls : Array Slot}, z_Ok D cA bs s σ H locs → lv_has ls 4 [(0, .ref l0), (1, .int l1), (2, .int l2), (3, .int l3)] → W p l e (zrm 5 0 0 126) s m args below meth c H locs 0 0 (MQ below (z_Qi D cA bs r σ') args s 0 0 (fun q => bs ≤ q)) (F0 m 75 ls [])) (hr1 : ∀ x, o1 = .inr x → x = (r, σ')) : W p l e (zrm 5 0 0 126) s m args below meth c H locs 0 0 (MQ below (z_Qi D cA bs r σ') args s 0 0 (fun q => bs ≤ q)) (F0 m 75 ls []) := by
  have hx := B.1
  have hb := B.2.1
  have hown := B.2.2.2.1
  have hts := B.2.2.2.2.1
  unfold b_X9_waitOf_75 at hf
  refine lv_iload_n hx hb dX9_waitOf_75 rfl (lv_at hl 3 rfl) ?_
  refine lv_sipush (v := (300 : Int32)) hx hb dX9_waitOf_76 (by decide) ?_
  refine lv_icmp_ge (tgt := 113) hx hb dX9_waitOf_79 (by decide) (fun hc79 => ?_) (fun hc79 => ?_)
  · replace hf := z_ip hc79 hf
    obtain ⟨w1, hf, ho1⟩ := z_x hf
    obtain rfl := hr1 _ ho1
    exact t_X9_waitOf_113 B hf hW (lv_sub hl [2] rfl) 
  · replace hf := z_in hc79 hf
    refine lv_iload_n hx hb dX9_waitOf_82 rfl (lv_at hl 2 rfl) ?_
    refine lv_iconst (v := (-1 : Int32)) hx hb dX9_waitOf_83 (by decide) ?_
    refine lv_icmp_ne (tgt := 113) hx hb dX9_waitOf_84 (by decide) (fun hc84 => ?_) (fun hc84 => ?_)
    · replace hf := z_in hc84 hf
      obtain ⟨w1, hf, ho2⟩ := z_x hf
      obtain rfl := hr1 _ ho2
      exact t_X9_waitOf_113 B hf hW (lv_sub hl [2] rfl) 
    · replace hf := z_ip hc84 hf
      refine lv_aload_n hx hb dX9_waitOf_87 rfl (lv_at hl 0 rfl) ?_
      obtain ⟨hg3, hf⟩ := z_g hf
      obtain ⟨q4, hv5, hf⟩ := z_nn hf
      refine z_getN B hW (Or.inr zf_X9_16) rfl hg3 hv5 dX9_waitOf_88 ?_
      obtain ⟨σ7, hq6, hf⟩ := z_b hf
      refine z_cv hW (z_runS (As := [.ref q4]) (rest := []) B hW zv_X9_138 (K_X8_makeVisit hq6) rfl rfl (Nat.le_of_ble_eq_true rfl) hl.1 ⟨Nat.le_of_ble_eq_true rfl, Nat.le_of_ble_eq_true rfl⟩ dX9_waitOf_91 ⟨Nat.le_of_ble_eq_true rfl, Nat.le_of_ble_eq_true rfl⟩) (fun H locs hW => ?_)
      refine lv_aload_n hx hb dX9_waitOf_94 rfl (lv_at hl 0 rfl) ?_
      obtain ⟨hg8, hf⟩ := z_g hf
      obtain ⟨q9, hv10, hf⟩ := z_nn hf
      refine z_getN B hW (Or.inr zf_X9_16) rfl hg8 hv10 dX9_waitOf_95 ?_
      obtain ⟨hg11, hf⟩ := z_g hf
      obtain ⟨q12, hv13, hf⟩ := z_nn hf
      refine z_getN B hW (Or.inr zf_X9_97) rfl hg11 hv13 dX9_waitOf_98 ?_
      refine lv_iload_n hx hb dX9_waitOf_101 rfl (lv_at hl 1 rfl) ?_
      refine lv_iconst (v := (4 : Int32)) hx hb dX9_waitOf_102 (by decide) ?_
      obtain ⟨hg14, hf⟩ := z_g hf
      obtain ⟨r16, hq15, hf⟩ := z_b hf
      refine z_ci hW (z_runV (As := [.int l1, .int (4 : Int32)]) (rest := []) B hW zv_X9_184 (K_X3_value hq15) hg14 rfl rfl rfl (Nat.le_of_ble_eq_true rfl) hl.1 ⟨Nat.le_of_ble_eq_true rfl, Nat.le_of_ble_eq_true rfl⟩ dX9_waitOf_103 ⟨Nat.le_of_ble_eq_true rfl, Nat.le_of_ble_eq_true rfl⟩) (fun H locs hW => ?_)
      refine lv_istore_n (lv' := [(2, .int r16), (0, .ref l0), (1, .int l1), (3, .int l3)]) hx hb dX9_waitOf_106 rfl hl (by decide) rfl (fun ls hl => ?_)
      refine lv_iinc (v := (l3 + (1 : Int32))) (lv' := [(3, .int (l3 + (1 : Int32))), (2, .int r16), (0, .ref l0), (1, .int l1)]) hx hb dX9_waitOf_107 hl (k := 3) rfl rfl (by decide) rfl (fun ls hl => ?_)
      refine lv_goto (tgt := 75) hx hb dX9_waitOf_110 (by decide) ?_
      exact hk1 _ _ _ (Option.some.inj hf).symm hW (lv_sub hl [2, 3, 1, 0] rfl)
set_option maxRecDepth 20000 in
set_option maxHeartbeats 4000000 in
theorem t_X9_waitOf_75 (B : z_B p s m args meth c D cA bs RX9 cX9_waitOf 4 (some .int)) {r : Int32} {σ' : zSt} {l0 : Nat} {l1 : Int32}  : ∀ (n : Nat) {σ : zSt} {l2 : Int32} {l3 : Int32}, zloop (fun (t : zSt × Int32 × Int32) => b_X9_waitOf_75 l0 l1 t.1 t.2.1 t.2.2) n (σ, l2, l3) = some (r, σ') → ∀ {H : Heap} {locs : List Loc} {ls : Array Slot}, z_Ok D cA bs s σ H locs → lv_has ls 4 [(0, .ref l0), (1, .int l1), (2, .int l2), (3, .int l3)] → W p l e (zrm 5 0 0 126) s m args below meth c H locs 0 0 (MQ below (z_Qi D cA bs r σ') args s 0 0 (fun q => bs ≤ q)) (F0 m 75 ls []) := by
  intro n
  induction n with
  | zero => intro σ l2 l3 hf; cases hf
  | succ n ih =>
    intro σ l2 l3 hf H locs ls hW hl
    obtain ⟨o1, hb1, hf⟩ := z_lp hf
    refine tb_X9_waitOf_75 B hb1 hW hl  (fun σ l2 l3 he H locs ls hW hl => ?_) (fun x he => ?_)
    · rcases hf with ⟨t, ht, hf⟩ | hf
      · rw [he] at ht
        cases ht
        exact ih hf hW hl
      · rw [he] at hf
        cases hf
    · rcases hf with ⟨t, ht, hf⟩ | hf
      · rw [he] at ht
        cases ht
      · rw [he] at hf
        exact Sum.inr.inj hf
set_option maxRecDepth 100000 in
def f_X9_waitOf (σ : zSt) (l0 : Nat) (l1 : Int32) : Option (Int32 × zSt) :=
(if z_ob σ l0 8 then (zc (z_R σ l0 0) none (fun q2 => (if z_ob σ q2 2 then (zc (z_R σ q2 1) none (fun q5 => (if z_ob σ q5 3 then (zb (f_X3_has σ q5 l1) (fun r9 => (if r9 = 0 then
none
else
(zc (z_R σ l0 0) none (fun q10 => (if z_ob σ q10 2 then (zc (z_R σ q10 1) none (fun q13 => (if z_ob σ q13 3 then (zb (f_X3_value σ q13 l1 (4 : Int32)) (fun r17 => (if r17 = (-1 : Int32) then
(zc (z_R σ l0 0) none (fun q18 => (if z_ob σ q18 2 then (zb (f_X2_isTooLate σ q18) (fun r22 => (if r22 = 0 then
(zc (z_R σ l0 1) none (fun q23 => (zc (z_R σ l0 0) none (fun q25 => (if z_ob σ q23 2 then (zb (f_X2_copyFrom σ q23 q25) (fun σ29 => (f_X9_waitOf_75 l0 l1 σ29 (-1 : Int32) (0 : Int32)))) else none)))))
else
(f_X9_waitOf_50 σ)))) else none)))
else
(f_X9_waitOf_50 σ)))) else none))) else none)))))) else none))) else none))) else none)
set_option maxRecDepth 20000 in
set_option maxHeartbeats 4000000 in
theorem K_X9_waitOf {σ : zSt} {l0 : Nat} {l1 : Int32} {r : Int32} {σ' : zSt} (hf : f_X9_waitOf σ l0 l1 = some (r, σ')) : z_M l D cA bs yX9_waitOf cX9_waitOf 4 (some .int) 5 126 0 0 [.ref l0, .int l1] σ (z_Qi D cA bs r σ') := by
  refine z_met (own := RX9) (lv := [(0, .ref l0), (1, .int l1)]) (by decide) rfl (Nat.le_of_ble_eq_true rfl) rfl (fun p e s m below meth c ls B hnm hW hl => ?_)
  have hx := B.1
  have hb := B.2.1
  have hown := B.2.2.2.1
  have hts := B.2.2.2.2.1
  unfold f_X9_waitOf at hf
  refine lv_aload_n hx hb dX9_waitOf_0 rfl (lv_at hl 0 rfl) ?_
  obtain ⟨hg1, hf⟩ := z_g hf
  obtain ⟨q2, hv3, hf⟩ := z_nn hf
  refine z_getN B hW (Or.inr zf_X9_10) rfl hg1 hv3 dX9_waitOf_1 ?_
  obtain ⟨hg4, hf⟩ := z_g hf
  obtain ⟨q5, hv6, hf⟩ := z_nn hf
  refine z_getN B hW (Or.inr zf_X9_97) rfl hg4 hv6 dX9_waitOf_4 ?_
  refine lv_iload_n hx hb dX9_waitOf_7 rfl (lv_at hl 1 rfl) ?_
  obtain ⟨hg7, hf⟩ := z_g hf
  obtain ⟨r9, hq8, hf⟩ := z_b hf
  refine z_ci hW (z_runV (As := [.int l1]) (rest := []) B hW zv_X9_177 (K_X3_has hq8) hg7 rfl rfl rfl (Nat.le_of_ble_eq_true rfl) hl.1 ⟨Nat.le_of_ble_eq_true rfl, Nat.le_of_ble_eq_true rfl⟩ dX9_waitOf_8 ⟨Nat.le_of_ble_eq_true rfl, Nat.le_of_ble_eq_true rfl⟩) (fun H locs hW => ?_)
  refine lv_if_ne (tgt := 24) hx hb dX9_waitOf_11 (by decide) (fun hc11 => ?_) (fun hc11 => ?_)
  · replace hf := z_in hc11 hf
    refine lv_aload_n hx hb dX9_waitOf_24 rfl (lv_at hl 0 rfl) ?_
    obtain ⟨q10, hv11, hf⟩ := z_nn hf
    refine z_getN B hW (Or.inr zf_X9_10) rfl hg1 hv11 dX9_waitOf_25 ?_
    obtain ⟨hg12, hf⟩ := z_g hf
    obtain ⟨q13, hv14, hf⟩ := z_nn hf
    refine z_getN B hW (Or.inr zf_X9_97) rfl hg12 hv14 dX9_waitOf_28 ?_
    refine lv_iload_n hx hb dX9_waitOf_31 rfl (lv_at hl 1 rfl) ?_
    refine lv_iconst (v := (4 : Int32)) hx hb dX9_waitOf_32 (by decide) ?_
    obtain ⟨hg15, hf⟩ := z_g hf
    obtain ⟨r17, hq16, hf⟩ := z_b hf
    refine z_ci hW (z_runV (As := [.int l1, .int (4 : Int32)]) (rest := []) B hW zv_X9_184 (K_X3_value hq16) hg15 rfl rfl rfl (Nat.le_of_ble_eq_true rfl) hl.1 ⟨Nat.le_of_ble_eq_true rfl, Nat.le_of_ble_eq_true rfl⟩ dX9_waitOf_33 ⟨Nat.le_of_ble_eq_true rfl, Nat.le_of_ble_eq_true rfl⟩) (fun H locs hW => ?_)
    refine lv_iconst (v := (-1 : Int32)) hx hb dX9_waitOf_36 (by decide) ?_
    refine lv_icmp_ne (tgt := 50) hx hb dX9_waitOf_37 (by decide) (fun hc37 => ?_) (fun hc37 => ?_)
    · replace hf := z_in hc37 hf
      exact t_X9_waitOf_50 B hf hW (lv_sub hl [] rfl) 
    · replace hf := z_ip hc37 hf
      refine lv_aload_n hx hb dX9_waitOf_40 rfl (lv_at hl 0 rfl) ?_
      obtain ⟨q18, hv19, hf⟩ := z_nn hf
      refine z_getN B hW (Or.inr zf_X9_10) rfl hg1 hv19 dX9_waitOf_41 ?_
      obtain ⟨hg20, hf⟩ := z_g hf
      obtain ⟨r22, hq21, hf⟩ := z_b hf
      refine z_ci hW (z_runV (As := []) (rest := []) B hW zv_X9_133 (K_X2_isTooLate hq21) hg20 rfl rfl rfl (Nat.le_of_ble_eq_true rfl) hl.1 ⟨Nat.le_of_ble_eq_true rfl, Nat.le_of_ble_eq_true rfl⟩ dX9_waitOf_44 ⟨Nat.le_of_ble_eq_true rfl, Nat.le_of_ble_eq_true rfl⟩) (fun H locs hW => ?_)
      refine lv_if_eq (tgt := 60) hx hb dX9_waitOf_47 (by decide) (fun hc47 => ?_) (fun hc47 => ?_)
      · replace hf := z_ip hc47 hf
        refine lv_aload_n hx hb dX9_waitOf_60 rfl (lv_at hl 0 rfl) ?_
        obtain ⟨q23, hv24, hf⟩ := z_nn hf
        refine z_getN B hW (Or.inr zf_X9_16) rfl hg1 hv24 dX9_waitOf_61 ?_
        refine lv_aload_n hx hb dX9_waitOf_64 rfl (lv_at hl 0 rfl) ?_
        obtain ⟨q25, hv26, hf⟩ := z_nn hf
        refine z_getN B hW (Or.inr zf_X9_10) rfl hg1 hv26 dX9_waitOf_65 ?_
        obtain ⟨hg27, hf⟩ := z_g hf
        obtain ⟨σ29, hq28, hf⟩ := z_b hf
        refine z_cv hW (z_runV (As := [.ref q25]) (rest := []) B hW zv_X9_231 (K_X2_copyFrom hq28) hg27 rfl rfl rfl (Nat.le_of_ble_eq_true rfl) hl.1 ⟨Nat.le_of_ble_eq_true rfl, Nat.le_of_ble_eq_true rfl⟩ dX9_waitOf_68 ⟨Nat.le_of_ble_eq_true rfl, Nat.le_of_ble_eq_true rfl⟩) (fun H locs hW => ?_)
        refine lv_iconst (v := (-1 : Int32)) hx hb dX9_waitOf_71 (by decide) ?_
        refine lv_istore_n (lv' := [(2, .int (-1 : Int32)), (0, .ref l0), (1, .int l1)]) hx hb dX9_waitOf_72 rfl hl (by decide) rfl (fun ls hl => ?_)
        refine lv_iconst (v := (0 : Int32)) hx hb dX9_waitOf_73 (by decide) ?_
        refine lv_istore_n (lv' := [(3, .int (0 : Int32)), (2, .int (-1 : Int32)), (0, .ref l0), (1, .int l1)]) hx hb dX9_waitOf_74 rfl hl (by decide) rfl (fun ls hl => ?_)
        unfold f_X9_waitOf_75 at hf
        exact t_X9_waitOf_75 B  zN hf hW (lv_sub hl [2, 3, 1, 0] rfl)
      · replace hf := z_in hc47 hf
        exact t_X9_waitOf_50 B hf hW (lv_sub hl [] rfl) 
  · replace hf := z_ip hc11 hf
    cases hf
set_option maxRecDepth 100000 in
def f_X9_completeAfter_82 (σ : zSt) (s0 : Int32) : Option (Int32 × zSt) :=
(some (s0, σ))
set_option maxRecDepth 20000 in
set_option maxHeartbeats 4000000 in
theorem t_X9_completeAfter_82 (B : z_B p s m args meth c D cA bs RX9 cX9_completeAfter 2 (some .int)) {r : Int32} {σ' : zSt} {σ : zSt} {s0 : Int32} (hf : f_X9_completeAfter_82 σ s0 = some (r, σ')) {H : Heap} {locs : List Loc} {ls : Array Slot} (hW : z_Ok D cA bs s σ H locs) (hl : lv_has ls 2 [])  : W p l e (zrm 5 0 0 126) s m args below meth c H locs 0 0 (MQ below (z_Qi D cA bs r σ') args s 0 0 (fun q => bs ≤ q)) (F0 m 82 ls [.int s0]) := by
  have hx := B.1
  have hb := B.2.1
  have hown := B.2.2.2.1
  have hts := B.2.2.2.2.1
  unfold f_X9_completeAfter_82 at hf
  obtain ⟨rfl, rfl⟩ := z_e2 hf
  exact z_ri B hW dX9_completeAfter_82 (Nat.le_of_ble_eq_true rfl) (Nat.le_of_ble_eq_true rfl)
set_option maxRecDepth 100000 in
def b_X9_completeAfter_33 (l0 : Nat) (σ : zSt) (l1 : Int32) : Option ((zSt × Int32) ⊕ (Int32 × zSt)) :=
(if (300 : Int32) ≤ l1 then
(zex (if z_ob σ l0 8 then (zc (z_R σ l0 1) none (fun q2 => (if z_ob σ q2 2 then (zb (f_X2_isComplete σ q2) (fun r6 => (if r6 = 0 then
(f_X9_completeAfter_82 σ (-1 : Int32))
else
(f_X9_completeAfter_82 σ (300 : Int32))))) else none))) else none))
else
(if z_ob σ l0 8 then (zc (z_R σ l0 1) none (fun q9 => (if z_ob σ q9 2 then (zb (f_X2_isComplete σ q9) (fun r13 => (if r13 = 0 then
(zc (z_R σ l0 1) none (fun q14 => (zb (f_X8_makeVisit σ q14) (fun σ17 => (some (.inl (σ17, (l1 + (1 : Int32)))))))))
else
(zex (some (l1, σ)))))) else none))) else none))
set_option maxRecDepth 100000 in
def f_X9_completeAfter_33 (l0 : Nat) (σ : zSt) (l1 : Int32) : Option (Int32 × zSt) := zloop (fun (t : zSt × Int32) => b_X9_completeAfter_33 l0 t.1 t.2) zN (σ, l1)
set_option maxRecDepth 20000 in
set_option maxHeartbeats 4000000 in
theorem tb_X9_completeAfter_33 (B : z_B p s m args meth c D cA bs RX9 cX9_completeAfter 2 (some .int)) {r : Int32} {σ' : zSt} {o1 : (zSt × Int32) ⊕ (Int32 × zSt)} {l0 : Nat} {σ : zSt} {l1 : Int32} (hf : b_X9_completeAfter_33 l0 σ l1 = some o1) {H : Heap} {locs : List Loc} {ls : Array Slot} (hW : z_Ok D cA bs s σ H locs) (hl : lv_has ls 2 [(0, .ref l0), (1, .int l1)]) (hk1 : ∀ (σ : zSt) (l1 : Int32), o1 = .inl (σ, l1) → ∀ {H : Heap} {locs : List Loc} {ls : Array Slot}, z_Ok D cA bs s σ H locs → lv_has ls 2 [(0, .ref l0), (1, .int l1)] → W p l e (zrm 5 0 0 126) s m args below meth c H locs 0 0 (MQ below (z_Qi D cA bs r σ') args s 0 0 (fun q => bs ≤ q)) (F0 m 33 ls [])) (hr1 : ∀ x, o1 = .inr x → x = (r, σ')) : W p l e (zrm 5 0 0 126) s m args below meth c H locs 0 0 (MQ below (z_Qi D cA bs r σ') args s 0 0 (fun q => bs ≤ q)) (F0 m 33 ls []) := by
  have hx := B.1
  have hb := B.2.1
  have hown := B.2.2.2.1
  have hts := B.2.2.2.2.1
  unfold b_X9_completeAfter_33 at hf
  refine lv_iload_n hx hb dX9_completeAfter_33 rfl (lv_at hl 1 rfl) ?_
  refine lv_sipush (v := (300 : Int32)) hx hb dX9_completeAfter_34 (by decide) ?_
  refine lv_icmp_ge (tgt := 65) hx hb dX9_completeAfter_37 (by decide) (fun hc37 => ?_) (fun hc37 => ?_)
  · replace hf := z_ip hc37 hf
    obtain ⟨w1, hf, ho7⟩ := z_x hf
    obtain rfl := hr1 _ ho7
    refine lv_aload_n hx hb dX9_completeAfter_65 rfl (lv_at hl 0 rfl) ?_
    obtain ⟨hg1, hf⟩ := z_g hf
    obtain ⟨q2, hv3, hf⟩ := z_nn hf
    refine z_getN B hW (Or.inr zf_X9_16) rfl hg1 hv3 dX9_completeAfter_66 ?_
    obtain ⟨hg4, hf⟩ := z_g hf
    obtain ⟨r6, hq5, hf⟩ := z_b hf
    refine z_ci hW (z_runV (As := []) (rest := []) B hW zv_X9_234 (K_X2_isComplete hq5) hg4 rfl rfl rfl (Nat.le_of_ble_eq_true rfl) hl.1 ⟨Nat.le_of_ble_eq_true rfl, Nat.le_of_ble_eq_true rfl⟩ dX9_completeAfter_69 ⟨Nat.le_of_ble_eq_true rfl, Nat.le_of_ble_eq_true rfl⟩) (fun H locs hW => ?_)
    refine lv_if_eq (tgt := 81) hx hb dX9_completeAfter_72 (by decide) (fun hc72 => ?_) (fun hc72 => ?_)
    · replace hf := z_ip hc72 hf
      refine lv_iconst (v := (-1 : Int32)) hx hb dX9_completeAfter_81 (by decide) ?_
      exact t_X9_completeAfter_82 B hf hW (lv_sub hl [] rfl) 
    · replace hf := z_in hc72 hf
      refine lv_sipush (v := (300 : Int32)) hx hb dX9_completeAfter_75 (by decide) ?_
      refine lv_goto (tgt := 82) hx hb dX9_completeAfter_78 (by decide) ?_
      exact t_X9_completeAfter_82 B hf hW (lv_sub hl [] rfl) 
  · replace hf := z_in hc37 hf
    refine lv_aload_n hx hb dX9_completeAfter_40 rfl (lv_at hl 0 rfl) ?_
    obtain ⟨hg8, hf⟩ := z_g hf
    obtain ⟨q9, hv10, hf⟩ := z_nn hf
    refine z_getN B hW (Or.inr zf_X9_16) rfl hg8 hv10 dX9_completeAfter_41 ?_
    obtain ⟨hg11, hf⟩ := z_g hf
    obtain ⟨r13, hq12, hf⟩ := z_b hf
    refine z_ci hW (z_runV (As := []) (rest := []) B hW zv_X9_234 (K_X2_isComplete hq12) hg11 rfl rfl rfl (Nat.le_of_ble_eq_true rfl) hl.1 ⟨Nat.le_of_ble_eq_true rfl, Nat.le_of_ble_eq_true rfl⟩ dX9_completeAfter_44 ⟨Nat.le_of_ble_eq_true rfl, Nat.le_of_ble_eq_true rfl⟩) (fun H locs hW => ?_)
    refine lv_if_eq (tgt := 52) hx hb dX9_completeAfter_47 (by decide) (fun hc47 => ?_) (fun hc47 => ?_)
    · replace hf := z_ip hc47 hf
      refine lv_aload_n hx hb dX9_completeAfter_52 rfl (lv_at hl 0 rfl) ?_
      obtain ⟨q14, hv15, hf⟩ := z_nn hf
      refine z_getN B hW (Or.inr zf_X9_16) rfl hg8 hv15 dX9_completeAfter_53 ?_
      obtain ⟨σ17, hq16, hf⟩ := z_b hf
      refine z_cv hW (z_runS (As := [.ref q14]) (rest := []) B hW zv_X9_138 (K_X8_makeVisit hq16) rfl rfl (Nat.le_of_ble_eq_true rfl) hl.1 ⟨Nat.le_of_ble_eq_true rfl, Nat.le_of_ble_eq_true rfl⟩ dX9_completeAfter_56 ⟨Nat.le_of_ble_eq_true rfl, Nat.le_of_ble_eq_true rfl⟩) (fun H locs hW => ?_)
      refine lv_iinc (v := (l1 + (1 : Int32))) (lv' := [(1, .int (l1 + (1 : Int32))), (0, .ref l0)]) hx hb dX9_completeAfter_59 hl (k := 1) rfl rfl (by decide) rfl (fun ls hl => ?_)
      refine lv_goto (tgt := 33) hx hb dX9_completeAfter_62 (by decide) ?_
      exact hk1 _ _ (Option.some.inj hf).symm hW (lv_sub hl [1, 0] rfl)
    · replace hf := z_in hc47 hf
      obtain ⟨w1, hf, ho18⟩ := z_x hf
      obtain rfl := hr1 _ ho18
      refine lv_iload_n hx hb dX9_completeAfter_50 rfl (lv_at hl 1 rfl) ?_
      obtain ⟨rfl, rfl⟩ := z_e2 hf
      exact z_ri B hW dX9_completeAfter_51 (Nat.le_of_ble_eq_true rfl) (Nat.le_of_ble_eq_true rfl)
set_option maxRecDepth 20000 in
set_option maxHeartbeats 4000000 in
theorem t_X9_completeAfter_33 (B : z_B p s m args meth c D cA bs RX9 cX9_completeAfter 2 (some .int)) {r : Int32} {σ' : zSt} {l0 : Nat}  : ∀ (n : Nat) {σ : zSt} {l1 : Int32}, zloop (fun (t : zSt × Int32) => b_X9_completeAfter_33 l0 t.1 t.2) n (σ, l1) = some (r, σ') → ∀ {H : Heap} {locs : List Loc} {ls : Array Slot}, z_Ok D cA bs s σ H locs → lv_has ls 2 [(0, .ref l0), (1, .int l1)] → W p l e (zrm 5 0 0 126) s m args below meth c H locs 0 0 (MQ below (z_Qi D cA bs r σ') args s 0 0 (fun q => bs ≤ q)) (F0 m 33 ls []) := by
  intro n
  induction n with
  | zero => intro σ l1 hf; cases hf
  | succ n ih =>
    intro σ l1 hf H locs ls hW hl
    obtain ⟨o1, hb1, hf⟩ := z_lp hf
    refine tb_X9_completeAfter_33 B hb1 hW hl  (fun σ l1 he H locs ls hW hl => ?_) (fun x he => ?_)
    · rcases hf with ⟨t, ht, hf⟩ | hf
      · rw [he] at ht
        cases ht
        exact ih hf hW hl
      · rw [he] at hf
        cases hf
    · rcases hf with ⟨t, ht, hf⟩ | hf
      · rw [he] at ht
        cases ht
      · rw [he] at hf
        exact Sum.inr.inj hf
set_option maxRecDepth 100000 in
def f_X9_completeAfter (σ : zSt) (l0 : Nat) : Option (Int32 × zSt) :=
(if z_ob σ l0 8 then (zc (z_R σ l0 0) none (fun q2 => (if z_ob σ q2 2 then (zb (f_X2_isTooLate σ q2) (fun r6 => (if r6 = 0 then
(zc (z_R σ l0 1) none (fun q7 => (zc (z_R σ l0 0) none (fun q9 => (if z_ob σ q7 2 then (zb (f_X2_copyFrom σ q7 q9) (fun σ13 => (f_X9_completeAfter_33 l0 σ13 (0 : Int32)))) else none)))))
else
none))) else none))) else none)
set_option maxRecDepth 20000 in
set_option maxHeartbeats 4000000 in
theorem K_X9_completeAfter {σ : zSt} {l0 : Nat} {r : Int32} {σ' : zSt} (hf : f_X9_completeAfter σ l0 = some (r, σ')) : z_M l D cA bs yX9_completeAfter cX9_completeAfter 2 (some .int) 5 126 0 0 [.ref l0] σ (z_Qi D cA bs r σ') := by
  refine z_met (own := RX9) (lv := [(0, .ref l0)]) (by decide) rfl (Nat.le_of_ble_eq_true rfl) rfl (fun p e s m below meth c ls B hnm hW hl => ?_)
  have hx := B.1
  have hb := B.2.1
  have hown := B.2.2.2.1
  have hts := B.2.2.2.2.1
  unfold f_X9_completeAfter at hf
  refine lv_aload_n hx hb dX9_completeAfter_0 rfl (lv_at hl 0 rfl) ?_
  obtain ⟨hg1, hf⟩ := z_g hf
  obtain ⟨q2, hv3, hf⟩ := z_nn hf
  refine z_getN B hW (Or.inr zf_X9_10) rfl hg1 hv3 dX9_completeAfter_1 ?_
  obtain ⟨hg4, hf⟩ := z_g hf
  obtain ⟨r6, hq5, hf⟩ := z_b hf
  refine z_ci hW (z_runV (As := []) (rest := []) B hW zv_X9_133 (K_X2_isTooLate hq5) hg4 rfl rfl rfl (Nat.le_of_ble_eq_true rfl) hl.1 ⟨Nat.le_of_ble_eq_true rfl, Nat.le_of_ble_eq_true rfl⟩ dX9_completeAfter_4 ⟨Nat.le_of_ble_eq_true rfl, Nat.le_of_ble_eq_true rfl⟩) (fun H locs hW => ?_)
  refine lv_if_eq (tgt := 20) hx hb dX9_completeAfter_7 (by decide) (fun hc7 => ?_) (fun hc7 => ?_)
  · replace hf := z_ip hc7 hf
    refine lv_aload_n hx hb dX9_completeAfter_20 rfl (lv_at hl 0 rfl) ?_
    obtain ⟨q7, hv8, hf⟩ := z_nn hf
    refine z_getN B hW (Or.inr zf_X9_16) rfl hg1 hv8 dX9_completeAfter_21 ?_
    refine lv_aload_n hx hb dX9_completeAfter_24 rfl (lv_at hl 0 rfl) ?_
    obtain ⟨q9, hv10, hf⟩ := z_nn hf
    refine z_getN B hW (Or.inr zf_X9_10) rfl hg1 hv10 dX9_completeAfter_25 ?_
    obtain ⟨hg11, hf⟩ := z_g hf
    obtain ⟨σ13, hq12, hf⟩ := z_b hf
    refine z_cv hW (z_runV (As := [.ref q9]) (rest := []) B hW zv_X9_231 (K_X2_copyFrom hq12) hg11 rfl rfl rfl (Nat.le_of_ble_eq_true rfl) hl.1 ⟨Nat.le_of_ble_eq_true rfl, Nat.le_of_ble_eq_true rfl⟩ dX9_completeAfter_28 ⟨Nat.le_of_ble_eq_true rfl, Nat.le_of_ble_eq_true rfl⟩) (fun H locs hW => ?_)
    refine lv_iconst (v := (0 : Int32)) hx hb dX9_completeAfter_31 (by decide) ?_
    refine lv_istore_n (lv' := [(1, .int (0 : Int32)), (0, .ref l0)]) hx hb dX9_completeAfter_32 rfl hl (by decide) rfl (fun ls hl => ?_)
    unfold f_X9_completeAfter_33 at hf
    exact t_X9_completeAfter_33 B  zN hf hW (lv_sub hl [1, 0] rfl)
  · replace hf := z_in hc7 hf
    cases hf
set_option maxRecDepth 100000 in
def f_X9_sendsAll_64 (σ : zSt) (s0 : Int32) : Option (Int32 × zSt) :=
(if z_bl s0 then (some (s0, σ)) else none)
set_option maxRecDepth 20000 in
set_option maxHeartbeats 4000000 in
theorem t_X9_sendsAll_64 (B : z_B p s m args meth c D cA bs RX9 cX9_sendsAll 4 (some .boolean)) {r : Int32} {σ' : zSt} {σ : zSt} {s0 : Int32} (hf : f_X9_sendsAll_64 σ s0 = some (r, σ')) {H : Heap} {locs : List Loc} {ls : Array Slot} (hW : z_Ok D cA bs s σ H locs) (hl : lv_has ls 4 [])  : W p l e (zrm 5 0 0 126) s m args below meth c H locs 0 0 (MQ below (z_Qi D cA bs r σ') args s 0 0 (fun q => bs ≤ q)) (F0 m 64 ls [.int s0]) := by
  have hx := B.1
  have hb := B.2.1
  have hown := B.2.2.2.1
  have hts := B.2.2.2.2.1
  unfold f_X9_sendsAll_64 at hf
  obtain ⟨hg1, hf⟩ := z_g hf
  obtain ⟨rfl, rfl⟩ := z_e2 hf
  exact z_rz hg1 B hW dX9_sendsAll_64 (Nat.le_of_ble_eq_true rfl) (Nat.le_of_ble_eq_true rfl)
set_option maxRecDepth 100000 in
def f_X9_sendsAll_49 (σ : zSt) (l0 : Nat) : Option (Int32 × zSt) :=
(if z_ob σ l0 8 then (zc (z_R σ l0 1) none (fun q2 => (if z_ob σ q2 2 then (zb (f_X2_isWaitedAt σ q2) (fun r6 => (if r6 = 0 then
(f_X9_sendsAll_64 σ (1 : Int32))
else
(f_X9_sendsAll_64 σ (0 : Int32))))) else none))) else none)
set_option maxRecDepth 20000 in
set_option maxHeartbeats 4000000 in
theorem t_X9_sendsAll_49 (B : z_B p s m args meth c D cA bs RX9 cX9_sendsAll 4 (some .boolean)) {r : Int32} {σ' : zSt} {σ : zSt} {l0 : Nat} (hf : f_X9_sendsAll_49 σ l0 = some (r, σ')) {H : Heap} {locs : List Loc} {ls : Array Slot} (hW : z_Ok D cA bs s σ H locs) (hl : lv_has ls 4 [(0, .ref l0)])  : W p l e (zrm 5 0 0 126) s m args below meth c H locs 0 0 (MQ below (z_Qi D cA bs r σ') args s 0 0 (fun q => bs ≤ q)) (F0 m 49 ls []) := by
  have hx := B.1
  have hb := B.2.1
  have hown := B.2.2.2.1
  have hts := B.2.2.2.2.1
  unfold f_X9_sendsAll_49 at hf
  refine lv_aload_n hx hb dX9_sendsAll_49 rfl (lv_at hl 0 rfl) ?_
  obtain ⟨hg1, hf⟩ := z_g hf
  obtain ⟨q2, hv3, hf⟩ := z_nn hf
  refine z_getN B hW (Or.inr zf_X9_16) rfl hg1 hv3 dX9_sendsAll_50 ?_
  obtain ⟨hg4, hf⟩ := z_g hf
  obtain ⟨r6, hq5, hf⟩ := z_b hf
  refine z_ci hW (z_runV (As := []) (rest := []) B hW zv_X9_284 (K_X2_isWaitedAt hq5) hg4 rfl rfl rfl (Nat.le_of_ble_eq_true rfl) hl.1 ⟨Nat.le_of_ble_eq_true rfl, Nat.le_of_ble_eq_true rfl⟩ dX9_sendsAll_53 ⟨Nat.le_of_ble_eq_true rfl, Nat.le_of_ble_eq_true rfl⟩) (fun H locs hW => ?_)
  refine lv_if_ne (tgt := 63) hx hb dX9_sendsAll_56 (by decide) (fun hc56 => ?_) (fun hc56 => ?_)
  · replace hf := z_in hc56 hf
    refine lv_iconst (v := (0 : Int32)) hx hb dX9_sendsAll_63 (by decide) ?_
    exact t_X9_sendsAll_64 B hf hW (lv_sub hl [] rfl) 
  · replace hf := z_ip hc56 hf
    refine lv_iconst (v := (1 : Int32)) hx hb dX9_sendsAll_59 (by decide) ?_
    refine lv_goto (tgt := 64) hx hb dX9_sendsAll_60 (by decide) ?_
    exact t_X9_sendsAll_64 B hf hW (lv_sub hl [] rfl) 
set_option maxRecDepth 100000 in
def b_X9_sendsAll_21 (l0 : Nat) (l2 : Int32) (σ : zSt) (l3 : Int32) : Option ((zSt × Int32) ⊕ (Int32 × zSt)) :=
(if l2 ≤ l3 then
(zex (f_X9_sendsAll_49 σ l0))
else
(if z_ob σ l0 8 then (zc (z_R σ l0 1) none (fun q3 => (if z_ob σ q3 2 then (zb (f_X2_isWaitedAt σ q3) (fun r7 => (if r7 = 0 then
(zex (f_X9_sendsAll_49 σ l0))
else
(zc (z_R σ l0 1) none (fun q9 => (zb (f_X8_makeVisit σ q9) (fun σ12 => (some (.inl (σ12, (l3 + (1 : Int32)))))))))))) else none))) else none))
set_option maxRecDepth 100000 in
def f_X9_sendsAll_21 (l0 : Nat) (l2 : Int32) (σ : zSt) (l3 : Int32) : Option (Int32 × zSt) := zloop (fun (t : zSt × Int32) => b_X9_sendsAll_21 l0 l2 t.1 t.2) zN (σ, l3)
set_option maxRecDepth 20000 in
set_option maxHeartbeats 4000000 in
theorem tb_X9_sendsAll_21 (B : z_B p s m args meth c D cA bs RX9 cX9_sendsAll 4 (some .boolean)) {r : Int32} {σ' : zSt} {o1 : (zSt × Int32) ⊕ (Int32 × zSt)} {l0 : Nat} {l2 : Int32} {σ : zSt} {l3 : Int32} (hf : b_X9_sendsAll_21 l0 l2 σ l3 = some o1) {H : Heap} {locs : List Loc} {ls : Array Slot} (hW : z_Ok D cA bs s σ H locs) (hl : lv_has ls 4 [(0, .ref l0), (2, .int l2), (3, .int l3)]) (hk1 : ∀ (σ : zSt) (l3 : Int32), o1 = .inl (σ, l3) → ∀ {H : Heap} {locs : List Loc} {ls : Array Slot}, z_Ok D cA bs s σ H locs → lv_has ls 4 [(0, .ref l0), (2, .int l2), (3, .int l3)] → W p l e (zrm 5 0 0 126) s m args below meth c H locs 0 0 (MQ below (z_Qi D cA bs r σ') args s 0 0 (fun q => bs ≤ q)) (F0 m 21 ls [])) (hr1 : ∀ x, o1 = .inr x → x = (r, σ')) : W p l e (zrm 5 0 0 126) s m args below meth c H locs 0 0 (MQ below (z_Qi D cA bs r σ') args s 0 0 (fun q => bs ≤ q)) (F0 m 21 ls []) := by
  have hx := B.1
  have hb := B.2.1
  have hown := B.2.2.2.1
  have hts := B.2.2.2.2.1
  unfold b_X9_sendsAll_21 at hf
  refine lv_iload_n hx hb dX9_sendsAll_21 rfl (lv_at hl 2 rfl) ?_
  refine lv_iload_n hx hb dX9_sendsAll_22 rfl (lv_at hl 1 rfl) ?_
  refine lv_icmp_ge (tgt := 49) hx hb dX9_sendsAll_23 (by decide) (fun hc23 => ?_) (fun hc23 => ?_)
  · replace hf := z_ip hc23 hf
    obtain ⟨w1, hf, ho1⟩ := z_x hf
    obtain rfl := hr1 _ ho1
    exact t_X9_sendsAll_49 B hf hW (lv_sub hl [0] rfl) 
  · replace hf := z_in hc23 hf
    refine lv_aload_n hx hb dX9_sendsAll_26 rfl (lv_at hl 0 rfl) ?_
    obtain ⟨hg2, hf⟩ := z_g hf
    obtain ⟨q3, hv4, hf⟩ := z_nn hf
    refine z_getN B hW (Or.inr zf_X9_16) rfl hg2 hv4 dX9_sendsAll_27 ?_
    obtain ⟨hg5, hf⟩ := z_g hf
    obtain ⟨r7, hq6, hf⟩ := z_b hf
    refine z_ci hW (z_runV (As := []) (rest := []) B hW zv_X9_284 (K_X2_isWaitedAt hq6) hg5 rfl rfl rfl (Nat.le_of_ble_eq_true rfl) hl.1 ⟨Nat.le_of_ble_eq_true rfl, Nat.le_of_ble_eq_true rfl⟩ dX9_sendsAll_30 ⟨Nat.le_of_ble_eq_true rfl, Nat.le_of_ble_eq_true rfl⟩) (fun H locs hW => ?_)
    refine lv_if_eq (tgt := 49) hx hb dX9_sendsAll_33 (by decide) (fun hc33 => ?_) (fun hc33 => ?_)
    · replace hf := z_ip hc33 hf
      obtain ⟨w1, hf, ho8⟩ := z_x hf
      obtain rfl := hr1 _ ho8
      exact t_X9_sendsAll_49 B hf hW (lv_sub hl [0] rfl) 
    · replace hf := z_in hc33 hf
      refine lv_aload_n hx hb dX9_sendsAll_36 rfl (lv_at hl 0 rfl) ?_
      obtain ⟨q9, hv10, hf⟩ := z_nn hf
      refine z_getN B hW (Or.inr zf_X9_16) rfl hg2 hv10 dX9_sendsAll_37 ?_
      obtain ⟨σ12, hq11, hf⟩ := z_b hf
      refine z_cv hW (z_runS (As := [.ref q9]) (rest := []) B hW zv_X9_138 (K_X8_makeVisit hq11) rfl rfl (Nat.le_of_ble_eq_true rfl) hl.1 ⟨Nat.le_of_ble_eq_true rfl, Nat.le_of_ble_eq_true rfl⟩ dX9_sendsAll_40 ⟨Nat.le_of_ble_eq_true rfl, Nat.le_of_ble_eq_true rfl⟩) (fun H locs hW => ?_)
      refine lv_iinc (v := (l3 + (1 : Int32))) (lv' := [(3, .int (l3 + (1 : Int32))), (0, .ref l0), (2, .int l2)]) hx hb dX9_sendsAll_43 hl (k := 2) rfl rfl (by decide) rfl (fun ls hl => ?_)
      refine lv_goto (tgt := 21) hx hb dX9_sendsAll_46 (by decide) ?_
      exact hk1 _ _ (Option.some.inj hf).symm hW (lv_sub hl [1, 2, 0] rfl)
set_option maxRecDepth 20000 in
set_option maxHeartbeats 4000000 in
theorem t_X9_sendsAll_21 (B : z_B p s m args meth c D cA bs RX9 cX9_sendsAll 4 (some .boolean)) {r : Int32} {σ' : zSt} {l0 : Nat} {l2 : Int32}  : ∀ (n : Nat) {σ : zSt} {l3 : Int32}, zloop (fun (t : zSt × Int32) => b_X9_sendsAll_21 l0 l2 t.1 t.2) n (σ, l3) = some (r, σ') → ∀ {H : Heap} {locs : List Loc} {ls : Array Slot}, z_Ok D cA bs s σ H locs → lv_has ls 4 [(0, .ref l0), (2, .int l2), (3, .int l3)] → W p l e (zrm 5 0 0 126) s m args below meth c H locs 0 0 (MQ below (z_Qi D cA bs r σ') args s 0 0 (fun q => bs ≤ q)) (F0 m 21 ls []) := by
  intro n
  induction n with
  | zero => intro σ l3 hf; cases hf
  | succ n ih =>
    intro σ l3 hf H locs ls hW hl
    obtain ⟨o1, hb1, hf⟩ := z_lp hf
    refine tb_X9_sendsAll_21 B hb1 hW hl  (fun σ l3 he H locs ls hW hl => ?_) (fun x he => ?_)
    · rcases hf with ⟨t, ht, hf⟩ | hf
      · rw [he] at ht
        cases ht
        exact ih hf hW hl
      · rw [he] at hf
        cases hf
    · rcases hf with ⟨t, ht, hf⟩ | hf
      · rw [he] at ht
        cases ht
      · rw [he] at hf
        exact Sum.inr.inj hf
set_option maxRecDepth 100000 in
def f_X9_sendsAll (σ : zSt) (l0 : Nat) (l1 : Int32) (l2 : Int32) : Option (Int32 × zSt) :=
(if z_ob σ l0 8 then (zc (z_R σ l0 1) none (fun q2 => (zc (z_R σ l0 0) none (fun q4 => (if z_ob σ q2 2 then (zb (f_X2_copyFrom σ q2 q4) (fun σ8 => (if z_ob σ8 l0 8 then (zc (z_R σ8 l0 1) none (fun q10 => (if z_ob σ8 q10 2 then (zl (z_pI σ8 q10 6 l1) (fun σ13 => (f_X9_sendsAll_21 l0 l2 σ13 (0 : Int32)))) else none))) else none))) else none))))) else none)
set_option maxRecDepth 20000 in
set_option maxHeartbeats 4000000 in
theorem K_X9_sendsAll {σ : zSt} {l0 : Nat} {l1 : Int32} {l2 : Int32} {r : Int32} {σ' : zSt} (hf : f_X9_sendsAll σ l0 l1 l2 = some (r, σ')) : z_M l D cA bs yX9_sendsAll cX9_sendsAll 4 (some .boolean) 5 126 0 0 [.ref l0, .int l1, .int l2] σ (z_Qi D cA bs r σ') := by
  refine z_met (own := RX9) (lv := [(0, .ref l0), (1, .int l1), (2, .int l2)]) (by decide) rfl (Nat.le_of_ble_eq_true rfl) rfl (fun p e s m below meth c ls B hnm hW hl => ?_)
  have hx := B.1
  have hb := B.2.1
  have hown := B.2.2.2.1
  have hts := B.2.2.2.2.1
  unfold f_X9_sendsAll at hf
  refine lv_aload_n hx hb dX9_sendsAll_0 rfl (lv_at hl 0 rfl) ?_
  obtain ⟨hg1, hf⟩ := z_g hf
  obtain ⟨q2, hv3, hf⟩ := z_nn hf
  refine z_getN B hW (Or.inr zf_X9_16) rfl hg1 hv3 dX9_sendsAll_1 ?_
  refine lv_aload_n hx hb dX9_sendsAll_4 rfl (lv_at hl 0 rfl) ?_
  obtain ⟨q4, hv5, hf⟩ := z_nn hf
  refine z_getN B hW (Or.inr zf_X9_10) rfl hg1 hv5 dX9_sendsAll_5 ?_
  obtain ⟨hg6, hf⟩ := z_g hf
  obtain ⟨σ8, hq7, hf⟩ := z_b hf
  refine z_cv hW (z_runV (As := [.ref q4]) (rest := []) B hW zv_X9_231 (K_X2_copyFrom hq7) hg6 rfl rfl rfl (Nat.le_of_ble_eq_true rfl) hl.1 ⟨Nat.le_of_ble_eq_true rfl, Nat.le_of_ble_eq_true rfl⟩ dX9_sendsAll_8 ⟨Nat.le_of_ble_eq_true rfl, Nat.le_of_ble_eq_true rfl⟩) (fun H locs hW => ?_)
  refine lv_aload_n hx hb dX9_sendsAll_11 rfl (lv_at hl 0 rfl) ?_
  obtain ⟨hg9, hf⟩ := z_g hf
  obtain ⟨q10, hv11, hf⟩ := z_nn hf
  refine z_getN B hW (Or.inr zf_X9_16) rfl hg9 hv11 dX9_sendsAll_12 ?_
  refine lv_iload_n hx hb dX9_sendsAll_15 rfl (lv_at hl 1 rfl) ?_
  obtain ⟨hg12, hf⟩ := z_g hf
  obtain ⟨σ13, hs14, hf⟩ := z_l hf
  refine z_putI B hW zf_X9_86 hg12 rfl hs14 dX9_sendsAll_16 (fun H locs hW => ?_)
  refine lv_iconst (v := (0 : Int32)) hx hb dX9_sendsAll_19 (by decide) ?_
  refine lv_istore_n (lv' := [(3, .int (0 : Int32)), (0, .ref l0), (1, .int l1), (2, .int l2)]) hx hb dX9_sendsAll_20 rfl hl (by decide) rfl (fun ls hl => ?_)
  unfold f_X9_sendsAll_21 at hf
  exact t_X9_sendsAll_21 B  zN hf hW (lv_sub hl [1, 3, 0] rfl)
end GEN
