section GEN
variable {p : Program} {l : Launch} {e : Env} {s : State} {m : MethodId} {args : Array Value} {below : List Frame} {meth : Method} {c : Code} {D : va_G} {cA : Nat → ClassId} {bs : Nat}
set_option maxRecDepth 100000 in
def f_X3_takeFirst (σ : zSt) (l0 : Nat) (l1 : Nat) (l2 : Int32) : Option (Int32 × zSt) :=
(if z_ob σ l1 6 then (zl (z_I σ l1 5) (fun x2 => (if z_ob σ l0 3 then (zc (z_R σ l0 0) none (fun q5 => (if z_ob σ q5 7 then (zb (f_X7_at σ q5 x2 (3 : Int32)) (fun r9 => (zl (l2 - r9) (fun x10 => (zc (z_R σ l0 0) none (fun q12 => (if z_ob σ q12 7 then (zb (f_X7_put σ q12 x2 (4 : Int32) x10) (fun σ16 => (if z_ob σ16 l0 3 then (zc (z_R σ16 l0 0) none (fun q18 => (if z_ob σ16 q18 7 then (zb (f_X7_at σ16 q18 x2 (5 : Int32)) (fun r22 => (if z_ob σ16 l1 6 then (zl (z_pI σ16 l1 5 r22) (fun σ24 => (if z_ob σ24 l1 6 then (zl (z_pI σ24 l1 6 ((z_I σ24 l1 6) - (1 : Int32))) (fun σ27 => (some (x10, σ27)))) else none))) else none))) else none))) else none))) else none))))))) else none))) else none))) else none)
set_option maxRecDepth 20000 in
set_option maxHeartbeats 4000000 in
theorem K_X3_takeFirst {σ : zSt} {l0 : Nat} {l1 : Nat} {l2 : Int32} {r : Int32} {σ' : zSt} (hf : f_X3_takeFirst σ l0 l1 l2 = some (r, σ')) : z_M l D cA bs yX3_takeFirst cX3_takeFirst 5 (some .int) 1 24 0 0 [.ref l0, .ref l1, .int l2] σ (z_Qi D cA bs r σ') := by
  refine z_met (own := RX3) (lv := [(0, .ref l0), (1, .ref l1), (2, .int l2)]) (by decide) rfl (Nat.le_of_ble_eq_true rfl) rfl (fun p e s m below meth c ls B hnm hW hl => ?_)
  have hx := B.1
  have hb := B.2.1
  have hown := B.2.2.2.1
  have hts := B.2.2.2.2.1
  unfold f_X3_takeFirst at hf
  refine lv_aload_n hx hb dX3_takeFirst_0 rfl (lv_at hl 1 rfl) ?_
  obtain ⟨hg1, hf⟩ := z_g hf
  refine z_getI B hW (Or.inl zf_X3_49) rfl hg1 dX3_takeFirst_1 ?_
  obtain ⟨x2, hx3, hf⟩ := z_l hf
  rw [hx3]
  refine lv_istore_n (lv' := [(3, .int x2), (0, .ref l0), (1, .ref l1), (2, .int l2)]) hx hb dX3_takeFirst_4 rfl hl (by decide) rfl (fun ls hl => ?_)
  refine lv_iload_n hx hb dX3_takeFirst_5 rfl (lv_at hl 3 rfl) ?_
  refine lv_aload_n hx hb dX3_takeFirst_6 rfl (lv_at hl 1 rfl) ?_
  obtain ⟨hg4, hf⟩ := z_g hf
  obtain ⟨q5, hv6, hf⟩ := z_nn hf
  refine z_getN B hW (Or.inr zf_X3_16) rfl hg4 hv6 dX3_takeFirst_7 ?_
  refine lv_iload_n hx hb dX3_takeFirst_10 rfl (lv_at hl 0 rfl) ?_
  refine lv_iconst (v := (3 : Int32)) hx hb dX3_takeFirst_11 (by decide) ?_
  obtain ⟨hg7, hf⟩ := z_g hf
  obtain ⟨r9, hq8, hf⟩ := z_b hf
  refine z_ci hW (z_runV (As := [.int x2, .int (3 : Int32)]) (rest := [.int l2]) B hW zv_X3_24 (K_X7_at hq8) hg7 rfl rfl rfl (Nat.le_of_ble_eq_true rfl) hl.1 ⟨Nat.le_of_ble_eq_true rfl, Nat.le_of_ble_eq_true rfl⟩ dX3_takeFirst_12 ⟨Nat.le_of_ble_eq_true rfl, Nat.le_of_ble_eq_true rfl⟩) (fun H locs hW => ?_)
  refine lv_isub hx hb dX3_takeFirst_15 ?_
  obtain ⟨x10, hx11, hf⟩ := z_l hf
  rw [hx11]
  refine lv_istore (lv' := [(4, .int x10), (3, .int x2), (0, .ref l0), (1, .ref l1), (2, .int l2)]) hx hb dX3_takeFirst_16 hl (by decide) rfl (fun ls hl => ?_)
  refine lv_aload_n hx hb dX3_takeFirst_18 rfl (lv_at hl 2 rfl) ?_
  obtain ⟨q12, hv13, hf⟩ := z_nn hf
  refine z_getN B hW (Or.inr zf_X3_16) rfl hg4 hv13 dX3_takeFirst_19 ?_
  refine lv_iload_n hx hb dX3_takeFirst_22 rfl (lv_at hl 1 rfl) ?_
  refine lv_iconst (v := (4 : Int32)) hx hb dX3_takeFirst_23 (by decide) ?_
  refine lv_iload hx hb dX3_takeFirst_24 (lv_at hl 0 rfl) ?_
  obtain ⟨hg14, hf⟩ := z_g hf
  obtain ⟨σ16, hq15, hf⟩ := z_b hf
  refine z_cv hW (z_runV (As := [.int x2, .int (4 : Int32), .int x10]) (rest := []) B hW zv_X3_36 (K_X7_put hq15) hg14 rfl rfl rfl (Nat.le_of_ble_eq_true rfl) hl.1 ⟨Nat.le_of_ble_eq_true rfl, Nat.le_of_ble_eq_true rfl⟩ dX3_takeFirst_26 ⟨Nat.le_of_ble_eq_true rfl, Nat.le_of_ble_eq_true rfl⟩) (fun H locs hW => ?_)
  refine lv_aload_n hx hb dX3_takeFirst_29 rfl (lv_at hl 3 rfl) ?_
  refine lv_aload_n hx hb dX3_takeFirst_30 rfl (lv_at hl 2 rfl) ?_
  obtain ⟨hg17, hf⟩ := z_g hf
  obtain ⟨q18, hv19, hf⟩ := z_nn hf
  refine z_getN B hW (Or.inr zf_X3_16) rfl hg17 hv19 dX3_takeFirst_31 ?_
  refine lv_iload_n hx hb dX3_takeFirst_34 rfl (lv_at hl 1 rfl) ?_
  refine lv_iconst (v := (5 : Int32)) hx hb dX3_takeFirst_35 (by decide) ?_
  obtain ⟨hg20, hf⟩ := z_g hf
  obtain ⟨r22, hq21, hf⟩ := z_b hf
  refine z_ci hW (z_runV (As := [.int x2, .int (5 : Int32)]) (rest := [.ref l1]) B hW zv_X3_24 (K_X7_at hq21) hg20 rfl rfl rfl (Nat.le_of_ble_eq_true rfl) hl.1 ⟨Nat.le_of_ble_eq_true rfl, Nat.le_of_ble_eq_true rfl⟩ dX3_takeFirst_36 ⟨Nat.le_of_ble_eq_true rfl, Nat.le_of_ble_eq_true rfl⟩) (fun H locs hW => ?_)
  obtain ⟨hg23, hf⟩ := z_g hf
  obtain ⟨σ24, hs25, hf⟩ := z_l hf
  refine z_putI B hW zf_X3_49 hg23 rfl hs25 dX3_takeFirst_39 (fun H locs hW => ?_)
  refine lv_aload_n hx hb dX3_takeFirst_42 rfl (lv_at hl 3 rfl) ?_
  refine lv_dup hx hb dX3_takeFirst_43 rfl ?_
  obtain ⟨hg26, hf⟩ := z_g hf
  refine z_getI B hW (Or.inl zf_X3_52) rfl hg26 dX3_takeFirst_44 ?_
  refine lv_iconst (v := (1 : Int32)) hx hb dX3_takeFirst_47 (by decide) ?_
  refine lv_isub hx hb dX3_takeFirst_48 ?_
  obtain ⟨σ27, hs28, hf⟩ := z_l hf
  refine z_putI B hW zf_X3_52 hg26 rfl hs28 dX3_takeFirst_49 (fun H locs hW => ?_)
  refine lv_iload hx hb dX3_takeFirst_52 (lv_at hl 0 rfl) ?_
  obtain ⟨rfl, rfl⟩ := z_e2 hf
  exact z_ri B hW dX3_takeFirst_54 (Nat.le_of_ble_eq_true rfl) (Nat.le_of_ble_eq_true rfl)
set_option maxRecDepth 100000 in
def f_X4_isFull_14 (σ : zSt) (s0 : Int32) : Option (Int32) :=
(if z_bl s0 then (some s0) else none)
set_option maxRecDepth 20000 in
set_option maxHeartbeats 4000000 in
theorem t_X4_isFull_14 (B : z_B p s m args meth c D cA bs RX4 cX4_isFull 1 (some .boolean)) {r : Int32} {σ : zSt} {s0 : Int32} (hf : f_X4_isFull_14 σ s0 = some r) {H : Heap} {locs : List Loc} {ls : Array Slot} (hW : z_Ok D cA bs s σ H locs) (hl : lv_has ls 1 [])  : W p l e (zrm 0 0 0 0) s m args below meth c H locs 0 0 (MQ below (z_Qi D cA bs r σ) args s 0 0 (fun q => bs ≤ q)) (F0 m 14 ls [.int s0]) := by
  have hx := B.1
  have hb := B.2.1
  have hown := B.2.2.2.1
  have hts := B.2.2.2.2.1
  unfold f_X4_isFull_14 at hf
  obtain ⟨hg1, hf⟩ := z_g hf
  obtain rfl := z_e1 hf
  exact z_rz hg1 B hW dX4_isFull_14 (Nat.le_of_ble_eq_true rfl) (Nat.le_of_ble_eq_true rfl)
set_option maxRecDepth 100000 in
def f_X4_isFull (σ : zSt) (l0 : Nat) : Option (Int32) :=
(if z_ob σ l0 4 then (if (z_I σ l0 2) < (20 : Int32) then
(f_X4_isFull_14 σ (0 : Int32))
else
(f_X4_isFull_14 σ (1 : Int32))) else none)
set_option maxRecDepth 20000 in
set_option maxHeartbeats 4000000 in
theorem K_X4_isFull {σ : zSt} {l0 : Nat} {r : Int32} (hf : f_X4_isFull σ l0 = some r) : z_M l D cA bs yX4_isFull cX4_isFull 1 (some .boolean) 0 0 0 0 [.ref l0] σ (z_Qi D cA bs r σ) := by
  refine z_met (own := RX4) (lv := [(0, .ref l0)]) (by decide) rfl (Nat.le_of_ble_eq_true rfl) rfl (fun p e s m below meth c ls B hnm hW hl => ?_)
  have hx := B.1
  have hb := B.2.1
  have hown := B.2.2.2.1
  have hts := B.2.2.2.2.1
  unfold f_X4_isFull at hf
  refine lv_aload_n hx hb dX4_isFull_0 rfl (lv_at hl 0 rfl) ?_
  obtain ⟨hg1, hf⟩ := z_g hf
  refine z_getI B hW (Or.inl zf_X4_18) rfl hg1 dX4_isFull_1 ?_
  refine lv_bipush (v := (20 : Int32)) hx hb dX4_isFull_4 (by decide) ?_
  refine lv_icmp_lt (tgt := 13) hx hb dX4_isFull_6 (by decide) (fun hc6 => ?_) (fun hc6 => ?_)
  · replace hf := z_ip hc6 hf
    refine lv_iconst (v := (0 : Int32)) hx hb dX4_isFull_13 (by decide) ?_
    exact t_X4_isFull_14 B hf hW (lv_sub hl [] rfl) 
  · replace hf := z_in hc6 hf
    refine lv_iconst (v := (1 : Int32)) hx hb dX4_isFull_9 (by decide) ?_
    refine lv_goto (tgt := 14) hx hb dX4_isFull_10 (by decide) ?_
    exact t_X4_isFull_14 B hf hW (lv_sub hl [] rfl) 
set_option maxRecDepth 100000 in
def f_X4_add_46 (σ : zSt) : Option (zSt) :=
(some σ)
set_option maxRecDepth 20000 in
set_option maxHeartbeats 4000000 in
theorem t_X4_add_46 (B : z_B p s m args meth c D cA bs RX4 cX4_add 3 none)  {σ' : zSt} {σ : zSt} (hf : f_X4_add_46 σ = some σ') {H : Heap} {locs : List Loc} {ls : Array Slot} (hW : z_Ok D cA bs s σ H locs) (hl : lv_has ls 3 [])  : W p l e (zrm 0 0 0 0) s m args below meth c H locs 0 0 (MQ below (z_Qv D cA bs σ') args s 0 0 (fun q => bs ≤ q)) (F0 m 46 ls []) := by
  have hx := B.1
  have hb := B.2.1
  have hown := B.2.2.2.1
  have hts := B.2.2.2.2.1
  unfold f_X4_add_46 at hf
  obtain rfl := z_e1 hf
  exact z_rv B hW dX4_add_46 (Nat.le_of_ble_eq_true rfl) (Nat.le_of_ble_eq_true rfl)
set_option maxRecDepth 100000 in
def f_X4_add (σ : zSt) (l0 : Nat) (l1 : Int32) (l2 : Int32) : Option (zSt) :=
(if z_ob σ l0 4 then (if (z_I σ l0 2) < 0 then
(f_X4_add_46 σ)
else
(if (20 : Int32) ≤ (z_I σ l0 2) then
(f_X4_add_46 σ)
else
(zc (z_R σ l0 0) none (fun q2 => (if z_ar σ q2 0 then (if z_ix (z_I σ l0 2) (z_ln σ q2) then (zl (z_pI σ q2 (z_I σ l0 2).toNatClampNeg l1) (fun σ6 => (if z_ob σ6 l0 4 then (zc (z_R σ6 l0 1) none (fun q9 => (if z_ar σ6 q9 0 then (if z_ix (z_I σ6 l0 2) (z_ln σ6 q9) then (zl (z_pI σ6 q9 (z_I σ6 l0 2).toNatClampNeg l2) (fun σ13 => (if z_ob σ13 l0 4 then (zl (z_pI σ13 l0 2 ((z_I σ13 l0 2) + (1 : Int32))) (fun σ16 => (f_X4_add_46 σ16))) else none))) else none) else none))) else none))) else none) else none))))) else none)
set_option maxRecDepth 20000 in
set_option maxHeartbeats 4000000 in
theorem K_X4_add {σ : zSt} {l0 : Nat} {l1 : Int32} {l2 : Int32}  {σ' : zSt} (hf : f_X4_add σ l0 l1 l2 = some σ') : z_M l D cA bs yX4_add cX4_add 3 none 0 0 0 0 [.ref l0, .int l1, .int l2] σ (z_Qv D cA bs σ') := by
  refine z_met (own := RX4) (lv := [(0, .ref l0), (1, .int l1), (2, .int l2)]) (by decide) rfl (Nat.le_of_ble_eq_true rfl) rfl (fun p e s m below meth c ls B hnm hW hl => ?_)
  have hx := B.1
  have hb := B.2.1
  have hown := B.2.2.2.1
  have hts := B.2.2.2.2.1
  unfold f_X4_add at hf
  refine lv_aload_n hx hb dX4_add_0 rfl (lv_at hl 0 rfl) ?_
  obtain ⟨hg1, hf⟩ := z_g hf
  refine z_getI B hW (Or.inl zf_X4_18) rfl hg1 dX4_add_1 ?_
  refine lv_if_lt (tgt := 46) hx hb dX4_add_4 (by decide) (fun hc4 => ?_) (fun hc4 => ?_)
  · replace hf := z_ip hc4 hf
    exact t_X4_add_46 B hf hW (lv_sub hl [] rfl) 
  · replace hf := z_in hc4 hf
    refine lv_aload_n hx hb dX4_add_7 rfl (lv_at hl 0 rfl) ?_
    refine z_getI B hW (Or.inl zf_X4_18) rfl hg1 dX4_add_8 ?_
    refine lv_bipush (v := (20 : Int32)) hx hb dX4_add_11 (by decide) ?_
    refine lv_icmp_ge (tgt := 46) hx hb dX4_add_13 (by decide) (fun hc13 => ?_) (fun hc13 => ?_)
    · replace hf := z_ip hc13 hf
      exact t_X4_add_46 B hf hW (lv_sub hl [] rfl) 
    · replace hf := z_in hc13 hf
      refine lv_aload_n hx hb dX4_add_16 rfl (lv_at hl 0 rfl) ?_
      obtain ⟨q2, hv3, hf⟩ := z_nn hf
      refine z_getN B hW (Or.inr zf_X4_9) rfl hg1 hv3 dX4_add_17 ?_
      refine lv_aload_n hx hb dX4_add_20 rfl (lv_at hl 0 rfl) ?_
      refine z_getI B hW (Or.inl zf_X4_18) rfl hg1 dX4_add_21 ?_
      refine lv_iload_n hx hb dX4_add_24 rfl (lv_at hl 1 rfl) ?_
      obtain ⟨hg4, hf⟩ := z_g hf
      obtain ⟨hg5, hf⟩ := z_g hf
      obtain ⟨σ6, hs7, hf⟩ := z_l hf
      refine z_ast B hW hg4 hg5 hs7 dX4_add_25 (fun H locs hW => ?_)
      refine lv_aload_n hx hb dX4_add_26 rfl (lv_at hl 0 rfl) ?_
      obtain ⟨hg8, hf⟩ := z_g hf
      obtain ⟨q9, hv10, hf⟩ := z_nn hf
      refine z_getN B hW (Or.inr zf_X4_15) rfl hg8 hv10 dX4_add_27 ?_
      refine lv_aload_n hx hb dX4_add_30 rfl (lv_at hl 0 rfl) ?_
      refine z_getI B hW (Or.inl zf_X4_18) rfl hg8 dX4_add_31 ?_
      refine lv_iload_n hx hb dX4_add_34 rfl (lv_at hl 2 rfl) ?_
      obtain ⟨hg11, hf⟩ := z_g hf
      obtain ⟨hg12, hf⟩ := z_g hf
      obtain ⟨σ13, hs14, hf⟩ := z_l hf
      refine z_ast B hW hg11 hg12 hs14 dX4_add_35 (fun H locs hW => ?_)
      refine lv_aload_n hx hb dX4_add_36 rfl (lv_at hl 0 rfl) ?_
      refine lv_dup hx hb dX4_add_37 rfl ?_
      obtain ⟨hg15, hf⟩ := z_g hf
      refine z_getI B hW (Or.inl zf_X4_18) rfl hg15 dX4_add_38 ?_
      refine lv_iconst (v := (1 : Int32)) hx hb dX4_add_41 (by decide) ?_
      refine lv_iadd hx hb dX4_add_42 ?_
      obtain ⟨σ16, hs17, hf⟩ := z_l hf
      refine z_putI B hW zf_X4_18 hg15 rfl hs17 dX4_add_43 (fun H locs hW => ?_)
      exact t_X4_add_46 B hf hW (lv_sub hl [] rfl) 
set_option maxRecDepth 100000 in
def f_X8_lowest_40 (σ : zSt) (l0 : Nat) (l1 : Int32) (l2 : Int32) : Option ((Int32) ⊕ (Option Nat)) :=
(some (.inl (l2 + (1 : Int32))))
set_option maxRecDepth 20000 in
set_option maxHeartbeats 4000000 in
theorem t_X8_lowest_40 (B : z_B p s m args meth c D cA bs RX8 cX8_lowest 4 (some (.object "TokenBus$Station"))) {r : Option Nat} {o1 : (Int32) ⊕ (Option Nat)} {σ : zSt} {l0 : Nat} {l1 : Int32} {l2 : Int32} (hf : f_X8_lowest_40 σ l0 l1 l2 = some o1) {H : Heap} {locs : List Loc} {ls : Array Slot} (hW : z_Ok D cA bs s σ H locs) (hl : lv_has ls 4 [(0, .ref l0), (1, .int l1), (2, .int l2)]) (hk1 : ∀ (l2 : Int32), o1 = .inl l2 → ∀ {H : Heap} {locs : List Loc} {ls : Array Slot}, z_Ok D cA bs s σ H locs → lv_has ls 4 [(0, .ref l0), (1, .int l1), (2, .int l2)] → W p l e (zrm 1 0 0 21) s m args below meth c H locs 0 0 (MQ below (z_Qq D cA bs r σ) args s 0 0 (fun q => bs ≤ q)) (F0 m 2 ls [])) (hr1 : ∀ x, o1 = .inr x → x = r) : W p l e (zrm 1 0 0 21) s m args below meth c H locs 0 0 (MQ below (z_Qq D cA bs r σ) args s 0 0 (fun q => bs ≤ q)) (F0 m 40 ls []) := by
  have hx := B.1
  have hb := B.2.1
  have hown := B.2.2.2.1
  have hts := B.2.2.2.2.1
  unfold f_X8_lowest_40 at hf
  refine lv_iinc (v := (l2 + (1 : Int32))) (lv' := [(2, .int (l2 + (1 : Int32))), (0, .ref l0), (1, .int l1)]) hx hb dX8_lowest_40 hl (k := 2) rfl rfl (by decide) rfl (fun ls hl => ?_)
  refine lv_goto (tgt := 2) hx hb dX8_lowest_43 (by decide) ?_
  exact hk1 _ (Option.some.inj hf).symm hW (lv_sub hl [1, 2, 0] rfl)
set_option maxRecDepth 100000 in
def f_X8_lowest_38 (σ : zSt) (l3 : Nat) : Option (Option Nat) :=
(some (some l3))
set_option maxRecDepth 20000 in
set_option maxHeartbeats 4000000 in
theorem t_X8_lowest_38 (B : z_B p s m args meth c D cA bs RX8 cX8_lowest 4 (some (.object "TokenBus$Station"))) {r : Option Nat} {σ : zSt} {l3 : Nat} (hf : f_X8_lowest_38 σ l3 = some r) {H : Heap} {locs : List Loc} {ls : Array Slot} (hW : z_Ok D cA bs s σ H locs) (hl : lv_has ls 4 [(3, .ref l3)])  : W p l e (zrm 1 0 0 21) s m args below meth c H locs 0 0 (MQ below (z_Qq D cA bs r σ) args s 0 0 (fun q => bs ≤ q)) (F0 m 38 ls []) := by
  have hx := B.1
  have hb := B.2.1
  have hown := B.2.2.2.1
  have hts := B.2.2.2.2.1
  unfold f_X8_lowest_38 at hf
  refine lv_aload_n hx hb dX8_lowest_38 rfl (lv_at hl 0 rfl) ?_
  obtain rfl := z_e1 hf
  exact z_rq (r := (some l3)) B hW dX8_lowest_39 (Nat.le_of_ble_eq_true rfl) (Nat.le_of_ble_eq_true rfl)
set_option maxRecDepth 100000 in
def b_X8_lowest_2 (σ : zSt) (l0 : Nat) (l1 : Int32) (l2 : Int32) : Option ((Int32) ⊕ (Option Nat)) :=
(if z_ob σ l0 2 then (if (z_I σ l0 5) ≤ l2 then
(zex (some none))
else
(zb (f_X2_stationIn σ l0 l2) (fun r4 => (zc r4
(f_X8_lowest_40 σ l0 l1 l2)
(fun a5 => (if z_ob σ a5 6 then (if (z_I σ a5 1) = 0 then
(f_X8_lowest_40 σ l0 l1 l2)
else
(if (z_I σ a5 2) = 0 then
(if l1 = 0 then
(zex (f_X8_lowest_38 σ a5))
else
(f_X8_lowest_40 σ l0 l1 l2))
else
(zex (f_X8_lowest_38 σ a5)))) else none)))))) else none)
set_option maxRecDepth 100000 in
def f_X8_lowest_2 (σ : zSt) (l0 : Nat) (l1 : Int32) (l2 : Int32) : Option (Option Nat) := zloop (fun (t : Int32) => b_X8_lowest_2 σ l0 l1 t) zN l2
set_option maxRecDepth 20000 in
set_option maxHeartbeats 4000000 in
theorem tb_X8_lowest_2 (B : z_B p s m args meth c D cA bs RX8 cX8_lowest 4 (some (.object "TokenBus$Station"))) {r : Option Nat} {o1 : (Int32) ⊕ (Option Nat)} {σ : zSt} {l0 : Nat} {l1 : Int32} {l2 : Int32} (hf : b_X8_lowest_2 σ l0 l1 l2 = some o1) {H : Heap} {locs : List Loc} {ls : Array Slot} (hW : z_Ok D cA bs s σ H locs) (hl : lv_has ls 4 [(0, .ref l0), (1, .int l1), (2, .int l2)]) (hk1 : ∀ (l2 : Int32), o1 = .inl l2 → ∀ {H : Heap} {locs : List Loc} {ls : Array Slot}, z_Ok D cA bs s σ H locs → lv_has ls 4 [(0, .ref l0), (1, .int l1), (2, .int l2)] → W p l e (zrm 1 0 0 21) s m args below meth c H locs 0 0 (MQ below (z_Qq D cA bs r σ) args s 0 0 (fun q => bs ≤ q)) (F0 m 2 ls [])) (hr1 : ∀ x, o1 = .inr x → x = r) : W p l e (zrm 1 0 0 21) s m args below meth c H locs 0 0 (MQ below (z_Qq D cA bs r σ) args s 0 0 (fun q => bs ≤ q)) (F0 m 2 ls []) := by
  have hx := B.1
  have hb := B.2.1
  have hown := B.2.2.2.1
  have hts := B.2.2.2.2.1
  unfold b_X8_lowest_2 at hf
  refine lv_iload_n hx hb dX8_lowest_2 rfl (lv_at hl 2 rfl) ?_
  refine lv_aload_n hx hb dX8_lowest_3 rfl (lv_at hl 0 rfl) ?_
  obtain ⟨hg1, hf⟩ := z_g hf
  refine z_getI B hW (Or.inl zf_X8_85) rfl hg1 dX8_lowest_4 ?_
  refine lv_icmp_ge (tgt := 46) hx hb dX8_lowest_7 (by decide) (fun hc7 => ?_) (fun hc7 => ?_)
  · replace hf := z_ip hc7 hf
    obtain ⟨w1, hf, ho2⟩ := z_x hf
    obtain rfl := hr1 _ ho2
    refine lv_null hx hb dX8_lowest_46 ?_
    obtain rfl := z_e1 hf
    exact z_rq (r := none) B hW dX8_lowest_47 (Nat.le_of_ble_eq_true rfl) (Nat.le_of_ble_eq_true rfl)
  · replace hf := z_in hc7 hf
    refine lv_aload_n hx hb dX8_lowest_10 rfl (lv_at hl 0 rfl) ?_
    refine lv_iload_n hx hb dX8_lowest_11 rfl (lv_at hl 2 rfl) ?_
    obtain ⟨r4, hq3, hf⟩ := z_b hf
    refine z_cq hW (z_runV (As := [.int l2]) (rest := []) B hW zv_X8_88 (K_X2_stationIn hq3) hg1 rfl rfl rfl (Nat.le_of_ble_eq_true rfl) hl.1 ⟨Nat.le_of_ble_eq_true rfl, Nat.le_of_ble_eq_true rfl⟩ dX8_lowest_12 ⟨Nat.le_of_ble_eq_true rfl, Nat.le_of_ble_eq_true rfl⟩) (fun H locs hW => ?_)
    refine z_astore_n (lv' := [(3, va_rf r4), (0, .ref l0), (1, .int l1), (2, .int l2)]) hx hb dX8_lowest_15 rfl hl (by decide) rfl (fun ls hl => ?_)
    refine z_aload_n hx hb dX8_lowest_16 rfl (lv_at hl 0 rfl) ?_
    refine z_ifnull (tgt := 40) hx hb dX8_lowest_17 (by decide) (fun hz9 => ?_) (fun a5 hz9 => ?_)
    · subst hz9
      replace hf := z_c0 hf
      exact t_X8_lowest_40 B hf hW (lv_sub hl [1, 2, 3] rfl) hk1 hr1
    · subst hz9
      replace hf := z_c1 hf
      refine lv_aload_n hx hb dX8_lowest_20 rfl (lv_at hl 0 rfl) ?_
      obtain ⟨hg6, hf⟩ := z_g hf
      refine z_getI B hW (Or.inl zf_X8_91) rfl hg6 dX8_lowest_21 ?_
      refine lv_if_eq (tgt := 40) hx hb dX8_lowest_24 (by decide) (fun hc24 => ?_) (fun hc24 => ?_)
      · replace hf := z_ip hc24 hf
        exact t_X8_lowest_40 B hf hW (lv_sub hl [1, 2, 3] rfl) hk1 hr1
      · replace hf := z_in hc24 hf
        refine lv_aload_n hx hb dX8_lowest_27 rfl (lv_at hl 0 rfl) ?_
        refine z_getI B hW (Or.inl zf_X8_69) rfl hg6 dX8_lowest_28 ?_
        refine lv_if_ne (tgt := 38) hx hb dX8_lowest_31 (by decide) (fun hc31 => ?_) (fun hc31 => ?_)
        · replace hf := z_in hc31 hf
          obtain ⟨w1, hf, ho7⟩ := z_x hf
          obtain rfl := hr1 _ ho7
          exact t_X8_lowest_38 B hf hW (lv_sub hl [0] rfl) 
        · replace hf := z_ip hc31 hf
          refine lv_iload_n hx hb dX8_lowest_34 rfl (lv_at hl 2 rfl) ?_
          refine lv_if_ne (tgt := 40) hx hb dX8_lowest_35 (by decide) (fun hc35 => ?_) (fun hc35 => ?_)
          · replace hf := z_in hc35 hf
            exact t_X8_lowest_40 B hf hW (lv_sub hl [1, 2, 3] rfl) hk1 hr1
          · replace hf := z_ip hc35 hf
            obtain ⟨w1, hf, ho8⟩ := z_x hf
            obtain rfl := hr1 _ ho8
            exact t_X8_lowest_38 B hf hW (lv_sub hl [0] rfl) 
set_option maxRecDepth 20000 in
set_option maxHeartbeats 4000000 in
theorem t_X8_lowest_2 (B : z_B p s m args meth c D cA bs RX8 cX8_lowest 4 (some (.object "TokenBus$Station"))) {r : Option Nat} {σ : zSt} {l0 : Nat} {l1 : Int32}  : ∀ (n : Nat) {l2 : Int32}, zloop (fun (t : Int32) => b_X8_lowest_2 σ l0 l1 t) n l2 = some r → ∀ {H : Heap} {locs : List Loc} {ls : Array Slot}, z_Ok D cA bs s σ H locs → lv_has ls 4 [(0, .ref l0), (1, .int l1), (2, .int l2)] → W p l e (zrm 1 0 0 21) s m args below meth c H locs 0 0 (MQ below (z_Qq D cA bs r σ) args s 0 0 (fun q => bs ≤ q)) (F0 m 2 ls []) := by
  intro n
  induction n with
  | zero => intro l2 hf; cases hf
  | succ n ih =>
    intro l2 hf H locs ls hW hl
    obtain ⟨o1, hb1, hf⟩ := z_lp hf
    refine tb_X8_lowest_2 B hb1 hW hl  (fun l2 he H locs ls hW hl => ?_) (fun x he => ?_)
    · rcases hf with ⟨t, ht, hf⟩ | hf
      · rw [he] at ht
        cases ht
        exact ih hf hW hl
      · rw [he] at hf
        cases hf
    · rcases hf with ⟨t, ht, hf⟩ | hf
      · rw [he] at ht
        cases ht
      · rw [he] at hf
        exact Sum.inr.inj hf
set_option maxRecDepth 100000 in
def f_X8_lowest (σ : zSt) (l0 : Nat) (l1 : Int32) : Option (Option Nat) :=
(f_X8_lowest_2 σ l0 l1 (0 : Int32))
set_option maxRecDepth 20000 in
set_option maxHeartbeats 4000000 in
theorem K_X8_lowest {σ : zSt} {l0 : Nat} {l1 : Int32} {r : Option Nat} (hf : f_X8_lowest σ l0 l1 = some r) : z_M l D cA bs yX8_lowest cX8_lowest 4 (some (.object "TokenBus$Station")) 1 21 0 0 [.ref l0, .int l1] σ (z_Qq D cA bs r σ) := by
  refine z_met (own := RX8) (lv := [(0, .ref l0), (1, .int l1)]) (by decide) rfl (Nat.le_of_ble_eq_true rfl) rfl (fun p e s m below meth c ls B hnm hW hl => ?_)
  have hx := B.1
  have hb := B.2.1
  have hown := B.2.2.2.1
  have hts := B.2.2.2.2.1
  unfold f_X8_lowest at hf
  refine lv_iconst (v := (0 : Int32)) hx hb dX8_lowest_0 (by decide) ?_
  refine lv_istore_n (lv' := [(2, .int (0 : Int32)), (0, .ref l0), (1, .int l1)]) hx hb dX8_lowest_1 rfl hl (by decide) rfl (fun ls hl => ?_)
  unfold f_X8_lowest_2 at hf
  exact t_X8_lowest_2 B  zN hf hW (lv_sub hl [1, 2, 0] rfl)
set_option maxRecDepth 100000 in
def f_X8_makeAnew_65 (σ : zSt) (l0 : Nat) (l1 : Nat) : Option (Option Nat × zSt) :=
(if z_ob σ l1 6 then (if z_ob σ l0 2 then (zl (z_pI σ l0 10 (z_I σ l1 0)) (fun σ3 => (if z_ob σ3 l0 2 then (zc (z_R σ3 l0 3) none (fun q6 => (if z_ob σ3 q6 0 then (zl (z_pI σ3 q6 3 ((z_I σ3 q6 3) + (1 : Int32))) (fun σ9 => (some ((some l1), σ9)))) else none))) else none))) else none) else none)
set_option maxRecDepth 20000 in
set_option maxHeartbeats 4000000 in
theorem t_X8_makeAnew_65 (B : z_B p s m args meth c D cA bs RX8 cX8_makeAnew 2 (some (.object "TokenBus$Station"))) {r : Option Nat} {σ' : zSt} {σ : zSt} {l0 : Nat} {l1 : Nat} (hf : f_X8_makeAnew_65 σ l0 l1 = some (r, σ')) {H : Heap} {locs : List Loc} {ls : Array Slot} (hW : z_Ok D cA bs s σ H locs) (hl : lv_has ls 2 [(0, .ref l0), (1, .ref l1)])  : W p l e (zrm 2 0 0 44) s m args below meth c H locs 0 0 (MQ below (z_Qq D cA bs r σ') args s 0 0 (fun q => bs ≤ q)) (F0 m 65 ls []) := by
  have hx := B.1
  have hb := B.2.1
  have hown := B.2.2.2.1
  have hts := B.2.2.2.2.1
  unfold f_X8_makeAnew_65 at hf
  refine lv_aload_n hx hb dX8_makeAnew_65 rfl (lv_at hl 0 rfl) ?_
  refine lv_aload_n hx hb dX8_makeAnew_66 rfl (lv_at hl 1 rfl) ?_
  obtain ⟨hg1, hf⟩ := z_g hf
  refine z_getI B hW (Or.inl zf_X8_53) rfl hg1 dX8_makeAnew_67 ?_
  obtain ⟨hg2, hf⟩ := z_g hf
  obtain ⟨σ3, hs4, hf⟩ := z_l hf
  refine z_putI B hW zf_X8_9 hg2 rfl hs4 dX8_makeAnew_70 (fun H locs hW => ?_)
  refine lv_aload_n hx hb dX8_makeAnew_73 rfl (lv_at hl 0 rfl) ?_
  obtain ⟨hg5, hf⟩ := z_g hf
  obtain ⟨q6, hv7, hf⟩ := z_nn hf
  refine z_getN B hW (Or.inr zf_X8_76) rfl hg5 hv7 dX8_makeAnew_74 ?_
  refine lv_dup hx hb dX8_makeAnew_77 rfl ?_
  obtain ⟨hg8, hf⟩ := z_g hf
  refine z_getI B hW (Or.inl zf_X8_80) rfl hg8 dX8_makeAnew_78 ?_
  refine lv_iconst (v := (1 : Int32)) hx hb dX8_makeAnew_81 (by decide) ?_
  refine lv_iadd hx hb dX8_makeAnew_82 ?_
  obtain ⟨σ9, hs10, hf⟩ := z_l hf
  refine z_putI B hW zf_X8_80 hg8 rfl hs10 dX8_makeAnew_83 (fun H locs hW => ?_)
  refine lv_aload_n hx hb dX8_makeAnew_86 rfl (lv_at hl 1 rfl) ?_
  obtain ⟨rfl, rfl⟩ := z_e2 hf
  exact z_rq (r := (some l1)) B hW dX8_makeAnew_87 (Nat.le_of_ble_eq_true rfl) (Nat.le_of_ble_eq_true rfl)
set_option maxRecDepth 100000 in
def f_X8_makeAnew_16 (σ : zSt) (l0 : Nat) (l1 : Option Nat) : Option (Option Nat × zSt) :=
(zc l1
(some (none, σ))
(fun a1 => (if z_ob σ l0 2 then (if z_ob σ a1 6 then (zl (z_pI σ l0 9 ((z_I σ l0 9) + ((z_I σ l0 7) * ((6 : Int32) + ((2 : Int32) * (z_I σ a1 0)))))) (fun σ4 => (if z_ob σ4 a1 6 then (if (z_I σ4 a1 2) = 0 then
(zl (z_pI σ4 a1 2 (1 : Int32)) (fun σ7 => (if z_ob σ7 a1 6 then (zl (z_pI σ7 a1 3 (z_I σ7 a1 0)) (fun σ10 => (f_X8_makeAnew_65 σ10 l0 a1))) else none)))
else
(f_X8_makeAnew_65 σ4 l0 a1)) else none))) else none) else none)))
set_option maxRecDepth 20000 in
set_option maxHeartbeats 4000000 in
theorem t_X8_makeAnew_16 (B : z_B p s m args meth c D cA bs RX8 cX8_makeAnew 2 (some (.object "TokenBus$Station"))) {r : Option Nat} {σ' : zSt} {σ : zSt} {l0 : Nat} {l1 : Option Nat} (hf : f_X8_makeAnew_16 σ l0 l1 = some (r, σ')) {H : Heap} {locs : List Loc} {ls : Array Slot} (hW : z_Ok D cA bs s σ H locs) (hl : lv_has ls 2 [(0, .ref l0), (1, va_rf l1)])  : W p l e (zrm 2 0 0 44) s m args below meth c H locs 0 0 (MQ below (z_Qq D cA bs r σ') args s 0 0 (fun q => bs ≤ q)) (F0 m 16 ls []) := by
  have hx := B.1
  have hb := B.2.1
  have hown := B.2.2.2.1
  have hts := B.2.2.2.2.1
  unfold f_X8_makeAnew_16 at hf
  refine z_aload_n hx hb dX8_makeAnew_16 rfl (lv_at hl 1 rfl) ?_
  refine z_ifnonnull (tgt := 22) hx hb dX8_makeAnew_17 (by decide) (fun hz12 => ?_) (fun a1 hz12 => ?_)
  · subst hz12
    replace hf := z_c0 hf
    refine lv_null hx hb dX8_makeAnew_20 ?_
    obtain ⟨rfl, rfl⟩ := z_e2 hf
    exact z_rq (r := none) B hW dX8_makeAnew_21 (Nat.le_of_ble_eq_true rfl) (Nat.le_of_ble_eq_true rfl)
  · subst hz12
    replace hf := z_c1 hf
    refine lv_aload_n hx hb dX8_makeAnew_22 rfl (lv_at hl 0 rfl) ?_
    refine lv_dup hx hb dX8_makeAnew_23 rfl ?_
    obtain ⟨hg2, hf⟩ := z_g hf
    refine z_getI B hW (Or.inl zf_X8_25) rfl hg2 dX8_makeAnew_24 ?_
    refine lv_aload_n hx hb dX8_makeAnew_27 rfl (lv_at hl 0 rfl) ?_
    refine z_getI B hW (Or.inl zf_X8_66) rfl hg2 dX8_makeAnew_28 ?_
    refine lv_bipush (v := (6 : Int32)) hx hb dX8_makeAnew_31 (by decide) ?_
    refine lv_iconst (v := (2 : Int32)) hx hb dX8_makeAnew_33 (by decide) ?_
    refine lv_aload_n hx hb dX8_makeAnew_34 rfl (lv_at hl 1 rfl) ?_
    obtain ⟨hg3, hf⟩ := z_g hf
    refine z_getI B hW (Or.inl zf_X8_53) rfl hg3 dX8_makeAnew_35 ?_
    refine lv_imul hx hb dX8_makeAnew_38 ?_
    refine lv_iadd hx hb dX8_makeAnew_39 ?_
    refine lv_imul hx hb dX8_makeAnew_40 ?_
    refine lv_iadd hx hb dX8_makeAnew_41 ?_
    obtain ⟨σ4, hs5, hf⟩ := z_l hf
    refine z_putI B hW zf_X8_25 hg2 rfl hs5 dX8_makeAnew_42 (fun H locs hW => ?_)
    refine lv_aload_n hx hb dX8_makeAnew_45 rfl (lv_at hl 1 rfl) ?_
    obtain ⟨hg6, hf⟩ := z_g hf
    refine z_getI B hW (Or.inl zf_X8_69) rfl hg6 dX8_makeAnew_46 ?_
    refine lv_if_ne (tgt := 65) hx hb dX8_makeAnew_49 (by decide) (fun hc49 => ?_) (fun hc49 => ?_)
    · replace hf := z_in hc49 hf
      exact t_X8_makeAnew_65 B hf hW hl 
    · replace hf := z_ip hc49 hf
      refine lv_aload_n hx hb dX8_makeAnew_52 rfl (lv_at hl 1 rfl) ?_
      refine lv_iconst (v := (1 : Int32)) hx hb dX8_makeAnew_53 (by decide) ?_
      obtain ⟨σ7, hs8, hf⟩ := z_l hf
      refine z_putI B hW zf_X8_69 hg6 (by decide) hs8 dX8_makeAnew_54 (fun H locs hW => ?_)
      refine lv_aload_n hx hb dX8_makeAnew_57 rfl (lv_at hl 1 rfl) ?_
      refine lv_aload_n hx hb dX8_makeAnew_58 rfl (lv_at hl 1 rfl) ?_
      obtain ⟨hg9, hf⟩ := z_g hf
      refine z_getI B hW (Or.inl zf_X8_53) rfl hg9 dX8_makeAnew_59 ?_
      obtain ⟨σ10, hs11, hf⟩ := z_l hf
      refine z_putI B hW zf_X8_73 hg9 rfl hs11 dX8_makeAnew_62 (fun H locs hW => ?_)
      exact t_X8_makeAnew_65 B hf hW hl 
set_option maxRecDepth 100000 in
def f_X8_makeAnew (σ : zSt) (l0 : Nat) : Option (Option Nat × zSt) :=
(zb (f_X8_lowest σ l0 (1 : Int32)) (fun r2 => (zc r2
(zb (f_X8_lowest σ l0 (0 : Int32)) (fun r5 => (f_X8_makeAnew_16 σ l0 r5)))
(fun a3 => (f_X8_makeAnew_16 σ l0 (some a3))))))
set_option maxRecDepth 20000 in
set_option maxHeartbeats 4000000 in
theorem K_X8_makeAnew {σ : zSt} {l0 : Nat} {r : Option Nat} {σ' : zSt} (hf : f_X8_makeAnew σ l0 = some (r, σ')) : z_M l D cA bs yX8_makeAnew cX8_makeAnew 2 (some (.object "TokenBus$Station")) 2 44 0 0 [.ref l0] σ (z_Qq D cA bs r σ') := by
  refine z_met (own := RX8) (lv := [(0, .ref l0)]) (by decide) rfl (Nat.le_of_ble_eq_true rfl) rfl (fun p e s m below meth c ls B hnm hW hl => ?_)
  have hx := B.1
  have hb := B.2.1
  have hown := B.2.2.2.1
  have hts := B.2.2.2.2.1
  unfold f_X8_makeAnew at hf
  refine lv_aload_n hx hb dX8_makeAnew_0 rfl (lv_at hl 0 rfl) ?_
  refine lv_iconst (v := (1 : Int32)) hx hb dX8_makeAnew_1 (by decide) ?_
  obtain ⟨r2, hq1, hf⟩ := z_b hf
  refine z_cq hW (z_runS (As := [.ref l0, .int (1 : Int32)]) (rest := []) B hW zv_X8_62 (K_X8_lowest hq1) rfl rfl (Nat.le_of_ble_eq_true rfl) hl.1 ⟨Nat.le_of_ble_eq_true rfl, Nat.le_of_ble_eq_true rfl⟩ dX8_makeAnew_2 ⟨Nat.le_of_ble_eq_true rfl, Nat.le_of_ble_eq_true rfl⟩) (fun H locs hW => ?_)
  refine z_astore_n (lv' := [(1, va_rf r2), (0, .ref l0)]) hx hb dX8_makeAnew_5 rfl hl (by decide) rfl (fun ls hl => ?_)
  refine z_aload_n hx hb dX8_makeAnew_6 rfl (lv_at hl 0 rfl) ?_
  refine z_ifnonnull (tgt := 16) hx hb dX8_makeAnew_7 (by decide) (fun hz6 => ?_) (fun a3 hz6 => ?_)
  · subst hz6
    replace hf := z_c0 hf
    refine lv_aload_n hx hb dX8_makeAnew_10 rfl (lv_at hl 1 rfl) ?_
    refine lv_iconst (v := (0 : Int32)) hx hb dX8_makeAnew_11 (by decide) ?_
    obtain ⟨r5, hq4, hf⟩ := z_b hf
    refine z_cq hW (z_runS (As := [.ref l0, .int (0 : Int32)]) (rest := []) B hW zv_X8_62 (K_X8_lowest hq4) rfl rfl (Nat.le_of_ble_eq_true rfl) hl.1 ⟨Nat.le_of_ble_eq_true rfl, Nat.le_of_ble_eq_true rfl⟩ dX8_makeAnew_12 ⟨Nat.le_of_ble_eq_true rfl, Nat.le_of_ble_eq_true rfl⟩) (fun H locs hW => ?_)
    refine z_astore_n (lv' := [(1, va_rf r5), (0, .ref l0)]) hx hb dX8_makeAnew_15 rfl hl (by decide) rfl (fun ls hl => ?_)
    exact t_X8_makeAnew_16 B hf hW (lv_sub hl [1, 0] rfl) 
  · subst hz6
    replace hf := z_c1 hf
    exact t_X8_makeAnew_16 B hf hW (lv_sub hl [1, 0] rfl) 
set_option maxRecDepth 100000 in
def f_X8_beginVisit_21 (σ : zSt) (l0 : Nat) (l1 : Nat) (s0 : Int32) : Option (Int32 × zSt) :=
(if z_ob σ l0 2 then (if z_ob σ l1 6 then (zl (z_pI σ l1 8 (z_I σ l0 9)) (fun σ3 => (if z_ob σ3 l1 6 then (zl (z_pI σ3 l1 7 ((z_I σ3 l1 7) + (1 : Int32))) (fun σ6 => (if z_ob σ6 l0 2 then (zc (z_R σ6 l0 3) none (fun q9 => (if z_ob σ6 q9 0 then (zl (z_pI σ6 q9 0 ((z_I σ6 q9 0) + (1 : Int32))) (fun σ12 => (if z_ob σ12 l0 2 then (zc (z_R σ12 l0 3) none (fun q15 => (zc (z_R σ12 l0 3) none (fun q17 => (if z_ob σ12 q17 0 then (if z_ob σ12 q15 0 then (zl (z_pI σ12 q15 7 (if (z_I σ12 q17 7) < s0 then s0 else (z_I σ12 q17 7))) (fun σ21 => (some (s0, σ21)))) else none) else none))))) else none))) else none))) else none))) else none))) else none) else none)
set_option maxRecDepth 20000 in
set_option maxHeartbeats 4000000 in
theorem t_X8_beginVisit_21 (B : z_B p s m args meth c D cA bs RX8 cX8_beginVisit 3 (some .int)) {r : Int32} {σ' : zSt} {σ : zSt} {l0 : Nat} {l1 : Nat} {s0 : Int32} (hf : f_X8_beginVisit_21 σ l0 l1 s0 = some (r, σ')) {H : Heap} {locs : List Loc} {ls : Array Slot} (hW : z_Ok D cA bs s σ H locs) (hl : lv_has ls 3 [(0, .ref l0), (1, .ref l1)])  : W p l e (zrm 1 0 0 25) s m args below meth c H locs 0 0 (MQ below (z_Qi D cA bs r σ') args s 0 0 (fun q => bs ≤ q)) (F0 m 21 ls [.int s0]) := by
  have hx := B.1
  have hb := B.2.1
  have hown := B.2.2.2.1
  have hts := B.2.2.2.2.1
  unfold f_X8_beginVisit_21 at hf
  refine lv_istore_n (lv' := [(2, .int s0), (0, .ref l0), (1, .ref l1)]) hx hb dX8_beginVisit_21 rfl hl (by decide) rfl (fun ls hl => ?_)
  refine lv_aload_n hx hb dX8_beginVisit_22 rfl (lv_at hl 2 rfl) ?_
  refine lv_aload_n hx hb dX8_beginVisit_23 rfl (lv_at hl 1 rfl) ?_
  obtain ⟨hg1, hf⟩ := z_g hf
  refine z_getI B hW (Or.inl zf_X8_25) rfl hg1 dX8_beginVisit_24 ?_
  obtain ⟨hg2, hf⟩ := z_g hf
  obtain ⟨σ3, hs4, hf⟩ := z_l hf
  refine z_putI B hW zf_X8_94 hg2 rfl hs4 dX8_beginVisit_27 (fun H locs hW => ?_)
  refine lv_aload_n hx hb dX8_beginVisit_30 rfl (lv_at hl 2 rfl) ?_
  refine lv_dup hx hb dX8_beginVisit_31 rfl ?_
  obtain ⟨hg5, hf⟩ := z_g hf
  refine z_getI B hW (Or.inl zf_X8_97) rfl hg5 dX8_beginVisit_32 ?_
  refine lv_iconst (v := (1 : Int32)) hx hb dX8_beginVisit_35 (by decide) ?_
  refine lv_iadd hx hb dX8_beginVisit_36 ?_
  obtain ⟨σ6, hs7, hf⟩ := z_l hf
  refine z_putI B hW zf_X8_97 hg5 rfl hs7 dX8_beginVisit_37 (fun H locs hW => ?_)
  refine lv_aload_n hx hb dX8_beginVisit_40 rfl (lv_at hl 1 rfl) ?_
  obtain ⟨hg8, hf⟩ := z_g hf
  obtain ⟨q9, hv10, hf⟩ := z_nn hf
  refine z_getN B hW (Or.inr zf_X8_76) rfl hg8 hv10 dX8_beginVisit_41 ?_
  refine lv_dup hx hb dX8_beginVisit_44 rfl ?_
  obtain ⟨hg11, hf⟩ := z_g hf
  refine z_getI B hW (Or.inl zf_X8_100) rfl hg11 dX8_beginVisit_45 ?_
  refine lv_iconst (v := (1 : Int32)) hx hb dX8_beginVisit_48 (by decide) ?_
  refine lv_iadd hx hb dX8_beginVisit_49 ?_
  obtain ⟨σ12, hs13, hf⟩ := z_l hf
  refine z_putI B hW zf_X8_100 hg11 rfl hs13 dX8_beginVisit_50 (fun H locs hW => ?_)
  refine lv_aload_n hx hb dX8_beginVisit_53 rfl (lv_at hl 1 rfl) ?_
  obtain ⟨hg14, hf⟩ := z_g hf
  obtain ⟨q15, hv16, hf⟩ := z_nn hf
  refine z_getN B hW (Or.inr zf_X8_76) rfl hg14 hv16 dX8_beginVisit_54 ?_
  refine lv_aload_n hx hb dX8_beginVisit_57 rfl (lv_at hl 1 rfl) ?_
  obtain ⟨q17, hv18, hf⟩ := z_nn hf
  refine z_getN B hW (Or.inr zf_X8_76) rfl hg14 hv18 dX8_beginVisit_58 ?_
  obtain ⟨hg19, hf⟩ := z_g hf
  refine z_getI B hW (Or.inl zf_X8_101) rfl hg19 dX8_beginVisit_61 ?_
  refine lv_iload_n hx hb dX8_beginVisit_64 rfl (lv_at hl 0 rfl) ?_
  refine va_mmax hx hb (by rw [B.2.2.1]; exact hl.1.symm) hown (hts _ zmm_X8_104.1) (hts _ zmm_X8_104.2.1) (hts _ zmm_X8_104.2.2.1) (hts _ zmm_X8_104.2.2.2) (Nat.le_of_ble_eq_true rfl) (by simp [z_cat, z_k1, z_k2, z_k3, z_k4, z_k5, zrm]) (Nat.le_of_ble_eq_true rfl) (Nat.le_of_ble_eq_true rfl) dX8_beginVisit_65 ?_
  obtain ⟨hg20, hf⟩ := z_g hf
  obtain ⟨σ21, hs22, hf⟩ := z_l hf
  refine z_putI B hW zf_X8_101 hg20 rfl hs22 dX8_beginVisit_68 (fun H locs hW => ?_)
  refine lv_iload_n hx hb dX8_beginVisit_71 rfl (lv_at hl 0 rfl) ?_
  obtain ⟨rfl, rfl⟩ := z_e2 hf
  exact z_ri B hW dX8_beginVisit_72 (Nat.le_of_ble_eq_true rfl) (Nat.le_of_ble_eq_true rfl)
set_option maxRecDepth 100000 in
def f_X8_beginVisit (σ : zSt) (l0 : Nat) (l1 : Nat) : Option (Int32 × zSt) :=
(if z_ob σ l1 6 then (if (z_I σ l1 8) = (-1 : Int32) then
(f_X8_beginVisit_21 σ l0 l1 (0 : Int32))
else
(if z_ob σ l0 2 then (f_X8_beginVisit_21 σ l0 l1 ((z_I σ l0 9) - (z_I σ l1 8))) else none)) else none)
set_option maxRecDepth 20000 in
set_option maxHeartbeats 4000000 in
theorem K_X8_beginVisit {σ : zSt} {l0 : Nat} {l1 : Nat} {r : Int32} {σ' : zSt} (hf : f_X8_beginVisit σ l0 l1 = some (r, σ')) : z_M l D cA bs yX8_beginVisit cX8_beginVisit 3 (some .int) 1 25 0 0 [.ref l0, .ref l1] σ (z_Qi D cA bs r σ') := by
  refine z_met (own := RX8) (lv := [(0, .ref l0), (1, .ref l1)]) (by decide) rfl (Nat.le_of_ble_eq_true rfl) rfl (fun p e s m below meth c ls B hnm hW hl => ?_)
  have hx := B.1
  have hb := B.2.1
  have hown := B.2.2.2.1
  have hts := B.2.2.2.2.1
  unfold f_X8_beginVisit at hf
  refine lv_aload_n hx hb dX8_beginVisit_0 rfl (lv_at hl 1 rfl) ?_
  obtain ⟨hg1, hf⟩ := z_g hf
  refine z_getI B hW (Or.inl zf_X8_94) rfl hg1 dX8_beginVisit_1 ?_
  refine lv_iconst (v := (-1 : Int32)) hx hb dX8_beginVisit_4 (by decide) ?_
  refine lv_icmp_ne (tgt := 12) hx hb dX8_beginVisit_5 (by decide) (fun hc5 => ?_) (fun hc5 => ?_)
  · replace hf := z_in hc5 hf
    refine lv_aload_n hx hb dX8_beginVisit_12 rfl (lv_at hl 0 rfl) ?_
    obtain ⟨hg2, hf⟩ := z_g hf
    refine z_getI B hW (Or.inl zf_X8_25) rfl hg2 dX8_beginVisit_13 ?_
    refine lv_aload_n hx hb dX8_beginVisit_16 rfl (lv_at hl 1 rfl) ?_
    refine z_getI B hW (Or.inl zf_X8_94) rfl hg1 dX8_beginVisit_17 ?_
    refine lv_isub hx hb dX8_beginVisit_20 ?_
    exact t_X8_beginVisit_21 B hf hW hl 
  · replace hf := z_ip hc5 hf
    refine lv_iconst (v := (0 : Int32)) hx hb dX8_beginVisit_8 (by decide) ?_
    refine lv_goto (tgt := 21) hx hb dX8_beginVisit_9 (by decide) ?_
    exact t_X8_beginVisit_21 B hf hW hl 
set_option maxRecDepth 100000 in
def f_X8_sendFirst (σ : zSt) (l0 : Nat) (l1 : Nat) : Option (Int32 × zSt) :=
(if z_ob σ l0 2 then (zc (z_R σ l0 1) none (fun q2 => (if z_ob σ l1 6 then (if z_ob σ q2 3 then (zb (f_X3_value σ q2 (z_I σ l1 5) (0 : Int32)) (fun r7 => (zl (z_I σ l0 9) (fun x8 => (zb2 (f_X2_transmit σ l0 r7) (fun r11 σ12 => (if r11 = 0 then
(some ((0 : Int32), σ12))
else
(if z_ob σ12 l0 2 then (zc (z_R σ12 l0 3) none (fun q14 => (zc (z_R σ12 l0 1) none (fun q16 => (if z_ob σ12 q16 3 then (zb2 (f_X3_takeFirst σ12 q16 l1 x8) (fun r20 σ21 => (if z_ob σ21 q14 0 then (zb (f_X0_addSent σ21 q14 r7 r20) (fun σ24 => (some ((1 : Int32), σ24)))) else none))) else none))))) else none)))))))) else none) else none))) else none)
set_option maxRecDepth 20000 in
set_option maxHeartbeats 4000000 in
theorem K_X8_sendFirst {σ : zSt} {l0 : Nat} {l1 : Nat} {r : Int32} {σ' : zSt} (hf : f_X8_sendFirst σ l0 l1 = some (r, σ')) : z_M l D cA bs yX8_sendFirst cX8_sendFirst 4 (some .boolean) 2 48 0 0 [.ref l0, .ref l1] σ (z_Qi D cA bs r σ') := by
  refine z_met (own := RX8) (lv := [(0, .ref l0), (1, .ref l1)]) (by decide) rfl (Nat.le_of_ble_eq_true rfl) rfl (fun p e s m below meth c ls B hnm hW hl => ?_)
  have hx := B.1
  have hb := B.2.1
  have hown := B.2.2.2.1
  have hts := B.2.2.2.2.1
  unfold f_X8_sendFirst at hf
  refine lv_aload_n hx hb dX8_sendFirst_0 rfl (lv_at hl 0 rfl) ?_
  obtain ⟨hg1, hf⟩ := z_g hf
  obtain ⟨q2, hv3, hf⟩ := z_nn hf
  refine z_getN B hW (Or.inr zf_X8_110) rfl hg1 hv3 dX8_sendFirst_1 ?_
  refine lv_aload_n hx hb dX8_sendFirst_4 rfl (lv_at hl 1 rfl) ?_
  obtain ⟨hg4, hf⟩ := z_g hf
  refine z_getI B hW (Or.inl zf_X8_114) rfl hg4 dX8_sendFirst_5 ?_
  refine lv_iconst (v := (0 : Int32)) hx hb dX8_sendFirst_8 (by decide) ?_
  obtain ⟨hg5, hf⟩ := z_g hf
  obtain ⟨r7, hq6, hf⟩ := z_b hf
  refine z_ci hW (z_runV (As := [.int (z_I σ l1 5), .int (0 : Int32)]) (rest := []) B hW zv_X8_129 (K_X3_value hq6) hg5 rfl rfl rfl (Nat.le_of_ble_eq_true rfl) hl.1 ⟨Nat.le_of_ble_eq_true rfl, Nat.le_of_ble_eq_true rfl⟩ dX8_sendFirst_9 ⟨Nat.le_of_ble_eq_true rfl, Nat.le_of_ble_eq_true rfl⟩) (fun H locs hW => ?_)
  refine lv_istore_n (lv' := [(2, .int r7), (0, .ref l0), (1, .ref l1)]) hx hb dX8_sendFirst_12 rfl hl (by decide) rfl (fun ls hl => ?_)
  refine lv_aload_n hx hb dX8_sendFirst_13 rfl (lv_at hl 1 rfl) ?_
  refine z_getI B hW (Or.inl zf_X8_25) rfl hg1 dX8_sendFirst_14 ?_
  obtain ⟨x8, hx9, hf⟩ := z_l hf
  rw [hx9]
  refine lv_istore_n (lv' := [(3, .int x8), (2, .int r7), (0, .ref l0), (1, .ref l1)]) hx hb dX8_sendFirst_17 rfl hl (by decide) rfl (fun ls hl => ?_)
  refine lv_aload_n hx hb dX8_sendFirst_18 rfl (lv_at hl 2 rfl) ?_
  refine lv_iload_n hx hb dX8_sendFirst_19 rfl (lv_at hl 1 rfl) ?_
  obtain ⟨r11, σ12, hq10, hf⟩ := z_b2 hf
  refine z_ci hW (z_runV (As := [.int r7]) (rest := []) B hW zv_X8_132 (K_X2_transmit hq10) hg1 rfl rfl rfl (Nat.le_of_ble_eq_true rfl) hl.1 ⟨Nat.le_of_ble_eq_true rfl, Nat.le_of_ble_eq_true rfl⟩ dX8_sendFirst_20 ⟨Nat.le_of_ble_eq_true rfl, Nat.le_of_ble_eq_true rfl⟩) (fun H locs hW => ?_)
  refine lv_if_ne (tgt := 28) hx hb dX8_sendFirst_23 (by decide) (fun hc23 => ?_) (fun hc23 => ?_)
  · replace hf := z_in hc23 hf
    refine lv_aload_n hx hb dX8_sendFirst_28 rfl (lv_at hl 2 rfl) ?_
    obtain ⟨hg13, hf⟩ := z_g hf
    obtain ⟨q14, hv15, hf⟩ := z_nn hf
    refine z_getN B hW (Or.inr zf_X8_76) rfl hg13 hv15 dX8_sendFirst_29 ?_
    refine lv_iload_n hx hb dX8_sendFirst_32 rfl (lv_at hl 1 rfl) ?_
    refine lv_aload_n hx hb dX8_sendFirst_33 rfl (lv_at hl 2 rfl) ?_
    obtain ⟨q16, hv17, hf⟩ := z_nn hf
    refine z_getN B hW (Or.inr zf_X8_110) rfl hg13 hv17 dX8_sendFirst_34 ?_
    refine lv_aload_n hx hb dX8_sendFirst_37 rfl (lv_at hl 3 rfl) ?_
    refine lv_iload_n hx hb dX8_sendFirst_38 rfl (lv_at hl 0 rfl) ?_
    obtain ⟨hg18, hf⟩ := z_g hf
    obtain ⟨r20, σ21, hq19, hf⟩ := z_b2 hf
    refine z_ci hW (z_runV (As := [.ref l1, .int x8]) (rest := [.int r7, .ref q14]) B hW zv_X8_135 (K_X3_takeFirst hq19) hg18 rfl rfl rfl (Nat.le_of_ble_eq_true rfl) hl.1 ⟨Nat.le_of_ble_eq_true rfl, Nat.le_of_ble_eq_true rfl⟩ dX8_sendFirst_39 ⟨Nat.le_of_ble_eq_true rfl, Nat.le_of_ble_eq_true rfl⟩) (fun H locs hW => ?_)
    obtain ⟨hg22, hf⟩ := z_g hf
    obtain ⟨σ24, hq23, hf⟩ := z_b hf
    refine z_cv hW (z_runV (As := [.int r7, .int r20]) (rest := []) B hW zv_X8_139 (K_X0_addSent hq23) hg22 rfl rfl rfl (Nat.le_of_ble_eq_true rfl) hl.1 ⟨Nat.le_of_ble_eq_true rfl, Nat.le_of_ble_eq_true rfl⟩ dX8_sendFirst_42 ⟨Nat.le_of_ble_eq_true rfl, Nat.le_of_ble_eq_true rfl⟩) (fun H locs hW => ?_)
    refine lv_iconst (v := (1 : Int32)) hx hb dX8_sendFirst_45 (by decide) ?_
    obtain ⟨rfl, rfl⟩ := z_e2 hf
    exact z_rz (by decide) B hW dX8_sendFirst_46 (Nat.le_of_ble_eq_true rfl) (Nat.le_of_ble_eq_true rfl)
  · replace hf := z_ip hc23 hf
    refine lv_iconst (v := (0 : Int32)) hx hb dX8_sendFirst_26 (by decide) ?_
    obtain ⟨rfl, rfl⟩ := z_e2 hf
    exact z_rz (by decide) B hW dX8_sendFirst_27 (Nat.le_of_ble_eq_true rfl) (Nat.le_of_ble_eq_true rfl)
set_option maxRecDepth 100000 in
def f_X8_sendMessages_73 (σ : zSt) (l4 : Int32) : Option (Int32 × zSt) :=
(some (l4, σ))
set_option maxRecDepth 20000 in
set_option maxHeartbeats 4000000 in
theorem t_X8_sendMessages_73 (B : z_B p s m args meth c D cA bs RX8 cX8_sendMessages 6 (some .int)) {r : Int32} {σ' : zSt} {σ : zSt} {l4 : Int32} (hf : f_X8_sendMessages_73 σ l4 = some (r, σ')) {H : Heap} {locs : List Loc} {ls : Array Slot} (hW : z_Ok D cA bs s σ H locs) (hl : lv_has ls 6 [(4, .int l4)])  : W p l e (zrm 3 0 0 71) s m args below meth c H locs 0 0 (MQ below (z_Qi D cA bs r σ') args s 0 0 (fun q => bs ≤ q)) (F0 m 73 ls []) := by
  have hx := B.1
  have hb := B.2.1
  have hown := B.2.2.2.1
  have hts := B.2.2.2.2.1
  unfold f_X8_sendMessages_73 at hf
  refine lv_iload hx hb dX8_sendMessages_73 (lv_at hl 0 rfl) ?_
  obtain ⟨rfl, rfl⟩ := z_e2 hf
  exact z_ri B hW dX8_sendMessages_75 (Nat.le_of_ble_eq_true rfl) (Nat.le_of_ble_eq_true rfl)
set_option maxRecDepth 100000 in
def f_X8_sendMessages_53 (σ : zSt) (l0 : Nat) (l1 : Nat) (l2 : Int32) (l3 : Int32) (l4 : Int32) : Option ((zSt × Int32 × Int32) ⊕ (Int32 × zSt)) :=
(zb2 (f_X8_sendFirst σ l0 l1) (fun r2 σ3 => (if r2 = 0 then
(zex (f_X8_sendMessages_73 σ3 l4))
else
(some (.inl (σ3, (l4 + (1 : Int32)), (0 : Int32)))))))
set_option maxRecDepth 20000 in
set_option maxHeartbeats 4000000 in
theorem t_X8_sendMessages_53 (B : z_B p s m args meth c D cA bs RX8 cX8_sendMessages 6 (some .int)) {r : Int32} {σ' : zSt} {o1 : (zSt × Int32 × Int32) ⊕ (Int32 × zSt)} {σ : zSt} {l0 : Nat} {l1 : Nat} {l2 : Int32} {l3 : Int32} {l4 : Int32} (hf : f_X8_sendMessages_53 σ l0 l1 l2 l3 l4 = some o1) {H : Heap} {locs : List Loc} {ls : Array Slot} (hW : z_Ok D cA bs s σ H locs) (hl : lv_has ls 6 [(0, .ref l0), (1, .ref l1), (2, .int l2), (3, .int l3), (4, .int l4)]) (hk1 : ∀ (σ : zSt) (l4 : Int32) (l5 : Int32), o1 = .inl (σ, l4, l5) → ∀ {H : Heap} {locs : List Loc} {ls : Array Slot}, z_Ok D cA bs s σ H locs → lv_has ls 6 [(0, .ref l0), (1, .ref l1), (2, .int l2), (3, .int l3), (4, .int l4), (5, .int l5)] → W p l e (zrm 3 0 0 71) s m args below meth c H locs 0 0 (MQ below (z_Qi D cA bs r σ') args s 0 0 (fun q => bs ≤ q)) (F0 m 21 ls [])) (hr1 : ∀ x, o1 = .inr x → x = (r, σ')) : W p l e (zrm 3 0 0 71) s m args below meth c H locs 0 0 (MQ below (z_Qi D cA bs r σ') args s 0 0 (fun q => bs ≤ q)) (F0 m 53 ls []) := by
  have hx := B.1
  have hb := B.2.1
  have hown := B.2.2.2.1
  have hts := B.2.2.2.2.1
  unfold f_X8_sendMessages_53 at hf
  refine lv_aload_n hx hb dX8_sendMessages_53 rfl (lv_at hl 0 rfl) ?_
  refine lv_aload_n hx hb dX8_sendMessages_54 rfl (lv_at hl 1 rfl) ?_
  obtain ⟨r2, σ3, hq1, hf⟩ := z_b2 hf
  refine z_ci hW (z_runS (As := [.ref l0, .ref l1]) (rest := []) B hW zv_X8_126 (K_X8_sendFirst hq1) rfl rfl (Nat.le_of_ble_eq_true rfl) hl.1 ⟨Nat.le_of_ble_eq_true rfl, Nat.le_of_ble_eq_true rfl⟩ dX8_sendMessages_55 ⟨Nat.le_of_ble_eq_true rfl, Nat.le_of_ble_eq_true rfl⟩) (fun H locs hW => ?_)
  refine lv_if_ne (tgt := 64) hx hb dX8_sendMessages_58 (by decide) (fun hc58 => ?_) (fun hc58 => ?_)
  · replace hf := z_in hc58 hf
    refine lv_iconst (v := (0 : Int32)) hx hb dX8_sendMessages_64 (by decide) ?_
    refine lv_istore (lv' := [(5, .int (0 : Int32)), (0, .ref l0), (1, .ref l1), (2, .int l2), (3, .int l3), (4, .int l4)]) hx hb dX8_sendMessages_65 hl (by decide) rfl (fun ls hl => ?_)
    refine lv_iinc (v := (l4 + (1 : Int32))) (lv' := [(4, .int (l4 + (1 : Int32))), (5, .int (0 : Int32)), (0, .ref l0), (1, .ref l1), (2, .int l2), (3, .int l3)]) hx hb dX8_sendMessages_67 hl (k := 5) rfl rfl (by decide) rfl (fun ls hl => ?_)
    refine lv_goto (tgt := 21) hx hb dX8_sendMessages_70 (by decide) ?_
    exact hk1 _ _ _ (Option.some.inj hf).symm hW (lv_sub hl [2, 3, 4, 5, 0, 1] rfl)
  · replace hf := z_ip hc58 hf
    obtain ⟨w1, hf, ho4⟩ := z_x hf
    obtain rfl := hr1 _ ho4
    refine lv_goto (tgt := 73) hx hb dX8_sendMessages_61 (by decide) ?_
    exact t_X8_sendMessages_73 B hf hW (lv_sub hl [4] rfl) 
set_option maxRecDepth 100000 in
def b_X8_sendMessages_21 (l0 : Nat) (l1 : Nat) (l2 : Int32) (l3 : Int32) (σ : zSt) (l4 : Int32) (l5 : Int32) : Option ((zSt × Int32 × Int32) ⊕ (Int32 × zSt)) :=
(if (100 : Int32) ≤ l4 then
(zex (f_X8_sendMessages_73 σ l4))
else
(if z_ob σ l1 6 then (if (z_I σ l1 6) ≤ 0 then
(zex (f_X8_sendMessages_73 σ l4))
else
(if l5 = 0 then
(if z_ob σ l0 2 then (if ((z_I σ l0 9) - l3) < l2 then
(f_X8_sendMessages_53 σ l0 l1 l2 l3 l4)
else
(zex (f_X8_sendMessages_73 σ l4))) else none)
else
(f_X8_sendMessages_53 σ l0 l1 l2 l3 l4))) else none))
set_option maxRecDepth 100000 in
def f_X8_sendMessages_21 (l0 : Nat) (l1 : Nat) (l2 : Int32) (l3 : Int32) (σ : zSt) (l4 : Int32) (l5 : Int32) : Option (Int32 × zSt) := zloop (fun (t : zSt × Int32 × Int32) => b_X8_sendMessages_21 l0 l1 l2 l3 t.1 t.2.1 t.2.2) zN (σ, l4, l5)
set_option maxRecDepth 20000 in
set_option maxHeartbeats 4000000 in
theorem tb_X8_sendMessages_21 (B : z_B p s m args meth c D cA bs RX8 cX8_sendMessages 6 (some .int)) {r : Int32} {σ' : zSt} {o1 : (zSt × Int32 × Int32) ⊕ (Int32 × zSt)} {l0 : Nat} {l1 : Nat} {l2 : Int32} {l3 : Int32} {σ : zSt} {l4 : Int32} {l5 : Int32} (hf : b_X8_sendMessages_21 l0 l1 l2 l3 σ l4 l5 = some o1) {H : Heap} {locs : List Loc} {ls : Array Slot} (hW : z_Ok D cA bs s σ H locs) (hl : lv_has ls 6 [(0, .ref l0), (1, .ref l1), (2, .int l2), (3, .int l3), (4, .int l4), (5, .int l5)]) (hk1 : ∀ (σ : zSt) (l4 : Int32) (l5 : Int32), o1 = .inl (σ, l4, l5) → ∀ {H : Heap} {locs : List Loc} {ls : Array Slot}, z_Ok D cA bs s σ H locs → lv_has ls 6 [(0, .ref l0), (1, .ref l1), (2, .int l2), (3, .int l3), (4, .int l4), (5, .int l5)] → W p l e (zrm 3 0 0 71) s m args below meth c H locs 0 0 (MQ below (z_Qi D cA bs r σ') args s 0 0 (fun q => bs ≤ q)) (F0 m 21 ls [])) (hr1 : ∀ x, o1 = .inr x → x = (r, σ')) : W p l e (zrm 3 0 0 71) s m args below meth c H locs 0 0 (MQ below (z_Qi D cA bs r σ') args s 0 0 (fun q => bs ≤ q)) (F0 m 21 ls []) := by
  have hx := B.1
  have hb := B.2.1
  have hown := B.2.2.2.1
  have hts := B.2.2.2.2.1
  unfold b_X8_sendMessages_21 at hf
  refine lv_iload hx hb dX8_sendMessages_21 (lv_at hl 4 rfl) ?_
  refine lv_bipush (v := (100 : Int32)) hx hb dX8_sendMessages_23 (by decide) ?_
  refine lv_icmp_ge (tgt := 73) hx hb dX8_sendMessages_25 (by decide) (fun hc25 => ?_) (fun hc25 => ?_)
  · replace hf := z_ip hc25 hf
    obtain ⟨w1, hf, ho1⟩ := z_x hf
    obtain rfl := hr1 _ ho1
    exact t_X8_sendMessages_73 B hf hW (lv_sub hl [4] rfl) 
  · replace hf := z_in hc25 hf
    refine lv_aload_n hx hb dX8_sendMessages_28 rfl (lv_at hl 1 rfl) ?_
    obtain ⟨hg2, hf⟩ := z_g hf
    refine z_getI B hW (Or.inl zf_X8_123) rfl hg2 dX8_sendMessages_29 ?_
    refine lv_if_le (tgt := 73) hx hb dX8_sendMessages_32 (by decide) (fun hc32 => ?_) (fun hc32 => ?_)
    · replace hf := z_ip hc32 hf
      obtain ⟨w1, hf, ho3⟩ := z_x hf
      obtain rfl := hr1 _ ho3
      exact t_X8_sendMessages_73 B hf hW (lv_sub hl [4] rfl) 
    · replace hf := z_in hc32 hf
      refine lv_iload hx hb dX8_sendMessages_35 (lv_at hl 5 rfl) ?_
      refine lv_if_ne (tgt := 53) hx hb dX8_sendMessages_37 (by decide) (fun hc37 => ?_) (fun hc37 => ?_)
      · replace hf := z_in hc37 hf
        exact t_X8_sendMessages_53 B hf hW (lv_sub hl [0, 1, 2, 3, 4] rfl) hk1 hr1
      · replace hf := z_ip hc37 hf
        refine lv_aload_n hx hb dX8_sendMessages_40 rfl (lv_at hl 0 rfl) ?_
        obtain ⟨hg4, hf⟩ := z_g hf
        refine z_getI B hW (Or.inl zf_X8_25) rfl hg4 dX8_sendMessages_41 ?_
        refine lv_iload_n hx hb dX8_sendMessages_44 rfl (lv_at hl 3 rfl) ?_
        refine lv_isub hx hb dX8_sendMessages_45 ?_
        refine lv_iload_n hx hb dX8_sendMessages_46 rfl (lv_at hl 2 rfl) ?_
        refine lv_icmp_lt (tgt := 53) hx hb dX8_sendMessages_47 (by decide) (fun hc47 => ?_) (fun hc47 => ?_)
        · replace hf := z_ip hc47 hf
          exact t_X8_sendMessages_53 B hf hW (lv_sub hl [0, 1, 2, 3, 4] rfl) hk1 hr1
        · replace hf := z_in hc47 hf
          obtain ⟨w1, hf, ho5⟩ := z_x hf
          obtain rfl := hr1 _ ho5
          refine lv_goto (tgt := 73) hx hb dX8_sendMessages_50 (by decide) ?_
          exact t_X8_sendMessages_73 B hf hW (lv_sub hl [4] rfl) 
set_option maxRecDepth 20000 in
set_option maxHeartbeats 4000000 in
theorem t_X8_sendMessages_21 (B : z_B p s m args meth c D cA bs RX8 cX8_sendMessages 6 (some .int)) {r : Int32} {σ' : zSt} {l0 : Nat} {l1 : Nat} {l2 : Int32} {l3 : Int32}  : ∀ (n : Nat) {σ : zSt} {l4 : Int32} {l5 : Int32}, zloop (fun (t : zSt × Int32 × Int32) => b_X8_sendMessages_21 l0 l1 l2 l3 t.1 t.2.1 t.2.2) n (σ, l4, l5) = some (r, σ') → ∀ {H : Heap} {locs : List Loc} {ls : Array Slot}, z_Ok D cA bs s σ H locs → lv_has ls 6 [(0, .ref l0), (1, .ref l1), (2, .int l2), (3, .int l3), (4, .int l4), (5, .int l5)] → W p l e (zrm 3 0 0 71) s m args below meth c H locs 0 0 (MQ below (z_Qi D cA bs r σ') args s 0 0 (fun q => bs ≤ q)) (F0 m 21 ls []) := by
  intro n
  induction n with
  | zero => intro σ l4 l5 hf; cases hf
  | succ n ih =>
    intro σ l4 l5 hf H locs ls hW hl
    obtain ⟨o1, hb1, hf⟩ := z_lp hf
    refine tb_X8_sendMessages_21 B hb1 hW hl  (fun σ l4 l5 he H locs ls hW hl => ?_) (fun x he => ?_)
    · rcases hf with ⟨t, ht, hf⟩ | hf
      · rw [he] at ht
        cases ht
        exact ih hf hW hl
      · rw [he] at hf
        cases hf
    · rcases hf with ⟨t, ht, hf⟩ | hf
      · rw [he] at ht
        cases ht
      · rw [he] at hf
        exact Sum.inr.inj hf
set_option maxRecDepth 100000 in
def f_X8_sendMessages (σ : zSt) (l0 : Nat) (l1 : Nat) (l2 : Int32) : Option (Int32 × zSt) :=
(if z_ob σ l0 2 then (zl (z_I σ l0 9) (fun x2 => (zc (z_R σ l0 1) none (fun q4 => (if z_ob σ l1 6 then (if z_ob σ q4 3 then (zb (f_X3_isUrgent σ q4 (z_I σ l1 5)) (fun r9 => (f_X8_sendMessages_21 l0 l1 l2 x2 σ (0 : Int32) r9))) else none) else none))))) else none)
set_option maxRecDepth 20000 in
set_option maxHeartbeats 4000000 in
theorem K_X8_sendMessages {σ : zSt} {l0 : Nat} {l1 : Nat} {l2 : Int32} {r : Int32} {σ' : zSt} (hf : f_X8_sendMessages σ l0 l1 l2 = some (r, σ')) : z_M l D cA bs yX8_sendMessages cX8_sendMessages 6 (some .int) 3 71 0 0 [.ref l0, .ref l1, .int l2] σ (z_Qi D cA bs r σ') := by
  refine z_met (own := RX8) (lv := [(0, .ref l0), (1, .ref l1), (2, .int l2)]) (by decide) rfl (Nat.le_of_ble_eq_true rfl) rfl (fun p e s m below meth c ls B hnm hW hl => ?_)
  have hx := B.1
  have hb := B.2.1
  have hown := B.2.2.2.1
  have hts := B.2.2.2.2.1
  unfold f_X8_sendMessages at hf
  refine lv_aload_n hx hb dX8_sendMessages_0 rfl (lv_at hl 0 rfl) ?_
  obtain ⟨hg1, hf⟩ := z_g hf
  refine z_getI B hW (Or.inl zf_X8_25) rfl hg1 dX8_sendMessages_1 ?_
  obtain ⟨x2, hx3, hf⟩ := z_l hf
  rw [hx3]
  refine lv_istore_n (lv' := [(3, .int x2), (0, .ref l0), (1, .ref l1), (2, .int l2)]) hx hb dX8_sendMessages_4 rfl hl (by decide) rfl (fun ls hl => ?_)
  refine lv_iconst (v := (0 : Int32)) hx hb dX8_sendMessages_5 (by decide) ?_
  refine lv_istore (lv' := [(4, .int (0 : Int32)), (3, .int x2), (0, .ref l0), (1, .ref l1), (2, .int l2)]) hx hb dX8_sendMessages_6 hl (by decide) rfl (fun ls hl => ?_)
  refine lv_aload_n hx hb dX8_sendMessages_8 rfl (lv_at hl 2 rfl) ?_
  obtain ⟨q4, hv5, hf⟩ := z_nn hf
  refine z_getN B hW (Or.inr zf_X8_110) rfl hg1 hv5 dX8_sendMessages_9 ?_
  refine lv_aload_n hx hb dX8_sendMessages_12 rfl (lv_at hl 3 rfl) ?_
  obtain ⟨hg6, hf⟩ := z_g hf
  refine z_getI B hW (Or.inl zf_X8_114) rfl hg6 dX8_sendMessages_13 ?_
  obtain ⟨hg7, hf⟩ := z_g hf
  obtain ⟨r9, hq8, hf⟩ := z_b hf
  refine z_ci hW (z_runV (As := [.int (z_I σ l1 5)]) (rest := []) B hW zv_X8_117 (K_X3_isUrgent hq8) hg7 rfl rfl rfl (Nat.le_of_ble_eq_true rfl) hl.1 ⟨Nat.le_of_ble_eq_true rfl, Nat.le_of_ble_eq_true rfl⟩ dX8_sendMessages_16 ⟨Nat.le_of_ble_eq_true rfl, Nat.le_of_ble_eq_true rfl⟩) (fun H locs hW => ?_)
  refine lv_istore (lv' := [(5, .int r9), (4, .int (0 : Int32)), (3, .int x2), (0, .ref l0), (1, .ref l1), (2, .int l2)]) hx hb dX8_sendMessages_19 hl (by decide) rfl (fun ls hl => ?_)
  unfold f_X8_sendMessages_21 at hf
  exact t_X8_sendMessages_21 B  zN hf hW (lv_sub hl [3, 4, 5, 2, 1, 0] rfl)
set_option maxRecDepth 100000 in
def f_X9_addressBehind (σ : zSt) (l0 : Int32) : Option (Int32) :=
(some ((l0 + (1 : Int32)) &&& (31 : Int32)))
set_option maxRecDepth 20000 in
set_option maxHeartbeats 4000000 in
theorem K_X9_addressBehind {σ : zSt} {l0 : Int32} {r : Int32} (hf : f_X9_addressBehind σ l0 = some r) : z_M l D cA bs yX9_addressBehind cX9_addressBehind 1 (some .int) 0 0 0 0 [.int l0] σ (z_Qi D cA bs r σ) := by
  refine z_met (own := RX9) (lv := [(0, .int l0)]) (by decide) rfl (Nat.le_of_ble_eq_true rfl) rfl (fun p e s m below meth c ls B hnm hW hl => ?_)
  have hx := B.1
  have hb := B.2.1
  have hown := B.2.2.2.1
  have hts := B.2.2.2.2.1
  unfold f_X9_addressBehind at hf
  refine lv_iload_n hx hb dX9_addressBehind_0 rfl (lv_at hl 0 rfl) ?_
  refine lv_iconst (v := (1 : Int32)) hx hb dX9_addressBehind_1 (by decide) ?_
  refine lv_iadd hx hb dX9_addressBehind_2 ?_
  refine lv_bipush (v := (31 : Int32)) hx hb dX9_addressBehind_3 (by decide) ?_
  refine lv_iand hx hb dX9_addressBehind_5 ?_
  obtain rfl := z_e1 hf
  exact z_ri B hW dX9_addressBehind_6 (Nat.le_of_ble_eq_true rfl) (Nat.le_of_ble_eq_true rfl)
end GEN
