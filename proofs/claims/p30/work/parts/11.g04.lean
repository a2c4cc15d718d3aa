section GEN
variable {p : Program} {l : Launch} {e : Env} {s : State} {m : MethodId} {args : Array Value} {below : List Frame} {meth : Method} {c : Code} {D : va_G} {cA : Nat → ClassId} {bs : Nat}
set_option maxRecDepth 100000 in
def f_X2_copyFrom (σ : zSt) (l0 : Nat) (l1 : Nat) : Option (zSt) :=
(if z_ob σ l0 2 then (zb (f_X2_takeTimes σ l0 l1) (fun σ3 => (if z_ob σ3 l1 2 then (if z_ob σ3 l0 2 then (zl (z_pI σ3 l0 9 (z_I σ3 l1 9)) (fun σ6 => (if z_ob σ6 l1 2 then (if z_ob σ6 l0 2 then (zl (z_pI σ6 l0 10 (z_I σ6 l1 10)) (fun σ10 => (if z_ob σ10 l0 2 then (zc (z_R σ10 l0 1) none (fun q13 => (if z_ob σ10 l1 2 then (zc (z_R σ10 l1 1) none (fun q16 => (if z_ob σ10 q13 3 then (zb (f_X3_copyFrom σ10 q13 q16) (fun σ20 => (if z_ob σ20 l0 2 then (zc (z_R σ20 l0 2) none (fun q22 => (if z_ob σ20 l1 2 then (zc (z_R σ20 l1 2) none (fun q25 => (if z_ob σ20 q22 4 then (zb (f_X4_copyFrom σ20 q22 q25) (fun σ29 => (if z_ob σ29 l0 2 then (zc (z_R σ29 l0 3) none (fun q31 => (if z_ob σ29 l1 2 then (zc (z_R σ29 l1 3) none (fun q34 => (if z_ob σ29 q31 0 then (zb (f_X0_copyFrom σ29 q31 q34) (fun σ38 => (if z_ob σ38 l0 2 then (zc (z_R σ38 l0 4) none (fun q40 => (if z_ob σ38 l1 2 then (zc (z_R σ38 l1 4) none (fun q43 => (zb (f_X2_logLength σ38 l1) (fun r46 => (if z_ob σ38 q40 7 then (zb (f_X7_copyFrom σ38 q40 q43 r46) (fun σ49 => (if z_ob σ49 l0 2 then (zb (f_X2_copyStations σ49 l0 l1) (fun σ52 => (some σ52))) else none))) else none))))) else none))) else none))) else none))) else none))) else none))) else none))) else none))) else none))) else none))) else none))) else none))) else none) else none))) else none) else none))) else none)
set_option maxRecDepth 20000 in
set_option maxHeartbeats 4000000 in
theorem K_X2_copyFrom {σ : zSt} {l0 : Nat} {l1 : Nat}  {σ' : zSt} (hf : f_X2_copyFrom σ l0 l1 = some σ') : z_M l D cA bs yX2_copyFrom cX2_copyFrom 2 none 3 105 0 0 [.ref l0, .ref l1] σ (z_Qv D cA bs σ') := by
  refine z_met (own := RX2) (lv := [(0, .ref l0), (1, .ref l1)]) (by decide) rfl (Nat.le_of_ble_eq_true rfl) rfl (fun p e s m below meth c ls B hnm hW hl => ?_)
  have hx := B.1
  have hb := B.2.1
  have hown := B.2.2.2.1
  have hts := B.2.2.2.2.1
  unfold f_X2_copyFrom at hf
  refine lv_aload_n hx hb dX2_copyFrom_0 rfl (lv_at hl 0 rfl) ?_
  refine lv_aload_n hx hb dX2_copyFrom_1 rfl (lv_at hl 1 rfl) ?_
  obtain ⟨hg1, hf⟩ := z_g hf
  obtain ⟨σ3, hq2, hf⟩ := z_b hf
  refine z_cv hW (z_runV (As := [.ref l1]) (rest := []) B hW zv_X2_72 (K_X2_takeTimes hq2) hg1 rfl rfl rfl (Nat.le_of_ble_eq_true rfl) hl.1 ⟨Nat.le_of_ble_eq_true rfl, Nat.le_of_ble_eq_true rfl⟩ dX2_copyFrom_2 ⟨Nat.le_of_ble_eq_true rfl, Nat.le_of_ble_eq_true rfl⟩) (fun H locs hW => ?_)
  refine lv_aload_n hx hb dX2_copyFrom_5 rfl (lv_at hl 0 rfl) ?_
  refine lv_aload_n hx hb dX2_copyFrom_6 rfl (lv_at hl 1 rfl) ?_
  obtain ⟨hg4, hf⟩ := z_g hf
  refine z_getI B hW (Or.inl zf_X2_69) rfl hg4 dX2_copyFrom_7 ?_
  obtain ⟨hg5, hf⟩ := z_g hf
  obtain ⟨σ6, hs7, hf⟩ := z_l hf
  refine z_putI B hW zf_X2_69 hg5 rfl hs7 dX2_copyFrom_10 (fun H locs hW => ?_)
  refine lv_aload_n hx hb dX2_copyFrom_13 rfl (lv_at hl 0 rfl) ?_
  refine lv_aload_n hx hb dX2_copyFrom_14 rfl (lv_at hl 1 rfl) ?_
  obtain ⟨hg8, hf⟩ := z_g hf
  refine z_getI B hW (Or.inl zf_X2_57) rfl hg8 dX2_copyFrom_15 ?_
  obtain ⟨hg9, hf⟩ := z_g hf
  obtain ⟨σ10, hs11, hf⟩ := z_l hf
  refine z_putI B hW zf_X2_57 hg9 rfl hs11 dX2_copyFrom_18 (fun H locs hW => ?_)
  refine lv_aload_n hx hb dX2_copyFrom_21 rfl (lv_at hl 0 rfl) ?_
  obtain ⟨hg12, hf⟩ := z_g hf
  obtain ⟨q13, hv14, hf⟩ := z_nn hf
  refine z_getN B hW (Or.inr zf_X2_20) rfl hg12 hv14 dX2_copyFrom_22 ?_
  refine lv_aload_n hx hb dX2_copyFrom_25 rfl (lv_at hl 1 rfl) ?_
  obtain ⟨hg15, hf⟩ := z_g hf
  obtain ⟨q16, hv17, hf⟩ := z_nn hf
  refine z_getN B hW (Or.inr zf_X2_20) rfl hg15 hv17 dX2_copyFrom_26 ?_
  obtain ⟨hg18, hf⟩ := z_g hf
  obtain ⟨σ20, hq19, hf⟩ := z_b hf
  refine z_cv hW (z_runV (As := [.ref q16]) (rest := []) B hW zv_X2_76 (K_X3_copyFrom hq19) hg18 rfl rfl rfl (Nat.le_of_ble_eq_true rfl) hl.1 ⟨Nat.le_of_ble_eq_true rfl, Nat.le_of_ble_eq_true rfl⟩ dX2_copyFrom_29 ⟨Nat.le_of_ble_eq_true rfl, Nat.le_of_ble_eq_true rfl⟩) (fun H locs hW => ?_)
  refine lv_aload_n hx hb dX2_copyFrom_32 rfl (lv_at hl 0 rfl) ?_
  obtain ⟨hg21, hf⟩ := z_g hf
  obtain ⟨q22, hv23, hf⟩ := z_nn hf
  refine z_getN B hW (Or.inr zf_X2_27) rfl hg21 hv23 dX2_copyFrom_33 ?_
  refine lv_aload_n hx hb dX2_copyFrom_36 rfl (lv_at hl 1 rfl) ?_
  obtain ⟨hg24, hf⟩ := z_g hf
  obtain ⟨q25, hv26, hf⟩ := z_nn hf
  refine z_getN B hW (Or.inr zf_X2_27) rfl hg24 hv26 dX2_copyFrom_37 ?_
  obtain ⟨hg27, hf⟩ := z_g hf
  obtain ⟨σ29, hq28, hf⟩ := z_b hf
  refine z_cv hW (z_runV (As := [.ref q25]) (rest := []) B hW zv_X2_80 (K_X4_copyFrom hq28) hg27 rfl rfl rfl (Nat.le_of_ble_eq_true rfl) hl.1 ⟨Nat.le_of_ble_eq_true rfl, Nat.le_of_ble_eq_true rfl⟩ dX2_copyFrom_40 ⟨Nat.le_of_ble_eq_true rfl, Nat.le_of_ble_eq_true rfl⟩) (fun H locs hW => ?_)
  refine lv_aload_n hx hb dX2_copyFrom_43 rfl (lv_at hl 0 rfl) ?_
  obtain ⟨hg30, hf⟩ := z_g hf
  obtain ⟨q31, hv32, hf⟩ := z_nn hf
  refine z_getN B hW (Or.inr zf_X2_34) rfl hg30 hv32 dX2_copyFrom_44 ?_
  refine lv_aload_n hx hb dX2_copyFrom_47 rfl (lv_at hl 1 rfl) ?_
  obtain ⟨hg33, hf⟩ := z_g hf
  obtain ⟨q34, hv35, hf⟩ := z_nn hf
  refine z_getN B hW (Or.inr zf_X2_34) rfl hg33 hv35 dX2_copyFrom_48 ?_
  obtain ⟨hg36, hf⟩ := z_g hf
  obtain ⟨σ38, hq37, hf⟩ := z_b hf
  refine z_cv hW (z_runV (As := [.ref q34]) (rest := []) B hW zv_X2_83 (K_X0_copyFrom hq37) hg36 rfl rfl rfl (Nat.le_of_ble_eq_true rfl) hl.1 ⟨Nat.le_of_ble_eq_true rfl, Nat.le_of_ble_eq_true rfl⟩ dX2_copyFrom_51 ⟨Nat.le_of_ble_eq_true rfl, Nat.le_of_ble_eq_true rfl⟩) (fun H locs hW => ?_)
  refine lv_aload_n hx hb dX2_copyFrom_54 rfl (lv_at hl 0 rfl) ?_
  obtain ⟨hg39, hf⟩ := z_g hf
  obtain ⟨q40, hv41, hf⟩ := z_nn hf
  refine z_getN B hW (Or.inr zf_X2_43) rfl hg39 hv41 dX2_copyFrom_55 ?_
  refine lv_aload_n hx hb dX2_copyFrom_58 rfl (lv_at hl 1 rfl) ?_
  obtain ⟨hg42, hf⟩ := z_g hf
  obtain ⟨q43, hv44, hf⟩ := z_nn hf
  refine z_getN B hW (Or.inr zf_X2_43) rfl hg42 hv44 dX2_copyFrom_59 ?_
  refine lv_aload_n hx hb dX2_copyFrom_62 rfl (lv_at hl 1 rfl) ?_
  obtain ⟨r46, hq45, hf⟩ := z_b hf
  refine z_ci hW (z_runV (As := []) (rest := [.ref q43, .ref q40]) B hW zv_X2_86 (K_X2_logLength hq45) hg42 rfl rfl rfl (Nat.le_of_ble_eq_true rfl) hl.1 ⟨Nat.le_of_ble_eq_true rfl, Nat.le_of_ble_eq_true rfl⟩ dX2_copyFrom_63 ⟨Nat.le_of_ble_eq_true rfl, Nat.le_of_ble_eq_true rfl⟩) (fun H locs hW => ?_)
  obtain ⟨hg47, hf⟩ := z_g hf
  obtain ⟨σ49, hq48, hf⟩ := z_b hf
  refine z_cv hW (z_runV (As := [.ref q43, .int r46]) (rest := []) B hW zv_X2_90 (K_X7_copyFrom hq48) hg47 rfl rfl rfl (Nat.le_of_ble_eq_true rfl) hl.1 ⟨Nat.le_of_ble_eq_true rfl, Nat.le_of_ble_eq_true rfl⟩ dX2_copyFrom_66 ⟨Nat.le_of_ble_eq_true rfl, Nat.le_of_ble_eq_true rfl⟩) (fun H locs hW => ?_)
  refine lv_aload_n hx hb dX2_copyFrom_69 rfl (lv_at hl 0 rfl) ?_
  refine lv_aload_n hx hb dX2_copyFrom_70 rfl (lv_at hl 1 rfl) ?_
  obtain ⟨hg50, hf⟩ := z_g hf
  obtain ⟨σ52, hq51, hf⟩ := z_b hf
  refine z_cv hW (z_runV (As := [.ref l1]) (rest := []) B hW zv_X2_93 (K_X2_copyStations hq51) hg50 rfl rfl rfl (Nat.le_of_ble_eq_true rfl) hl.1 ⟨Nat.le_of_ble_eq_true rfl, Nat.le_of_ble_eq_true rfl⟩ dX2_copyFrom_71 ⟨Nat.le_of_ble_eq_true rfl, Nat.le_of_ble_eq_true rfl⟩) (fun H locs hW => ?_)
  obtain rfl := z_e1 hf
  exact z_rv B hW dX2_copyFrom_74 (Nat.le_of_ble_eq_true rfl) (Nat.le_of_ble_eq_true rfl)
set_option maxRecDepth 100000 in
def f_X1_save_44 (σ : zSt) : Option (zSt) :=
(some σ)
set_option maxRecDepth 20000 in
set_option maxHeartbeats 4000000 in
theorem t_X1_save_44 (B : z_B p s m args meth c D cA bs RX1 cX1_save 3 none)  {σ' : zSt} {σ : zSt} (hf : f_X1_save_44 σ = some σ') {H : Heap} {locs : List Loc} {ls : Array Slot} (hW : z_Ok D cA bs s σ H locs) (hl : lv_has ls 3 [])  : W p l e (zrm 4 0 0 126) s m args below meth c H locs 0 0 (MQ below (z_Qv D cA bs σ') args s 0 0 (fun q => bs ≤ q)) (F0 m 44 ls []) := by
  have hx := B.1
  have hb := B.2.1
  have hown := B.2.2.2.1
  have hts := B.2.2.2.2.1
  unfold f_X1_save_44 at hf
  obtain rfl := z_e1 hf
  exact z_rv B hW dX1_save_44 (Nat.le_of_ble_eq_true rfl) (Nat.le_of_ble_eq_true rfl)
set_option maxRecDepth 100000 in
def f_X1_save_16 (σ : zSt) (l0 : Nat) (l1 : Nat) : Option (zSt) :=
(if z_ob σ l0 1 then (zb (f_X1_stateAt σ l0 (z_I σ l0 1)) (fun r3 => (zc r3
(f_X1_save_44 σ)
(fun a4 => (if z_ob σ a4 2 then (zb (f_X2_copyFrom σ a4 l1) (fun σ7 => (if z_ob σ7 l0 1 then (zl (z_pI σ7 l0 1 ((z_I σ7 l0 1) + (1 : Int32))) (fun σ9 => (f_X1_save_44 σ9))) else none))) else none))))) else none)
set_option maxRecDepth 20000 in
set_option maxHeartbeats 4000000 in
theorem t_X1_save_16 (B : z_B p s m args meth c D cA bs RX1 cX1_save 3 none)  {σ' : zSt} {σ : zSt} {l0 : Nat} {l1 : Nat} (hf : f_X1_save_16 σ l0 l1 = some σ') {H : Heap} {locs : List Loc} {ls : Array Slot} (hW : z_Ok D cA bs s σ H locs) (hl : lv_has ls 3 [(0, .ref l0), (1, .ref l1)])  : W p l e (zrm 4 0 0 126) s m args below meth c H locs 0 0 (MQ below (z_Qv D cA bs σ') args s 0 0 (fun q => bs ≤ q)) (F0 m 16 ls []) := by
  have hx := B.1
  have hb := B.2.1
  have hown := B.2.2.2.1
  have hts := B.2.2.2.2.1
  unfold f_X1_save_16 at hf
  refine lv_aload_n hx hb dX1_save_16 rfl (lv_at hl 0 rfl) ?_
  refine lv_aload_n hx hb dX1_save_17 rfl (lv_at hl 0 rfl) ?_
  obtain ⟨hg1, hf⟩ := z_g hf
  refine z_getI B hW (Or.inl zf_X1_18) rfl hg1 dX1_save_18 ?_
  obtain ⟨r3, hq2, hf⟩ := z_b hf
  refine z_cq hW (z_runV (As := [.int (z_I σ l0 1)]) (rest := []) B hW zv_X1_25 (K_X1_stateAt hq2) hg1 rfl rfl rfl (Nat.le_of_ble_eq_true rfl) hl.1 ⟨Nat.le_of_ble_eq_true rfl, Nat.le_of_ble_eq_true rfl⟩ dX1_save_21 ⟨Nat.le_of_ble_eq_true rfl, Nat.le_of_ble_eq_true rfl⟩) (fun H locs hW => ?_)
  refine z_astore_n (lv' := [(2, va_rf r3), (0, .ref l0), (1, .ref l1)]) hx hb dX1_save_24 rfl hl (by decide) rfl (fun ls hl => ?_)
  refine z_aload_n hx hb dX1_save_25 rfl (lv_at hl 0 rfl) ?_
  refine z_ifnull (tgt := 44) hx hb dX1_save_26 (by decide) (fun hz11 => ?_) (fun a4 hz11 => ?_)
  · subst hz11
    replace hf := z_c0 hf
    exact t_X1_save_44 B hf hW (lv_sub hl [] rfl) 
  · subst hz11
    replace hf := z_c1 hf
    refine lv_aload_n hx hb dX1_save_29 rfl (lv_at hl 0 rfl) ?_
    refine lv_aload_n hx hb dX1_save_30 rfl (lv_at hl 2 rfl) ?_
    obtain ⟨hg5, hf⟩ := z_g hf
    obtain ⟨σ7, hq6, hf⟩ := z_b hf
    refine z_cv hW (z_runV (As := [.ref l1]) (rest := []) B hW zv_X1_29 (K_X2_copyFrom hq6) hg5 rfl rfl rfl (Nat.le_of_ble_eq_true rfl) hl.1 ⟨Nat.le_of_ble_eq_true rfl, Nat.le_of_ble_eq_true rfl⟩ dX1_save_31 ⟨Nat.le_of_ble_eq_true rfl, Nat.le_of_ble_eq_true rfl⟩) (fun H locs hW => ?_)
    refine lv_aload_n hx hb dX1_save_34 rfl (lv_at hl 1 rfl) ?_
    refine lv_dup hx hb dX1_save_35 rfl ?_
    obtain ⟨hg8, hf⟩ := z_g hf
    refine z_getI B hW (Or.inl zf_X1_18) rfl hg8 dX1_save_36 ?_
    refine lv_iconst (v := (1 : Int32)) hx hb dX1_save_39 (by decide) ?_
    refine lv_iadd hx hb dX1_save_40 ?_
    obtain ⟨σ9, hs10, hf⟩ := z_l hf
    refine z_putI B hW zf_X1_18 hg8 rfl hs10 dX1_save_41 (fun H locs hW => ?_)
    exact t_X1_save_44 B hf hW (lv_sub hl [] rfl) 
set_option maxRecDepth 100000 in
def f_X1_save (σ : zSt) (l0 : Nat) (l1 : Nat) : Option (zSt) :=
(if z_ob σ l0 1 then (zc (z_R σ l0 0) none (fun q2 => (if z_ar σ q2 4 then (if (z_I σ l0 1) < (Int32.ofNat (z_ln σ q2)) then
(f_X1_save_16 σ l0 l1)
else
(zb (f_X1_dropOldest σ l0) (fun σ6 => (f_X1_save_16 σ6 l0 l1)))) else none))) else none)
set_option maxRecDepth 20000 in
set_option maxHeartbeats 4000000 in
theorem K_X1_save {σ : zSt} {l0 : Nat} {l1 : Nat}  {σ' : zSt} (hf : f_X1_save σ l0 l1 = some σ') : z_M l D cA bs yX1_save cX1_save 3 none 4 126 0 0 [.ref l0, .ref l1] σ (z_Qv D cA bs σ') := by
  refine z_met (own := RX1) (lv := [(0, .ref l0), (1, .ref l1)]) (by decide) rfl (Nat.le_of_ble_eq_true rfl) rfl (fun p e s m below meth c ls B hnm hW hl => ?_)
  have hx := B.1
  have hb := B.2.1
  have hown := B.2.2.2.1
  have hts := B.2.2.2.2.1
  unfold f_X1_save at hf
  refine lv_aload_n hx hb dX1_save_0 rfl (lv_at hl 0 rfl) ?_
  obtain ⟨hg1, hf⟩ := z_g hf
  refine z_getI B hW (Or.inl zf_X1_18) rfl hg1 dX1_save_1 ?_
  refine lv_aload_n hx hb dX1_save_4 rfl (lv_at hl 0 rfl) ?_
  obtain ⟨q2, hv3, hf⟩ := z_nn hf
  refine z_getN B hW (Or.inr zf_X1_11) rfl hg1 hv3 dX1_save_5 ?_
  obtain ⟨hg4, hf⟩ := z_g hf
  refine z_alen (t := 4) (by decide) B hW hg4 dX1_save_8 ?_
  refine lv_icmp_lt (tgt := 16) hx hb dX1_save_9 (by decide) (fun hc9 => ?_) (fun hc9 => ?_)
  · replace hf := z_ip hc9 hf
    exact t_X1_save_16 B hf hW hl 
  · replace hf := z_in hc9 hf
    refine lv_aload_n hx hb dX1_save_12 rfl (lv_at hl 0 rfl) ?_
    obtain ⟨σ6, hq5, hf⟩ := z_b hf
    refine z_cv hW (z_runV (As := []) (rest := []) B hW zv_X1_22 (K_X1_dropOldest hq5) hg1 rfl rfl rfl (Nat.le_of_ble_eq_true rfl) hl.1 ⟨Nat.le_of_ble_eq_true rfl, Nat.le_of_ble_eq_true rfl⟩ dX1_save_13 ⟨Nat.le_of_ble_eq_true rfl, Nat.le_of_ble_eq_true rfl⟩) (fun H locs hW => ?_)
    exact t_X1_save_16 B hf hW hl 
set_option maxRecDepth 100000 in
def f_X1_restore_30 (σ : zSt) : Option (zSt) :=
(some σ)
set_option maxRecDepth 20000 in
set_option maxHeartbeats 4000000 in
theorem t_X1_restore_30 (B : z_B p s m args meth c D cA bs RX1 cX1_restore 3 none)  {σ' : zSt} {σ : zSt} (hf : f_X1_restore_30 σ = some σ') {H : Heap} {locs : List Loc} {ls : Array Slot} (hW : z_Ok D cA bs s σ H locs) (hl : lv_has ls 3 [])  : W p l e (zrm 4 0 0 126) s m args below meth c H locs 0 0 (MQ below (z_Qv D cA bs σ') args s 0 0 (fun q => bs ≤ q)) (F0 m 30 ls []) := by
  have hx := B.1
  have hb := B.2.1
  have hown := B.2.2.2.1
  have hts := B.2.2.2.2.1
  unfold f_X1_restore_30 at hf
  obtain rfl := z_e1 hf
  exact z_rv B hW dX1_restore_30 (Nat.le_of_ble_eq_true rfl) (Nat.le_of_ble_eq_true rfl)
set_option maxRecDepth 100000 in
def f_X1_restore (σ : zSt) (l0 : Nat) (l1 : Nat) : Option (zSt) :=
(if z_ob σ l0 1 then (zb (f_X1_stateAt σ l0 ((z_I σ l0 1) - (1 : Int32))) (fun r3 => (zc r3
(f_X1_restore_30 σ)
(fun a4 => (if z_ob σ l1 2 then (zb (f_X2_copyFrom σ l1 a4) (fun σ7 => (if z_ob σ7 l0 1 then (zl (z_pI σ7 l0 1 ((z_I σ7 l0 1) - (1 : Int32))) (fun σ9 => (f_X1_restore_30 σ9))) else none))) else none))))) else none)
set_option maxRecDepth 20000 in
set_option maxHeartbeats 4000000 in
theorem K_X1_restore {σ : zSt} {l0 : Nat} {l1 : Nat}  {σ' : zSt} (hf : f_X1_restore σ l0 l1 = some σ') : z_M l D cA bs yX1_restore cX1_restore 3 none 4 126 0 0 [.ref l0, .ref l1] σ (z_Qv D cA bs σ') := by
  refine z_met (own := RX1) (lv := [(0, .ref l0), (1, .ref l1)]) (by decide) rfl (Nat.le_of_ble_eq_true rfl) rfl (fun p e s m below meth c ls B hnm hW hl => ?_)
  have hx := B.1
  have hb := B.2.1
  have hown := B.2.2.2.1
  have hts := B.2.2.2.2.1
  unfold f_X1_restore at hf
  refine lv_aload_n hx hb dX1_restore_0 rfl (lv_at hl 0 rfl) ?_
  refine lv_aload_n hx hb dX1_restore_1 rfl (lv_at hl 0 rfl) ?_
  obtain ⟨hg1, hf⟩ := z_g hf
  refine z_getI B hW (Or.inl zf_X1_18) rfl hg1 dX1_restore_2 ?_
  refine lv_iconst (v := (1 : Int32)) hx hb dX1_restore_5 (by decide) ?_
  refine lv_isub hx hb dX1_restore_6 ?_
  obtain ⟨r3, hq2, hf⟩ := z_b hf
  refine z_cq hW (z_runV (As := [.int ((z_I σ l0 1) - (1 : Int32))]) (rest := []) B hW zv_X1_25 (K_X1_stateAt hq2) hg1 rfl rfl rfl (Nat.le_of_ble_eq_true rfl) hl.1 ⟨Nat.le_of_ble_eq_true rfl, Nat.le_of_ble_eq_true rfl⟩ dX1_restore_7 ⟨Nat.le_of_ble_eq_true rfl, Nat.le_of_ble_eq_true rfl⟩) (fun H locs hW => ?_)
  refine z_astore_n (lv' := [(2, va_rf r3), (0, .ref l0), (1, .ref l1)]) hx hb dX1_restore_10 rfl hl (by decide) rfl (fun ls hl => ?_)
  refine z_aload_n hx hb dX1_restore_11 rfl (lv_at hl 0 rfl) ?_
  refine z_ifnull (tgt := 30) hx hb dX1_restore_12 (by decide) (fun hz11 => ?_) (fun a4 hz11 => ?_)
  · subst hz11
    replace hf := z_c0 hf
    exact t_X1_restore_30 B hf hW (lv_sub hl [] rfl) 
  · subst hz11
    replace hf := z_c1 hf
    refine lv_aload_n hx hb dX1_restore_15 rfl (lv_at hl 2 rfl) ?_
    refine lv_aload_n hx hb dX1_restore_16 rfl (lv_at hl 0 rfl) ?_
    obtain ⟨hg5, hf⟩ := z_g hf
    obtain ⟨σ7, hq6, hf⟩ := z_b hf
    refine z_cv hW (z_runV (As := [.ref a4]) (rest := []) B hW zv_X1_29 (K_X2_copyFrom hq6) hg5 rfl rfl rfl (Nat.le_of_ble_eq_true rfl) hl.1 ⟨Nat.le_of_ble_eq_true rfl, Nat.le_of_ble_eq_true rfl⟩ dX1_restore_17 ⟨Nat.le_of_ble_eq_true rfl, Nat.le_of_ble_eq_true rfl⟩) (fun H locs hW => ?_)
    refine lv_aload_n hx hb dX1_restore_20 rfl (lv_at hl 1 rfl) ?_
    refine lv_dup hx hb dX1_restore_21 rfl ?_
    obtain ⟨hg8, hf⟩ := z_g hf
    refine z_getI B hW (Or.inl zf_X1_18) rfl hg8 dX1_restore_22 ?_
    refine lv_iconst (v := (1 : Int32)) hx hb dX1_restore_25 (by decide) ?_
    refine lv_isub hx hb dX1_restore_26 ?_
    obtain ⟨σ9, hs10, hf⟩ := z_l hf
    refine z_putI B hW zf_X1_18 hg8 rfl hs10 dX1_restore_27 (fun H locs hW => ?_)
    exact t_X1_restore_30 B hf hW (lv_sub hl [] rfl) 
set_option maxRecDepth 100000 in
def f_X2_isFull_14 (σ : zSt) (s0 : Int32) : Option (Int32) :=
(if z_bl s0 then (some s0) else none)
set_option maxRecDepth 20000 in
set_option maxHeartbeats 4000000 in
theorem t_X2_isFull_14 (B : z_B p s m args meth c D cA bs RX2 cX2_isFull 1 (some .boolean)) {r : Int32} {σ : zSt} {s0 : Int32} (hf : f_X2_isFull_14 σ s0 = some r) {H : Heap} {locs : List Loc} {ls : Array Slot} (hW : z_Ok D cA bs s σ H locs) (hl : lv_has ls 1 [])  : W p l e (zrm 0 0 0 0) s m args below meth c H locs 0 0 (MQ below (z_Qi D cA bs r σ) args s 0 0 (fun q => bs ≤ q)) (F0 m 14 ls [.int s0]) := by
  have hx := B.1
  have hb := B.2.1
  have hown := B.2.2.2.1
  have hts := B.2.2.2.2.1
  unfold f_X2_isFull_14 at hf
  obtain ⟨hg1, hf⟩ := z_g hf
  obtain rfl := z_e1 hf
  exact z_rz hg1 B hW dX2_isFull_14 (Nat.le_of_ble_eq_true rfl) (Nat.le_of_ble_eq_true rfl)
set_option maxRecDepth 100000 in
def f_X2_isFull (σ : zSt) (l0 : Nat) : Option (Int32) :=
(if z_ob σ l0 2 then (if (z_I σ l0 5) < (8 : Int32) then
(f_X2_isFull_14 σ (0 : Int32))
else
(f_X2_isFull_14 σ (1 : Int32))) else none)
set_option maxRecDepth 20000 in
set_option maxHeartbeats 4000000 in
theorem K_X2_isFull {σ : zSt} {l0 : Nat} {r : Int32} (hf : f_X2_isFull σ l0 = some r) : z_M l D cA bs yX2_isFull cX2_isFull 1 (some .boolean) 0 0 0 0 [.ref l0] σ (z_Qi D cA bs r σ) := by
  refine z_met (own := RX2) (lv := [(0, .ref l0)]) (by decide) rfl (Nat.le_of_ble_eq_true rfl) rfl (fun p e s m below meth c ls B hnm hW hl => ?_)
  have hx := B.1
  have hb := B.2.1
  have hown := B.2.2.2.1
  have hts := B.2.2.2.2.1
  unfold f_X2_isFull at hf
  refine lv_aload_n hx hb dX2_isFull_0 rfl (lv_at hl 0 rfl) ?_
  obtain ⟨hg1, hf⟩ := z_g hf
  refine z_getI B hW (Or.inl zf_X2_61) rfl hg1 dX2_isFull_1 ?_
  refine lv_bipush (v := (8 : Int32)) hx hb dX2_isFull_4 (by decide) ?_
  refine lv_icmp_lt (tgt := 13) hx hb dX2_isFull_6 (by decide) (fun hc6 => ?_) (fun hc6 => ?_)
  · replace hf := z_ip hc6 hf
    refine lv_iconst (v := (0 : Int32)) hx hb dX2_isFull_13 (by decide) ?_
    exact t_X2_isFull_14 B hf hW (lv_sub hl [] rfl) 
  · replace hf := z_in hc6 hf
    refine lv_iconst (v := (1 : Int32)) hx hb dX2_isFull_9 (by decide) ?_
    refine lv_goto (tgt := 14) hx hb dX2_isFull_10 (by decide) ?_
    exact t_X2_isFull_14 B hf hW (lv_sub hl [] rfl) 
set_option maxRecDepth 100000 in
def f_X2_isTooLate_14 (σ : zSt) (s0 : Int32) : Option (Int32) :=
(if z_bl s0 then (some s0) else none)
set_option maxRecDepth 20000 in
set_option maxHeartbeats 4000000 in
theorem t_X2_isTooLate_14 (B : z_B p s m args meth c D cA bs RX2 cX2_isTooLate 1 (some .boolean)) {r : Int32} {σ : zSt} {s0 : Int32} (hf : f_X2_isTooLate_14 σ s0 = some r) {H : Heap} {locs : List Loc} {ls : Array Slot} (hW : z_Ok D cA bs s σ H locs) (hl : lv_has ls 1 [])  : W p l e (zrm 0 0 0 0) s m args below meth c H locs 0 0 (MQ below (z_Qi D cA bs r σ) args s 0 0 (fun q => bs ≤ q)) (F0 m 14 ls [.int s0]) := by
  have hx := B.1
  have hb := B.2.1
  have hown := B.2.2.2.1
  have hts := B.2.2.2.2.1
  unfold f_X2_isTooLate_14 at hf
  obtain ⟨hg1, hf⟩ := z_g hf
  obtain rfl := z_e1 hf
  exact z_rz hg1 B hW dX2_isTooLate_14 (Nat.le_of_ble_eq_true rfl) (Nat.le_of_ble_eq_true rfl)
set_option maxRecDepth 100000 in
def f_X2_isTooLate (σ : zSt) (l0 : Nat) : Option (Int32) :=
(if z_ob σ l0 2 then (if (z_I σ l0 9) ≤ (900000 : Int32) then
(f_X2_isTooLate_14 σ (0 : Int32))
else
(f_X2_isTooLate_14 σ (1 : Int32))) else none)
set_option maxRecDepth 20000 in
set_option maxHeartbeats 4000000 in
theorem K_X2_isTooLate {σ : zSt} {l0 : Nat} {r : Int32} (hf : f_X2_isTooLate σ l0 = some r) : z_M l D cA bs yX2_isTooLate cX2_isTooLate 1 (some .boolean) 0 0 0 0 [.ref l0] σ (z_Qi D cA bs r σ) := by
  refine z_met (own := RX2) (lv := [(0, .ref l0)]) (by decide) rfl (Nat.le_of_ble_eq_true rfl) rfl (fun p e s m below meth c ls B hnm hW hl => ?_)
  have hx := B.1
  have hb := B.2.1
  have hown := B.2.2.2.1
  have hts := B.2.2.2.2.1
  unfold f_X2_isTooLate at hf
  refine lv_aload_n hx hb dX2_isTooLate_0 rfl (lv_at hl 0 rfl) ?_
  obtain ⟨hg1, hf⟩ := z_g hf
  refine z_getI B hW (Or.inl zf_X2_69) rfl hg1 dX2_isTooLate_1 ?_
  refine lv_ldc hx hb hown (hts _ zk_X2_103) dX2_isTooLate_4 ?_
  refine lv_icmp_le (tgt := 13) hx hb dX2_isTooLate_6 (by decide) (fun hc6 => ?_) (fun hc6 => ?_)
  · replace hf := z_ip hc6 hf
    refine lv_iconst (v := (0 : Int32)) hx hb dX2_isTooLate_13 (by decide) ?_
    exact t_X2_isTooLate_14 B hf hW (lv_sub hl [] rfl) 
  · replace hf := z_in hc6 hf
    refine lv_iconst (v := (1 : Int32)) hx hb dX2_isTooLate_9 (by decide) ?_
    refine lv_goto (tgt := 14) hx hb dX2_isTooLate_10 (by decide) ?_
    exact t_X2_isTooLate_14 B hf hW (lv_sub hl [] rfl) 
set_option maxRecDepth 100000 in
def f_X2_stationWith_46 (σ : zSt) : Option (Option Nat) :=
(some none)
set_option maxRecDepth 20000 in
set_option maxHeartbeats 4000000 in
theorem t_X2_stationWith_46 (B : z_B p s m args meth c D cA bs RX2 cX2_stationWith 4 (some (.object "TokenBus$Station"))) {r : Option Nat} {σ : zSt} (hf : f_X2_stationWith_46 σ = some r) {H : Heap} {locs : List Loc} {ls : Array Slot} (hW : z_Ok D cA bs s σ H locs) (hl : lv_has ls 4 [])  : W p l e (zrm 0 0 0 0) s m args below meth c H locs 0 0 (MQ below (z_Qq D cA bs r σ) args s 0 0 (fun q => bs ≤ q)) (F0 m 46 ls []) := by
  have hx := B.1
  have hb := B.2.1
  have hown := B.2.2.2.1
  have hts := B.2.2.2.2.1
  unfold f_X2_stationWith_46 at hf
  refine lv_null hx hb dX2_stationWith_46 ?_
  obtain rfl := z_e1 hf
  exact z_rq (r := none) B hW dX2_stationWith_47 (Nat.le_of_ble_eq_true rfl) (Nat.le_of_ble_eq_true rfl)
set_option maxRecDepth 100000 in
def f_X2_stationWith_40 (σ : zSt) (l0 : Nat) (l1 : Int32) (l2 : Int32) : Option ((Int32) ⊕ (Option Nat)) :=
(some (.inl (l2 + (1 : Int32))))
set_option maxRecDepth 20000 in
set_option maxHeartbeats 4000000 in
theorem t_X2_stationWith_40 (B : z_B p s m args meth c D cA bs RX2 cX2_stationWith 4 (some (.object "TokenBus$Station"))) {r : Option Nat} {o1 : (Int32) ⊕ (Option Nat)} {σ : zSt} {l0 : Nat} {l1 : Int32} {l2 : Int32} (hf : f_X2_stationWith_40 σ l0 l1 l2 = some o1) {H : Heap} {locs : List Loc} {ls : Array Slot} (hW : z_Ok D cA bs s σ H locs) (hl : lv_has ls 4 [(0, .ref l0), (1, .int l1), (2, .int l2)]) (hk1 : ∀ (l2 : Int32), o1 = .inl l2 → ∀ {H : Heap} {locs : List Loc} {ls : Array Slot}, z_Ok D cA bs s σ H locs → lv_has ls 4 [(0, .ref l0), (1, .int l1), (2, .int l2)] → W p l e (zrm 0 0 0 0) s m args below meth c H locs 0 0 (MQ below (z_Qq D cA bs r σ) args s 0 0 (fun q => bs ≤ q)) (F0 m 2 ls [])) (hr1 : ∀ x, o1 = .inr x → x = r) : W p l e (zrm 0 0 0 0) s m args below meth c H locs 0 0 (MQ below (z_Qq D cA bs r σ) args s 0 0 (fun q => bs ≤ q)) (F0 m 40 ls []) := by
  have hx := B.1
  have hb := B.2.1
  have hown := B.2.2.2.1
  have hts := B.2.2.2.2.1
  unfold f_X2_stationWith_40 at hf
  refine lv_iinc (v := (l2 + (1 : Int32))) (lv' := [(2, .int (l2 + (1 : Int32))), (0, .ref l0), (1, .int l1)]) hx hb dX2_stationWith_40 hl (k := 2) rfl rfl (by decide) rfl (fun ls hl => ?_)
  refine lv_goto (tgt := 2) hx hb dX2_stationWith_43 (by decide) ?_
  exact hk1 _ (Option.some.inj hf).symm hW (lv_sub hl [1, 2, 0] rfl)
set_option maxRecDepth 100000 in
def b_X2_stationWith_2 (σ : zSt) (l0 : Nat) (l1 : Int32) (l2 : Int32) : Option ((Int32) ⊕ (Option Nat)) :=
(if z_ob σ l0 2 then (if (z_I σ l0 5) ≤ l2 then
(zex (f_X2_stationWith_46 σ))
else
(zc (z_R σ l0 0) none (fun q3 => (if z_ar σ q3 3 then (if (Int32.ofNat (z_ln σ q3)) ≤ l2 then
(zex (f_X2_stationWith_46 σ))
else
(zc (z_R σ l0 0) none (fun q7 => (if z_ar σ q7 3 then (if z_ix l2 (z_ln σ q7) then (zl (z_R σ q7 l2.toNatClampNeg) (fun v11 => (zc v11
(f_X2_stationWith_40 σ l0 l1 l2)
(fun a13 => (if z_ob σ a13 6 then (if (z_I σ a13 0) = l1 then
(zex (some (some a13)))
else
(f_X2_stationWith_40 σ l0 l1 l2)) else none))))) else none) else none)))) else none)))) else none)
set_option maxRecDepth 100000 in
def f_X2_stationWith_2 (σ : zSt) (l0 : Nat) (l1 : Int32) (l2 : Int32) : Option (Option Nat) := zloop (fun (t : Int32) => b_X2_stationWith_2 σ l0 l1 t) zN l2
set_option maxRecDepth 20000 in
set_option maxHeartbeats 4000000 in
theorem tb_X2_stationWith_2 (B : z_B p s m args meth c D cA bs RX2 cX2_stationWith 4 (some (.object "TokenBus$Station"))) {r : Option Nat} {o1 : (Int32) ⊕ (Option Nat)} {σ : zSt} {l0 : Nat} {l1 : Int32} {l2 : Int32} (hf : b_X2_stationWith_2 σ l0 l1 l2 = some o1) {H : Heap} {locs : List Loc} {ls : Array Slot} (hW : z_Ok D cA bs s σ H locs) (hl : lv_has ls 4 [(0, .ref l0), (1, .int l1), (2, .int l2)]) (hk1 : ∀ (l2 : Int32), o1 = .inl l2 → ∀ {H : Heap} {locs : List Loc} {ls : Array Slot}, z_Ok D cA bs s σ H locs → lv_has ls 4 [(0, .ref l0), (1, .int l1), (2, .int l2)] → W p l e (zrm 0 0 0 0) s m args below meth c H locs 0 0 (MQ below (z_Qq D cA bs r σ) args s 0 0 (fun q => bs ≤ q)) (F0 m 2 ls [])) (hr1 : ∀ x, o1 = .inr x → x = r) : W p l e (zrm 0 0 0 0) s m args below meth c H locs 0 0 (MQ below (z_Qq D cA bs r σ) args s 0 0 (fun q => bs ≤ q)) (F0 m 2 ls []) := by
  have hx := B.1
  have hb := B.2.1
  have hown := B.2.2.2.1
  have hts := B.2.2.2.2.1
  unfold b_X2_stationWith_2 at hf
  refine lv_iload_n hx hb dX2_stationWith_2 rfl (lv_at hl 2 rfl) ?_
  refine lv_aload_n hx hb dX2_stationWith_3 rfl (lv_at hl 0 rfl) ?_
  obtain ⟨hg1, hf⟩ := z_g hf
  refine z_getI B hW (Or.inl zf_X2_61) rfl hg1 dX2_stationWith_4 ?_
  refine lv_icmp_ge (tgt := 46) hx hb dX2_stationWith_7 (by decide) (fun hc7 => ?_) (fun hc7 => ?_)
  · replace hf := z_ip hc7 hf
    obtain ⟨w1, hf, ho2⟩ := z_x hf
    obtain rfl := hr1 _ ho2
    exact t_X2_stationWith_46 B hf hW (lv_sub hl [] rfl) 
  · replace hf := z_in hc7 hf
    refine lv_iload_n hx hb dX2_stationWith_10 rfl (lv_at hl 2 rfl) ?_
    refine lv_aload_n hx hb dX2_stationWith_11 rfl (lv_at hl 0 rfl) ?_
    obtain ⟨q3, hv4, hf⟩ := z_nn hf
    refine z_getN B hW (Or.inr zf_X2_11) rfl hg1 hv4 dX2_stationWith_12 ?_
    obtain ⟨hg5, hf⟩ := z_g hf
    refine z_alen (t := 3) (by decide) B hW hg5 dX2_stationWith_15 ?_
    refine lv_icmp_ge (tgt := 46) hx hb dX2_stationWith_16 (by decide) (fun hc16 => ?_) (fun hc16 => ?_)
    · replace hf := z_ip hc16 hf
      obtain ⟨w1, hf, ho6⟩ := z_x hf
      obtain rfl := hr1 _ ho6
      exact t_X2_stationWith_46 B hf hW (lv_sub hl [] rfl) 
    · replace hf := z_in hc16 hf
      refine lv_aload_n hx hb dX2_stationWith_19 rfl (lv_at hl 0 rfl) ?_
      obtain ⟨q7, hv8, hf⟩ := z_nn hf
      refine z_getN B hW (Or.inr zf_X2_11) rfl hg1 hv8 dX2_stationWith_20 ?_
      refine lv_iload_n hx hb dX2_stationWith_23 rfl (lv_at hl 2 rfl) ?_
      obtain ⟨hg9, hf⟩ := z_g hf
      obtain ⟨hg10, hf⟩ := z_g hf
      obtain ⟨v11, hv12, hf⟩ := z_l hf
      refine z_aald (by decide) B hW hg9 hg10 hv12 dX2_stationWith_24 ?_
      refine z_astore_n (lv' := [(3, va_rf v11), (0, .ref l0), (1, .int l1), (2, .int l2)]) hx hb dX2_stationWith_25 rfl hl (by decide) rfl (fun ls hl => ?_)
      refine z_aload_n hx hb dX2_stationWith_26 rfl (lv_at hl 0 rfl) ?_
      refine z_ifnull (tgt := 40) hx hb dX2_stationWith_27 (by decide) (fun hz16 => ?_) (fun a13 hz16 => ?_)
      · subst hz16
        replace hf := z_c0 hf
        exact t_X2_stationWith_40 B hf hW (lv_sub hl [1, 2, 3] rfl) hk1 hr1
      · subst hz16
        replace hf := z_c1 hf
        refine lv_aload_n hx hb dX2_stationWith_30 rfl (lv_at hl 0 rfl) ?_
        obtain ⟨hg14, hf⟩ := z_g hf
        refine z_getI B hW (Or.inl zf_X2_104) rfl hg14 dX2_stationWith_31 ?_
        refine lv_iload_n hx hb dX2_stationWith_34 rfl (lv_at hl 2 rfl) ?_
        refine lv_icmp_ne (tgt := 40) hx hb dX2_stationWith_35 (by decide) (fun hc35 => ?_) (fun hc35 => ?_)
        · replace hf := z_in hc35 hf
          exact t_X2_stationWith_40 B hf hW (lv_sub hl [1, 2, 3] rfl) hk1 hr1
        · replace hf := z_ip hc35 hf
          obtain ⟨w1, hf, ho15⟩ := z_x hf
          obtain rfl := hr1 _ ho15
          refine lv_aload_n hx hb dX2_stationWith_38 rfl (lv_at hl 0 rfl) ?_
          obtain rfl := z_e1 hf
          exact z_rq (r := (some a13)) B hW dX2_stationWith_39 (Nat.le_of_ble_eq_true rfl) (Nat.le_of_ble_eq_true rfl)
set_option maxRecDepth 20000 in
set_option maxHeartbeats 4000000 in
theorem t_X2_stationWith_2 (B : z_B p s m args meth c D cA bs RX2 cX2_stationWith 4 (some (.object "TokenBus$Station"))) {r : Option Nat} {σ : zSt} {l0 : Nat} {l1 : Int32}  : ∀ (n : Nat) {l2 : Int32}, zloop (fun (t : Int32) => b_X2_stationWith_2 σ l0 l1 t) n l2 = some r → ∀ {H : Heap} {locs : List Loc} {ls : Array Slot}, z_Ok D cA bs s σ H locs → lv_has ls 4 [(0, .ref l0), (1, .int l1), (2, .int l2)] → W p l e (zrm 0 0 0 0) s m args below meth c H locs 0 0 (MQ below (z_Qq D cA bs r σ) args s 0 0 (fun q => bs ≤ q)) (F0 m 2 ls []) := by
  intro n
  induction n with
  | zero => intro l2 hf; cases hf
  | succ n ih =>
    intro l2 hf H locs ls hW hl
    obtain ⟨o1, hb1, hf⟩ := z_lp hf
    refine tb_X2_stationWith_2 B hb1 hW hl  (fun l2 he H locs ls hW hl => ?_) (fun x he => ?_)
    · rcases hf with ⟨t, ht, hf⟩ | hf
      · rw [he] at ht
        cases ht
        exact ih hf hW hl
      · rw [he] at hf
        cases hf
    · rcases hf with ⟨t, ht, hf⟩ | hf
      · rw [he] at ht
        cases ht
      · rw [he] at hf
        exact Sum.inr.inj hf
set_option maxRecDepth 100000 in
def f_X2_stationWith (σ : zSt) (l0 : Nat) (l1 : Int32) : Option (Option Nat) :=
(f_X2_stationWith_2 σ l0 l1 (0 : Int32))
set_option maxRecDepth 20000 in
set_option maxHeartbeats 4000000 in
theorem K_X2_stationWith {σ : zSt} {l0 : Nat} {l1 : Int32} {r : Option Nat} (hf : f_X2_stationWith σ l0 l1 = some r) : z_M l D cA bs yX2_stationWith cX2_stationWith 4 (some (.object "TokenBus$Station")) 0 0 0 0 [.ref l0, .int l1] σ (z_Qq D cA bs r σ) := by
  refine z_met (own := RX2) (lv := [(0, .ref l0), (1, .int l1)]) (by decide) rfl (Nat.le_of_ble_eq_true rfl) rfl (fun p e s m below meth c ls B hnm hW hl => ?_)
  have hx := B.1
  have hb := B.2.1
  have hown := B.2.2.2.1
  have hts := B.2.2.2.2.1
  unfold f_X2_stationWith at hf
  refine lv_iconst (v := (0 : Int32)) hx hb dX2_stationWith_0 (by decide) ?_
  refine lv_istore_n (lv' := [(2, .int (0 : Int32)), (0, .ref l0), (1, .int l1)]) hx hb dX2_stationWith_1 rfl hl (by decide) rfl (fun ls hl => ?_)
  unfold f_X2_stationWith_2 at hf
  exact t_X2_stationWith_2 B  zN hf hW (lv_sub hl [1, 2, 0] rfl)
set_option maxRecDepth 100000 in
def f_X6_reset (σ : zSt) (l0 : Nat) (l1 : Int32) : Option (zSt) :=
(if z_ob σ l0 6 then (zl (z_pI σ l0 0 l1) (fun σ2 => (if z_ob σ2 l0 6 then (zl (z_pI σ2 l0 1 (1 : Int32)) (fun σ5 => (if z_ob σ5 l0 6 then (zl (z_pI σ5 l0 2 (0 : Int32)) (fun σ8 => (if z_ob σ8 l0 6 then (zl (z_pI σ8 l0 3 l1) (fun σ11 => (if z_ob σ11 l0 6 then (zl (z_pI σ11 l0 4 l1) (fun σ14 => (if z_ob σ14 l0 6 then (zl (z_pI σ14 l0 5 (-1 : Int32)) (fun σ17 => (if z_ob σ17 l0 6 then (zl (z_pI σ17 l0 6 (0 : Int32)) (fun σ20 => (if z_ob σ20 l0 6 then (zl (z_pI σ20 l0 7 (0 : Int32)) (fun σ23 => (if z_ob σ23 l0 6 then (zl (z_pI σ23 l0 8 (-1 : Int32)) (fun σ26 => (some σ26))) else none))) else none))) else none))) else none))) else none))) else none))) else none))) else none))) else none)
set_option maxRecDepth 20000 in
set_option maxHeartbeats 4000000 in
theorem K_X6_reset {σ : zSt} {l0 : Nat} {l1 : Int32}  {σ' : zSt} (hf : f_X6_reset σ l0 l1 = some σ') : z_M l D cA bs yX6_reset cX6_reset 2 none 0 0 0 0 [.ref l0, .int l1] σ (z_Qv D cA bs σ') := by
  refine z_met (own := RX6) (lv := [(0, .ref l0), (1, .int l1)]) (by decide) rfl (Nat.le_of_ble_eq_true rfl) rfl (fun p e s m below meth c ls B hnm hW hl => ?_)
  have hx := B.1
  have hb := B.2.1
  have hown := B.2.2.2.1
  have hts := B.2.2.2.2.1
  unfold f_X6_reset at hf
  refine lv_aload_n hx hb dX6_reset_0 rfl (lv_at hl 0 rfl) ?_
  refine lv_iload_n hx hb dX6_reset_1 rfl (lv_at hl 1 rfl) ?_
  obtain ⟨hg1, hf⟩ := z_g hf
  obtain ⟨σ2, hs3, hf⟩ := z_l hf
  refine z_putI B hW zf_X6_9 hg1 rfl hs3 dX6_reset_2 (fun H locs hW => ?_)
  refine lv_aload_n hx hb dX6_reset_5 rfl (lv_at hl 0 rfl) ?_
  refine lv_iconst (v := (1 : Int32)) hx hb dX6_reset_6 (by decide) ?_
  obtain ⟨hg4, hf⟩ := z_g hf
  obtain ⟨σ5, hs6, hf⟩ := z_l hf
  refine z_putI B hW zf_X6_15 hg4 (by decide) hs6 dX6_reset_7 (fun H locs hW => ?_)
  refine lv_aload_n hx hb dX6_reset_10 rfl (lv_at hl 0 rfl) ?_
  refine lv_iconst (v := (0 : Int32)) hx hb dX6_reset_11 (by decide) ?_
  obtain ⟨hg7, hf⟩ := z_g hf
  obtain ⟨σ8, hs9, hf⟩ := z_l hf
  refine z_putI B hW zf_X6_19 hg7 (by decide) hs9 dX6_reset_12 (fun H locs hW => ?_)
  refine lv_aload_n hx hb dX6_reset_15 rfl (lv_at hl 0 rfl) ?_
  refine lv_iload_n hx hb dX6_reset_16 rfl (lv_at hl 1 rfl) ?_
  obtain ⟨hg10, hf⟩ := z_g hf
  obtain ⟨σ11, hs12, hf⟩ := z_l hf
  refine z_putI B hW zf_X6_22 hg10 rfl hs12 dX6_reset_17 (fun H locs hW => ?_)
  refine lv_aload_n hx hb dX6_reset_20 rfl (lv_at hl 0 rfl) ?_
  refine lv_iload_n hx hb dX6_reset_21 rfl (lv_at hl 1 rfl) ?_
  obtain ⟨hg13, hf⟩ := z_g hf
  obtain ⟨σ14, hs15, hf⟩ := z_l hf
  refine z_putI B hW zf_X6_25 hg13 rfl hs15 dX6_reset_22 (fun H locs hW => ?_)
  refine lv_aload_n hx hb dX6_reset_25 rfl (lv_at hl 0 rfl) ?_
  refine lv_iconst (v := (-1 : Int32)) hx hb dX6_reset_26 (by decide) ?_
  obtain ⟨hg16, hf⟩ := z_g hf
  obtain ⟨σ17, hs18, hf⟩ := z_l hf
  refine z_putI B hW zf_X6_28 hg16 rfl hs18 dX6_reset_27 (fun H locs hW => ?_)
  refine lv_aload_n hx hb dX6_reset_30 rfl (lv_at hl 0 rfl) ?_
  refine lv_iconst (v := (0 : Int32)) hx hb dX6_reset_31 (by decide) ?_
  obtain ⟨hg19, hf⟩ := z_g hf
  obtain ⟨σ20, hs21, hf⟩ := z_l hf
  refine z_putI B hW zf_X6_31 hg19 rfl hs21 dX6_reset_32 (fun H locs hW => ?_)
  refine lv_aload_n hx hb dX6_reset_35 rfl (lv_at hl 0 rfl) ?_
  refine lv_iconst (v := (0 : Int32)) hx hb dX6_reset_36 (by decide) ?_
  obtain ⟨hg22, hf⟩ := z_g hf
  obtain ⟨σ23, hs24, hf⟩ := z_l hf
  refine z_putI B hW zf_X6_34 hg22 rfl hs24 dX6_reset_37 (fun H locs hW => ?_)
  refine lv_aload_n hx hb dX6_reset_40 rfl (lv_at hl 0 rfl) ?_
  refine lv_iconst (v := (-1 : Int32)) hx hb dX6_reset_41 (by decide) ?_
  obtain ⟨hg25, hf⟩ := z_g hf
  obtain ⟨σ26, hs27, hf⟩ := z_l hf
  refine z_putI B hW zf_X6_37 hg25 rfl hs27 dX6_reset_42 (fun H locs hW => ?_)
  obtain rfl := z_e1 hf
  exact z_rv B hW dX6_reset_45 (Nat.le_of_ble_eq_true rfl) (Nat.le_of_ble_eq_true rfl)
set_option maxRecDepth 100000 in
def f_X2_placeStation_18 (σ : zSt) : Option (Option Nat × zSt) :=
(some (none, σ))
set_option maxRecDepth 20000 in
set_option maxHeartbeats 4000000 in
theorem t_X2_placeStation_18 (B : z_B p s m args meth c D cA bs RX2 cX2_placeStation 5 (some (.object "TokenBus$Station"))) {r : Option Nat} {σ' : zSt} {σ : zSt} (hf : f_X2_placeStation_18 σ = some (r, σ')) {H : Heap} {locs : List Loc} {ls : Array Slot} (hW : z_Ok D cA bs s σ H locs) (hl : lv_has ls 5 [])  : W p l e (zrm 1 0 0 21) s m args below meth c H locs 0 0 (MQ below (z_Qq D cA bs r σ') args s 0 0 (fun q => bs ≤ q)) (F0 m 18 ls []) := by
  have hx := B.1
  have hb := B.2.1
  have hown := B.2.2.2.1
  have hts := B.2.2.2.2.1
  unfold f_X2_placeStation_18 at hf
  refine lv_null hx hb dX2_placeStation_18 ?_
  obtain ⟨rfl, rfl⟩ := z_e2 hf
  exact z_rq (r := none) B hW dX2_placeStation_19 (Nat.le_of_ble_eq_true rfl) (Nat.le_of_ble_eq_true rfl)
set_option maxRecDepth 100000 in
def f_X2_placeStation_101 (σ : zSt) (l0 : Nat) (l3 : Nat) : Option (Option Nat × zSt) :=
(if z_ob σ l0 2 then (zl (z_pI σ l0 5 ((z_I σ l0 5) + (1 : Int32))) (fun σ2 => (some ((some l3), σ2)))) else none)
set_option maxRecDepth 20000 in
set_option maxHeartbeats 4000000 in
theorem t_X2_placeStation_101 (B : z_B p s m args meth c D cA bs RX2 cX2_placeStation 5 (some (.object "TokenBus$Station"))) {r : Option Nat} {σ' : zSt} {σ : zSt} {l0 : Nat} {l3 : Nat} (hf : f_X2_placeStation_101 σ l0 l3 = some (r, σ')) {H : Heap} {locs : List Loc} {ls : Array Slot} (hW : z_Ok D cA bs s σ H locs) (hl : lv_has ls 5 [(0, .ref l0), (3, .ref l3)])  : W p l e (zrm 1 0 0 21) s m args below meth c H locs 0 0 (MQ below (z_Qq D cA bs r σ') args s 0 0 (fun q => bs ≤ q)) (F0 m 101 ls []) := by
  have hx := B.1
  have hb := B.2.1
  have hown := B.2.2.2.1
  have hts := B.2.2.2.2.1
  unfold f_X2_placeStation_101 at hf
  refine lv_aload_n hx hb dX2_placeStation_101 rfl (lv_at hl 0 rfl) ?_
  refine lv_dup hx hb dX2_placeStation_102 rfl ?_
  obtain ⟨hg1, hf⟩ := z_g hf
  refine z_getI B hW (Or.inl zf_X2_61) rfl hg1 dX2_placeStation_103 ?_
  refine lv_iconst (v := (1 : Int32)) hx hb dX2_placeStation_106 (by decide) ?_
  refine lv_iadd hx hb dX2_placeStation_107 ?_
  obtain ⟨σ2, hs3, hf⟩ := z_l hf
  refine z_putI B hW zf_X2_61 hg1 rfl hs3 dX2_placeStation_108 (fun H locs hW => ?_)
  refine lv_aload_n hx hb dX2_placeStation_111 rfl (lv_at hl 1 rfl) ?_
  obtain ⟨rfl, rfl⟩ := z_e2 hf
  exact z_rq (r := (some l3)) B hW dX2_placeStation_112 (Nat.le_of_ble_eq_true rfl) (Nat.le_of_ble_eq_true rfl)
set_option maxRecDepth 100000 in
def b_X2_placeStation_38 (l0 : Nat) (l1 : Int32) (l3 : Nat) (σ : zSt) (l2 : Int32) : Option ((zSt × Int32) ⊕ (Option Nat × zSt)) :=
(if l2 ≤ 0 then
(zex (f_X2_placeStation_101 σ l0 l3))
else
(if z_ob σ l0 2 then (zc (z_R σ l0 0) none (fun q3 => (if z_ar σ q3 3 then (if (Int32.ofNat (z_ln σ q3)) ≤ l2 then
(zex (f_X2_placeStation_101 σ l0 l3))
else
(zc (z_R σ l0 0) none (fun q7 => (if z_ar σ q7 3 then (if z_ix (l2 - (1 : Int32)) (z_ln σ q7) then (zl (z_R σ q7 (l2 - (1 : Int32)).toNatClampNeg) (fun v11 => (zc v11
(zex (f_X2_placeStation_101 σ l0 l3))
(fun a13 => (if z_ob σ a13 6 then (if l1 ≤ (z_I σ a13 0) then
(zc (z_R σ l0 0) none (fun q16 => (if z_ar σ q16 3 then (if z_ix l2 (z_ln σ q16) then (zl (z_pR σ q16 l2.toNatClampNeg (some a13)) (fun σ20 => (if z_ob σ20 l0 2 then (zc (z_R σ20 l0 0) none (fun q23 => (if z_ar σ20 q23 3 then (if z_ix (l2 - (1 : Int32)) (z_ln σ20 q23) then (if z_ob σ20 l3 6 then (zl (z_pR σ20 q23 (l2 - (1 : Int32)).toNatClampNeg (some l3)) (fun σ28 => (some (.inl (σ28, (l2 + (-1 : Int32))))))) else none) else none) else none))) else none))) else none) else none)))
else
(zex (f_X2_placeStation_101 σ l0 l3))) else none))))) else none) else none)))) else none))) else none))
set_option maxRecDepth 100000 in
def f_X2_placeStation_38 (l0 : Nat) (l1 : Int32) (l3 : Nat) (σ : zSt) (l2 : Int32) : Option (Option Nat × zSt) := zloop (fun (t : zSt × Int32) => b_X2_placeStation_38 l0 l1 l3 t.1 t.2) zN (σ, l2)
set_option maxRecDepth 20000 in
set_option maxHeartbeats 4000000 in
theorem tb_X2_placeStation_38 (B : z_B p s m args meth c D cA bs RX2 cX2_placeStation 5 (some (.object "TokenBus$Station"))) {r : Option Nat} {σ' : zSt} {o1 : (zSt × Int32) ⊕ (Option Nat × zSt)} {l0 : Nat} {l1 : Int32} {l3 : Nat} {σ : zSt} {l2 : Int32} (hf : b_X2_placeStation_38 l0 l1 l3 σ l2 = some o1) {H : Heap} {locs : List Loc} {ls : Array Slot} (hW : z_Ok D cA bs s σ H locs) (hl : lv_has ls 5 [(0, .ref l0), (1, .int l1), (2, .int l2), (3, .ref l3)]) (hk1 : ∀ (σ : zSt) (l2 : Int32), o1 = .inl (σ, l2) → ∀ {H : Heap} {locs : List Loc} {ls : Array Slot}, z_Ok D cA bs s σ H locs → lv_has ls 5 [(0, .ref l0), (1, .int l1), (2, .int l2), (3, .ref l3)] → W p l e (zrm 1 0 0 21) s m args below meth c H locs 0 0 (MQ below (z_Qq D cA bs r σ') args s 0 0 (fun q => bs ≤ q)) (F0 m 38 ls [])) (hr1 : ∀ x, o1 = .inr x → x = (r, σ')) : W p l e (zrm 1 0 0 21) s m args below meth c H locs 0 0 (MQ below (z_Qq D cA bs r σ') args s 0 0 (fun q => bs ≤ q)) (F0 m 38 ls []) := by
  have hx := B.1
  have hb := B.2.1
  have hown := B.2.2.2.1
  have hts := B.2.2.2.2.1
  unfold b_X2_placeStation_38 at hf
  refine lv_iload_n hx hb dX2_placeStation_38 rfl (lv_at hl 2 rfl) ?_
  refine lv_if_le (tgt := 101) hx hb dX2_placeStation_39 (by decide) (fun hc39 => ?_) (fun hc39 => ?_)
  · replace hf := z_ip hc39 hf
    obtain ⟨w1, hf, ho1⟩ := z_x hf
    obtain rfl := hr1 _ ho1
    exact t_X2_placeStation_101 B hf hW (lv_sub hl [0, 3] rfl) 
  · replace hf := z_in hc39 hf
    refine lv_iload_n hx hb dX2_placeStation_42 rfl (lv_at hl 2 rfl) ?_
    refine lv_aload_n hx hb dX2_placeStation_43 rfl (lv_at hl 0 rfl) ?_
    obtain ⟨hg2, hf⟩ := z_g hf
    obtain ⟨q3, hv4, hf⟩ := z_nn hf
    refine z_getN B hW (Or.inr zf_X2_11) rfl hg2 hv4 dX2_placeStation_44 ?_
    obtain ⟨hg5, hf⟩ := z_g hf
    refine z_alen (t := 3) (by decide) B hW hg5 dX2_placeStation_47 ?_
    refine lv_icmp_ge (tgt := 101) hx hb dX2_placeStation_48 (by decide) (fun hc48 => ?_) (fun hc48 => ?_)
    · replace hf := z_ip hc48 hf
      obtain ⟨w1, hf, ho6⟩ := z_x hf
      obtain rfl := hr1 _ ho6
      exact t_X2_placeStation_101 B hf hW (lv_sub hl [0, 3] rfl) 
    · replace hf := z_in hc48 hf
      refine lv_aload_n hx hb dX2_placeStation_51 rfl (lv_at hl 0 rfl) ?_
      obtain ⟨q7, hv8, hf⟩ := z_nn hf
      refine z_getN B hW (Or.inr zf_X2_11) rfl hg2 hv8 dX2_placeStation_52 ?_
      refine lv_iload_n hx hb dX2_placeStation_55 rfl (lv_at hl 2 rfl) ?_
      refine lv_iconst (v := (1 : Int32)) hx hb dX2_placeStation_56 (by decide) ?_
      refine lv_isub hx hb dX2_placeStation_57 ?_
      obtain ⟨hg9, hf⟩ := z_g hf
      obtain ⟨hg10, hf⟩ := z_g hf
      obtain ⟨v11, hv12, hf⟩ := z_l hf
      refine z_aald (by decide) B hW hg9 hg10 hv12 dX2_placeStation_58 ?_
      refine z_astore (lv' := [(4, va_rf v11), (0, .ref l0), (1, .int l1), (2, .int l2), (3, .ref l3)]) hx hb dX2_placeStation_59 hl (by decide) rfl (fun ls hl => ?_)
      refine z_aload hx hb dX2_placeStation_61 (lv_at hl 0 rfl) ?_
      refine z_ifnull (tgt := 101) hx hb dX2_placeStation_63 (by decide) (fun hz31 => ?_) (fun a13 hz31 => ?_)
      · subst hz31
        replace hf := z_c0 hf
        obtain ⟨w1, hf, ho14⟩ := z_x hf
        obtain rfl := hr1 _ ho14
        exact t_X2_placeStation_101 B hf hW (lv_sub hl [1, 4] rfl) 
      · subst hz31
        replace hf := z_c1 hf
        refine lv_aload hx hb dX2_placeStation_66 (lv_at hl 0 rfl) ?_
        obtain ⟨hg15, hf⟩ := z_g hf
        refine z_getI B hW (Or.inl zf_X2_104) rfl hg15 dX2_placeStation_68 ?_
        refine lv_iload_n hx hb dX2_placeStation_71 rfl (lv_at hl 2 rfl) ?_
        refine lv_icmp_ge (tgt := 78) hx hb dX2_placeStation_72 (by decide) (fun hc72 => ?_) (fun hc72 => ?_)
        · replace hf := z_ip hc72 hf
          refine lv_aload_n hx hb dX2_placeStation_78 rfl (lv_at hl 1 rfl) ?_
          obtain ⟨q16, hv17, hf⟩ := z_nn hf
          refine z_getN B hW (Or.inr zf_X2_11) rfl hg2 hv17 dX2_placeStation_79 ?_
          refine lv_iload_n hx hb dX2_placeStation_82 rfl (lv_at hl 3 rfl) ?_
          refine lv_aload hx hb dX2_placeStation_83 (lv_at hl 0 rfl) ?_
          obtain ⟨hg18, hf⟩ := z_g hf
          obtain ⟨hg19, hf⟩ := z_g hf
          obtain ⟨σ20, hs21, hf⟩ := z_l hf
          refine z_aast (by decide) B hW hg18 hg19 hg15 hs21 dX2_placeStation_85 (fun H locs hW => ?_)
          refine lv_aload_n hx hb dX2_placeStation_86 rfl (lv_at hl 1 rfl) ?_
          obtain ⟨hg22, hf⟩ := z_g hf
          obtain ⟨q23, hv24, hf⟩ := z_nn hf
          refine z_getN B hW (Or.inr zf_X2_11) rfl hg22 hv24 dX2_placeStation_87 ?_
          refine lv_iload_n hx hb dX2_placeStation_90 rfl (lv_at hl 3 rfl) ?_
          refine lv_iconst (v := (1 : Int32)) hx hb dX2_placeStation_91 (by decide) ?_
          refine lv_isub hx hb dX2_placeStation_92 ?_
          refine lv_aload_n hx hb dX2_placeStation_93 rfl (lv_at hl 4 rfl) ?_
          obtain ⟨hg25, hf⟩ := z_g hf
          obtain ⟨hg26, hf⟩ := z_g hf
          obtain ⟨hg27, hf⟩ := z_g hf
          obtain ⟨σ28, hs29, hf⟩ := z_l hf
          refine z_aast (by decide) B hW hg25 hg26 hg27 hs29 dX2_placeStation_94 (fun H locs hW => ?_)
          refine lv_iinc (v := (l2 + (-1 : Int32))) (lv' := [(2, .int (l2 + (-1 : Int32))), (4, .ref a13), (0, .ref l0), (1, .int l1), (3, .ref l3)]) hx hb dX2_placeStation_95 hl (k := 3) rfl rfl (by decide) rfl (fun ls hl => ?_)
          refine lv_goto (tgt := 38) hx hb dX2_placeStation_98 (by decide) ?_
          exact hk1 _ _ (Option.some.inj hf).symm hW (lv_sub hl [2, 3, 0, 4] rfl)
        · replace hf := z_in hc72 hf
          obtain ⟨w1, hf, ho30⟩ := z_x hf
          obtain rfl := hr1 _ ho30
          refine lv_goto (tgt := 101) hx hb dX2_placeStation_75 (by decide) ?_
          exact t_X2_placeStation_101 B hf hW (lv_sub hl [1, 4] rfl) 
set_option maxRecDepth 20000 in
set_option maxHeartbeats 4000000 in
theorem t_X2_placeStation_38 (B : z_B p s m args meth c D cA bs RX2 cX2_placeStation 5 (some (.object "TokenBus$Station"))) {r : Option Nat} {σ' : zSt} {l0 : Nat} {l1 : Int32} {l3 : Nat}  : ∀ (n : Nat) {σ : zSt} {l2 : Int32}, zloop (fun (t : zSt × Int32) => b_X2_placeStation_38 l0 l1 l3 t.1 t.2) n (σ, l2) = some (r, σ') → ∀ {H : Heap} {locs : List Loc} {ls : Array Slot}, z_Ok D cA bs s σ H locs → lv_has ls 5 [(0, .ref l0), (1, .int l1), (2, .int l2), (3, .ref l3)] → W p l e (zrm 1 0 0 21) s m args below meth c H locs 0 0 (MQ below (z_Qq D cA bs r σ') args s 0 0 (fun q => bs ≤ q)) (F0 m 38 ls []) := by
  intro n
  induction n with
  | zero => intro σ l2 hf; cases hf
  | succ n ih =>
    intro σ l2 hf H locs ls hW hl
    obtain ⟨o1, hb1, hf⟩ := z_lp hf
    refine tb_X2_placeStation_38 B hb1 hW hl  (fun σ l2 he H locs ls hW hl => ?_) (fun x he => ?_)
    · rcases hf with ⟨t, ht, hf⟩ | hf
      · rw [he] at ht
        cases ht
        exact ih hf hW hl
      · rw [he] at hf
        cases hf
    · rcases hf with ⟨t, ht, hf⟩ | hf
      · rw [he] at ht
        cases ht
      · rw [he] at hf
        exact Sum.inr.inj hf
set_option maxRecDepth 100000 in
def f_X2_placeStation (σ : zSt) (l0 : Nat) (l1 : Int32) : Option (Option Nat × zSt) :=
(if z_ob σ l0 2 then (zl (z_I σ l0 5) (fun x2 => (if x2 < 0 then
(f_X2_placeStation_18 σ)
else
(zc (z_R σ l0 0) none (fun q4 => (if z_ar σ q4 3 then (if x2 < (Int32.ofNat (z_ln σ q4)) then
(zc (z_R σ l0 0) none (fun q7 => (if z_ar σ q7 3 then (if z_ix x2 (z_ln σ q7) then (zl (z_R σ q7 x2.toNatClampNeg) (fun v11 => (zc v11
(some (none, σ))
(fun a13 => (if z_ob σ a13 6 then (zb (f_X6_reset σ a13 l1) (fun σ16 => (f_X2_placeStation_38 l0 l1 a13 σ16 x2))) else none))))) else none) else none)))
else
(f_X2_placeStation_18 σ)) else none)))))) else none)
set_option maxRecDepth 20000 in
set_option maxHeartbeats 4000000 in
theorem K_X2_placeStation {σ : zSt} {l0 : Nat} {l1 : Int32} {r : Option Nat} {σ' : zSt} (hf : f_X2_placeStation σ l0 l1 = some (r, σ')) : z_M l D cA bs yX2_placeStation cX2_placeStation 5 (some (.object "TokenBus$Station")) 1 21 0 0 [.ref l0, .int l1] σ (z_Qq D cA bs r σ') := by
  refine z_met (own := RX2) (lv := [(0, .ref l0), (1, .int l1)]) (by decide) rfl (Nat.le_of_ble_eq_true rfl) rfl (fun p e s m below meth c ls B hnm hW hl => ?_)
  have hx := B.1
  have hb := B.2.1
  have hown := B.2.2.2.1
  have hts := B.2.2.2.2.1
  unfold f_X2_placeStation at hf
  refine lv_aload_n hx hb dX2_placeStation_0 rfl (lv_at hl 0 rfl) ?_
  obtain ⟨hg1, hf⟩ := z_g hf
  refine z_getI B hW (Or.inl zf_X2_61) rfl hg1 dX2_placeStation_1 ?_
  obtain ⟨x2, hx3, hf⟩ := z_l hf
  rw [hx3]
  refine lv_istore_n (lv' := [(2, .int x2), (0, .ref l0), (1, .int l1)]) hx hb dX2_placeStation_4 rfl hl (by decide) rfl (fun ls hl => ?_)
  refine lv_iload_n hx hb dX2_placeStation_5 rfl (lv_at hl 0 rfl) ?_
  refine lv_if_lt (tgt := 18) hx hb dX2_placeStation_6 (by decide) (fun hc6 => ?_) (fun hc6 => ?_)
  · replace hf := z_ip hc6 hf
    exact t_X2_placeStation_18 B hf hW (lv_sub hl [] rfl) 
  · replace hf := z_in hc6 hf
    refine lv_iload_n hx hb dX2_placeStation_9 rfl (lv_at hl 0 rfl) ?_
    refine lv_aload_n hx hb dX2_placeStation_10 rfl (lv_at hl 1 rfl) ?_
    obtain ⟨q4, hv5, hf⟩ := z_nn hf
    refine z_getN B hW (Or.inr zf_X2_11) rfl hg1 hv5 dX2_placeStation_11 ?_
    obtain ⟨hg6, hf⟩ := z_g hf
    refine z_alen (t := 3) (by decide) B hW hg6 dX2_placeStation_14 ?_
    refine lv_icmp_lt (tgt := 20) hx hb dX2_placeStation_15 (by decide) (fun hc15 => ?_) (fun hc15 => ?_)
    · replace hf := z_ip hc15 hf
      refine lv_aload_n hx hb dX2_placeStation_20 rfl (lv_at hl 1 rfl) ?_
      obtain ⟨q7, hv8, hf⟩ := z_nn hf
      refine z_getN B hW (Or.inr zf_X2_11) rfl hg1 hv8 dX2_placeStation_21 ?_
      refine lv_iload_n hx hb dX2_placeStation_24 rfl (lv_at hl 0 rfl) ?_
      obtain ⟨hg9, hf⟩ := z_g hf
      obtain ⟨hg10, hf⟩ := z_g hf
      obtain ⟨v11, hv12, hf⟩ := z_l hf
      refine z_aald (by decide) B hW hg9 hg10 hv12 dX2_placeStation_25 ?_
      refine z_astore_n (lv' := [(3, va_rf v11), (2, .int x2), (0, .ref l0), (1, .int l1)]) hx hb dX2_placeStation_26 rfl hl (by decide) rfl (fun ls hl => ?_)
      refine z_aload_n hx hb dX2_placeStation_27 rfl (lv_at hl 0 rfl) ?_
      refine z_ifnonnull (tgt := 33) hx hb dX2_placeStation_28 (by decide) (fun hz17 => ?_) (fun a13 hz17 => ?_)
      · subst hz17
        replace hf := z_c0 hf
        refine lv_null hx hb dX2_placeStation_31 ?_
        obtain ⟨rfl, rfl⟩ := z_e2 hf
        exact z_rq (r := none) B hW dX2_placeStation_32 (Nat.le_of_ble_eq_true rfl) (Nat.le_of_ble_eq_true rfl)
      · subst hz17
        replace hf := z_c1 hf
        refine lv_aload_n hx hb dX2_placeStation_33 rfl (lv_at hl 0 rfl) ?_
        refine lv_iload_n hx hb dX2_placeStation_34 rfl (lv_at hl 3 rfl) ?_
        obtain ⟨hg14, hf⟩ := z_g hf
        obtain ⟨σ16, hq15, hf⟩ := z_b hf
        refine z_cv hW (z_runV (As := [.int l1]) (rest := []) B hW zv_X2_107 (K_X6_reset hq15) hg14 rfl rfl rfl (Nat.le_of_ble_eq_true rfl) hl.1 ⟨Nat.le_of_ble_eq_true rfl, Nat.le_of_ble_eq_true rfl⟩ dX2_placeStation_35 ⟨Nat.le_of_ble_eq_true rfl, Nat.le_of_ble_eq_true rfl⟩) (fun H locs hW => ?_)
        unfold f_X2_placeStation_38 at hf
        exact t_X2_placeStation_38 B  zN hf hW (lv_sub hl [2, 3, 1, 0] rfl)
    · replace hf := z_in hc15 hf
      exact t_X2_placeStation_18 B hf hW (lv_sub hl [] rfl) 
set_option maxRecDepth 100000 in
def f_X2_switchStation_31 (σ : zSt) : Option (zSt) :=
(some σ)
set_option maxRecDepth 20000 in
set_option maxHeartbeats 4000000 in
theorem t_X2_switchStation_31 (B : z_B p s m args meth c D cA bs RX2 cX2_switchStation 3 none)  {σ' : zSt} {σ : zSt} (hf : f_X2_switchStation_31 σ = some σ') {H : Heap} {locs : List Loc} {ls : Array Slot} (hW : z_Ok D cA bs s σ H locs) (hl : lv_has ls 3 [])  : W p l e (zrm 0 0 0 0) s m args below meth c H locs 0 0 (MQ below (z_Qv D cA bs σ') args s 0 0 (fun q => bs ≤ q)) (F0 m 31 ls []) := by
  have hx := B.1
  have hb := B.2.1
  have hown := B.2.2.2.1
  have hts := B.2.2.2.2.1
  unfold f_X2_switchStation_31 at hf
  obtain rfl := z_e1 hf
  exact z_rv B hW dX2_switchStation_31 (Nat.le_of_ble_eq_true rfl) (Nat.le_of_ble_eq_true rfl)
set_option maxRecDepth 100000 in
def f_X2_switchStation (σ : zSt) (l0 : Nat) (l1 : Nat) (l2 : Int32) : Option (zSt) :=
(if z_ob σ l1 6 then (if z_bl l2 then (zl (z_pI σ l1 1 l2) (fun σ3 => (if l2 = 0 then
(if z_ob σ3 l1 6 then (zl (z_pI σ3 l1 2 (0 : Int32)) (fun σ6 => (if z_ob σ6 l0 2 then (if z_ob σ6 l1 6 then (if (z_I σ6 l0 10) = (z_I σ6 l1 0) then
(zl (z_pI σ6 l0 10 (-1 : Int32)) (fun σ10 => (f_X2_switchStation_31 σ10)))
else
(f_X2_switchStation_31 σ6)) else none) else none))) else none)
else
(some σ3)))) else none) else none)
set_option maxRecDepth 20000 in
set_option maxHeartbeats 4000000 in
theorem K_X2_switchStation {σ : zSt} {l0 : Nat} {l1 : Nat} {l2 : Int32}  {σ' : zSt} (hf : f_X2_switchStation σ l0 l1 l2 = some σ') : z_M l D cA bs yX2_switchStation cX2_switchStation 3 none 0 0 0 0 [.ref l0, .ref l1, .int l2] σ (z_Qv D cA bs σ') := by
  refine z_met (own := RX2) (lv := [(0, .ref l0), (1, .ref l1), (2, .int l2)]) (by decide) rfl (Nat.le_of_ble_eq_true rfl) rfl (fun p e s m below meth c ls B hnm hW hl => ?_)
  have hx := B.1
  have hb := B.2.1
  have hown := B.2.2.2.1
  have hts := B.2.2.2.2.1
  unfold f_X2_switchStation at hf
  refine lv_aload_n hx hb dX2_switchStation_0 rfl (lv_at hl 1 rfl) ?_
  refine lv_iload_n hx hb dX2_switchStation_1 rfl (lv_at hl 2 rfl) ?_
  obtain ⟨hg1, hf⟩ := z_g hf
  obtain ⟨hg2, hf⟩ := z_g hf
  obtain ⟨σ3, hs4, hf⟩ := z_l hf
  refine z_putI B hW zf_X2_111 hg1 hg2 hs4 dX2_switchStation_2 (fun H locs hW => ?_)
  refine lv_iload_n hx hb dX2_switchStation_5 rfl (lv_at hl 2 rfl) ?_
  refine lv_if_eq (tgt := 10) hx hb dX2_switchStation_6 (by decide) (fun hc6 => ?_) (fun hc6 => ?_)
  · replace hf := z_ip hc6 hf
    refine lv_aload_n hx hb dX2_switchStation_10 rfl (lv_at hl 1 rfl) ?_
    refine lv_iconst (v := (0 : Int32)) hx hb dX2_switchStation_11 (by decide) ?_
    obtain ⟨hg5, hf⟩ := z_g hf
    obtain ⟨σ6, hs7, hf⟩ := z_l hf
    refine z_putI B hW zf_X2_115 hg5 (by decide) hs7 dX2_switchStation_12 (fun H locs hW => ?_)
    refine lv_aload_n hx hb dX2_switchStation_15 rfl (lv_at hl 0 rfl) ?_
    obtain ⟨hg8, hf⟩ := z_g hf
    refine z_getI B hW (Or.inl zf_X2_57) rfl hg8 dX2_switchStation_16 ?_
    refine lv_aload_n hx hb dX2_switchStation_19 rfl (lv_at hl 1 rfl) ?_
    obtain ⟨hg9, hf⟩ := z_g hf
    refine z_getI B hW (Or.inl zf_X2_104) rfl hg9 dX2_switchStation_20 ?_
    refine lv_icmp_ne (tgt := 31) hx hb dX2_switchStation_23 (by decide) (fun hc23 => ?_) (fun hc23 => ?_)
    · replace hf := z_in hc23 hf
      exact t_X2_switchStation_31 B hf hW (lv_sub hl [] rfl) 
    · replace hf := z_ip hc23 hf
      refine lv_aload_n hx hb dX2_switchStation_26 rfl (lv_at hl 0 rfl) ?_
      refine lv_iconst (v := (-1 : Int32)) hx hb dX2_switchStation_27 (by decide) ?_
      obtain ⟨σ10, hs11, hf⟩ := z_l hf
      refine z_putI B hW zf_X2_57 hg8 rfl hs11 dX2_switchStation_28 (fun H locs hW => ?_)
      exact t_X2_switchStation_31 B hf hW (lv_sub hl [] rfl) 
  · replace hf := z_in hc6 hf
    obtain rfl := z_e1 hf
    exact z_rv B hW dX2_switchStation_9 (Nat.le_of_ble_eq_true rfl) (Nat.le_of_ble_eq_true rfl)
end GEN
