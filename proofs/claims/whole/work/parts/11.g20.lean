section GEN
variable {p : Program} {l : Launch} {e : Env} {s : State} {m : MethodId} {args : Array Value} {below : List Frame} {meth : Method} {c : Code} {D : va_G} {cA : Nat → ClassId} {bs : Nat}
set_option maxRecDepth 100000 in
def f_X10_visit_51 (σ : zSt) (s0 : Int32) : Option (Int32 × zSt) :=
(some (s0, σ))
set_option maxRecDepth 20000 in
set_option maxHeartbeats 4000000 in
theorem t_X10_visit_51 (B : z_B p s m args meth c D cA bs RX10 cX10_visit 3 (some .int)) {r : Int32} {σ' : zSt} {σ : zSt} {s0 : Int32} (hf : f_X10_visit_51 σ s0 = some (r, σ')) {H : Heap} {locs : List Loc} {ls : Array Slot} (hW : z_Ok D cA bs s σ H locs) (hl : lv_has ls 3 [])  : W p l e (zrm 1 0 0 25) s m args below meth c H locs 0 0 (MQ below (z_Qi D cA bs r σ') args s 0 0 (fun q => bs ≤ q)) (F0 m 51 ls [.int s0]) := by
  have hx := B.1
  have hb := B.2.1
  have hown := B.2.2.2.1
  have hts := B.2.2.2.2.1
  unfold f_X10_visit_51 at hf
  obtain ⟨rfl, rfl⟩ := z_e2 hf
  exact z_ri B hW dX10_visit_51 (Nat.le_of_ble_eq_true rfl) (Nat.le_of_ble_eq_true rfl)
set_option maxRecDepth 100000 in
def f_X10_visit (σ : zSt) (l0 : Nat) (l1 : Int32) (l2 : Int32) : Option (Int32 × zSt) :=
(if z_ob σ l0 9 then (zc (z_R σ l0 0) none (fun q2 => (if z_ar σ q2 0 then (if z_ix (7 : Int32) (z_ln σ q2) then (zb (f_X10_in σ l1.toInt64 (0 : Int64) ((z_I σ q2 (7 : Int32).toNatClampNeg).toInt64 - (1 : Int64))) (fun r7 => (zb (f_X10_in σ l2.toInt64 (0 : Int64) (3 : Int64)) (fun r9 => (zb2 (f_X10_goes σ l0 r7 r9 (1 : Int32)) (fun r11 σ12 => (if r11 = 0 then
(f_X10_visit_51 σ12 (0 : Int32))
else
(if z_ob σ12 l0 9 then (zc (z_R σ12 l0 0) none (fun q14 => (if z_ar σ12 q14 0 then (if z_ix (((782 : Int32) + ((4 : Int32) * l1)) + l2) (z_ln σ12 q14) then (f_X10_visit_51 σ12 (z_I σ12 q14 (((782 : Int32) + ((4 : Int32) * l1)) + l2).toNatClampNeg)) else none) else none))) else none)))))))) else none) else none))) else none)
set_option maxRecDepth 20000 in
set_option maxHeartbeats 4000000 in
theorem K_X10_visit {σ : zSt} {l0 : Nat} {l1 : Int32} {l2 : Int32} {r : Int32} {σ' : zSt} (hf : f_X10_visit σ l0 l1 l2 = some (r, σ')) : z_M l D cA bs yX10_visit cX10_visit 3 (some .int) 1 25 0 0 [.ref l0, .int l1, .int l2] σ (z_Qi D cA bs r σ') := by
  refine z_met (own := RX10) (lv := [(0, .ref l0), (1, .int l1), (2, .int l2)]) (by decide) rfl (Nat.le_of_ble_eq_true rfl) rfl (fun p e s m below meth c ls B hnm hW hl => ?_)
  have hx := B.1
  have hb := B.2.1
  have hown := B.2.2.2.1
  have hts := B.2.2.2.2.1
  unfold f_X10_visit at hf
  refine lv_aload_n hx hb dX10_visit_0 rfl (lv_at hl 0 rfl) ?_
  refine lv_iload_n hx hb dX10_visit_1 rfl (lv_at hl 1 rfl) ?_
  refine lv_i2l (v := l1.toInt64) hx hb dX10_visit_2 rfl ?_
  refine lv_lconst (v := (0 : Int64)) hx hb dX10_visit_3 (by decide) ?_
  refine lv_aload_n hx hb dX10_visit_4 rfl (lv_at hl 0 rfl) ?_
  obtain ⟨hg1, hf⟩ := z_g hf
  obtain ⟨q2, hv3, hf⟩ := z_nn hf
  refine z_getN B hW (Or.inr zf_X10_7) rfl hg1 hv3 dX10_visit_5 ?_
  refine lv_bipush (v := (7 : Int32)) hx hb dX10_visit_8 (by decide) ?_
  obtain ⟨hg4, hf⟩ := z_g hf
  obtain ⟨hg5, hf⟩ := z_g hf
  refine z_ald B hW hg4 hg5 dX10_visit_10 ?_
  refine lv_i2l (v := (z_I σ q2 (7 : Int32).toNatClampNeg).toInt64) hx hb dX10_visit_11 rfl ?_
  refine lv_lconst (v := (1 : Int64)) hx hb dX10_visit_12 (by decide) ?_
  refine lv_lsub hx hb dX10_visit_13 ?_
  obtain ⟨r7, hq6, hf⟩ := z_b hf
  refine z_ci hW (z_runS (As := [.long l1.toInt64, .long (0 : Int64), .long ((z_I σ q2 (7 : Int32).toNatClampNeg).toInt64 - (1 : Int64))]) (rest := [.ref l0]) B hW zv_X10_35 (K_X10_in hq6) rfl rfl (Nat.le_of_ble_eq_true rfl) hl.1 ⟨Nat.le_of_ble_eq_true rfl, Nat.le_of_ble_eq_true rfl⟩ dX10_visit_14 ⟨Nat.le_of_ble_eq_true rfl, Nat.le_of_ble_eq_true rfl⟩) (fun H locs hW => ?_)
  refine lv_iload_n hx hb dX10_visit_17 rfl (lv_at hl 2 rfl) ?_
  refine lv_i2l (v := l2.toInt64) hx hb dX10_visit_18 rfl ?_
  refine lv_lconst (v := (0 : Int64)) hx hb dX10_visit_19 (by decide) ?_
  refine lv_ldc2 hx hb hown (hts _ zk_X10_141) dX10_visit_20 ?_
  obtain ⟨r9, hq8, hf⟩ := z_b hf
  refine z_ci hW (z_runS (As := [.long l2.toInt64, .long (0 : Int64), .long (3 : Int64)]) (rest := [.int r7, .ref l0]) B hW zv_X10_35 (K_X10_in hq8) rfl rfl (Nat.le_of_ble_eq_true rfl) hl.1 ⟨Nat.le_of_ble_eq_true rfl, Nat.le_of_ble_eq_true rfl⟩ dX10_visit_23 ⟨Nat.le_of_ble_eq_true rfl, Nat.le_of_ble_eq_true rfl⟩) (fun H locs hW => ?_)
  refine lv_iconst (v := (1 : Int32)) hx hb dX10_visit_26 (by decide) ?_
  obtain ⟨r11, σ12, hq10, hf⟩ := z_b2 hf
  refine z_ci hW (z_runV (As := [.int r7, .int r9, .int (1 : Int32)]) (rest := []) B hW zv_X10_53 (K_X10_goes hq10) hg1 rfl rfl rfl (Nat.le_of_ble_eq_true rfl) hl.1 ⟨Nat.le_of_ble_eq_true rfl, Nat.le_of_ble_eq_true rfl⟩ dX10_visit_27 ⟨Nat.le_of_ble_eq_true rfl, Nat.le_of_ble_eq_true rfl⟩) (fun H locs hW => ?_)
  refine lv_if_eq (tgt := 50) hx hb dX10_visit_30 (by decide) (fun hc30 => ?_) (fun hc30 => ?_)
  · replace hf := z_ip hc30 hf
    refine lv_iconst (v := (0 : Int32)) hx hb dX10_visit_50 (by decide) ?_
    exact t_X10_visit_51 B hf hW (lv_sub hl [] rfl) 
  · replace hf := z_in hc30 hf
    refine lv_aload_n hx hb dX10_visit_33 rfl (lv_at hl 0 rfl) ?_
    obtain ⟨hg13, hf⟩ := z_g hf
    obtain ⟨q14, hv15, hf⟩ := z_nn hf
    refine z_getN B hW (Or.inr zf_X10_7) rfl hg13 hv15 dX10_visit_34 ?_
    refine lv_sipush (v := (782 : Int32)) hx hb dX10_visit_37 (by decide) ?_
    refine lv_iconst (v := (4 : Int32)) hx hb dX10_visit_40 (by decide) ?_
    refine lv_iload_n hx hb dX10_visit_41 rfl (lv_at hl 1 rfl) ?_
    refine lv_imul hx hb dX10_visit_42 ?_
    refine lv_iadd hx hb dX10_visit_43 ?_
    refine lv_iload_n hx hb dX10_visit_44 rfl (lv_at hl 2 rfl) ?_
    refine lv_iadd hx hb dX10_visit_45 ?_
    obtain ⟨hg16, hf⟩ := z_g hf
    obtain ⟨hg17, hf⟩ := z_g hf
    refine z_ald B hW hg16 hg17 dX10_visit_46 ?_
    refine lv_goto (tgt := 51) hx hb dX10_visit_47 (by decide) ?_
    exact t_X10_visit_51 B hf hW (lv_sub hl [] rfl) 
set_option maxRecDepth 100000 in
def f_X10_greatestRotation (σ : zSt) (l0 : Nat) : Option (Int32 × zSt) :=
(if z_ob σ l0 9 then (zl (z_pI σ l0 4 (0 : Int32)) (fun σ2 => (if z_ob σ2 l0 9 then (zc (z_R σ2 l0 0) none (fun q5 => (if z_ar σ2 q5 0 then (if z_ix (8 : Int32) (z_ln σ2 q5) then (some ((z_I σ2 q5 (8 : Int32).toNatClampNeg), σ2)) else none) else none))) else none))) else none)
set_option maxRecDepth 20000 in
set_option maxHeartbeats 4000000 in
theorem K_X10_greatestRotation {σ : zSt} {l0 : Nat} {r : Int32} {σ' : zSt} (hf : f_X10_greatestRotation σ l0 = some (r, σ')) : z_M l D cA bs yX10_greatestRotation cX10_greatestRotation 1 (some .int) 0 0 0 0 [.ref l0] σ (z_Qi D cA bs r σ') := by
  refine z_met (own := RX10) (lv := [(0, .ref l0)]) (by decide) rfl (Nat.le_of_ble_eq_true rfl) rfl (fun p e s m below meth c ls B hnm hW hl => ?_)
  have hx := B.1
  have hb := B.2.1
  have hown := B.2.2.2.1
  have hts := B.2.2.2.2.1
  unfold f_X10_greatestRotation at hf
  refine lv_aload_n hx hb dX10_greatestRotation_0 rfl (lv_at hl 0 rfl) ?_
  refine lv_iconst (v := (0 : Int32)) hx hb dX10_greatestRotation_1 (by decide) ?_
  obtain ⟨hg1, hf⟩ := z_g hf
  obtain ⟨σ2, hs3, hf⟩ := z_l hf
  refine z_putI B hW zf_X10_22 hg1 rfl hs3 dX10_greatestRotation_2 (fun H locs hW => ?_)
  refine lv_aload_n hx hb dX10_greatestRotation_5 rfl (lv_at hl 0 rfl) ?_
  obtain ⟨hg4, hf⟩ := z_g hf
  obtain ⟨q5, hv6, hf⟩ := z_nn hf
  refine z_getN B hW (Or.inr zf_X10_7) rfl hg4 hv6 dX10_greatestRotation_6 ?_
  refine lv_bipush (v := (8 : Int32)) hx hb dX10_greatestRotation_9 (by decide) ?_
  obtain ⟨hg7, hf⟩ := z_g hf
  obtain ⟨hg8, hf⟩ := z_g hf
  refine z_ald B hW hg7 hg8 dX10_greatestRotation_11 ?_
  obtain ⟨rfl, rfl⟩ := z_e2 hf
  exact z_ri B hW dX10_greatestRotation_12 (Nat.le_of_ble_eq_true rfl) (Nat.le_of_ble_eq_true rfl)
set_option maxRecDepth 100000 in
def f_X10_waits_101 (σ : zSt) (s0 : UInt64) : Option (UInt64 × zSt) :=
(some (s0, σ))
set_option maxRecDepth 20000 in
set_option maxHeartbeats 4000000 in
theorem t_X10_waits_101 (B : z_B p s m args meth c D cA bs RX10 cX10_waits 7 (some .double)) {r : UInt64} {σ' : zSt} {σ : zSt} {s0 : UInt64} (hf : f_X10_waits_101 σ s0 = some (r, σ')) {H : Heap} {locs : List Loc} {ls : Array Slot} (hW : z_Ok D cA bs s σ H locs) (hl : lv_has ls 7 [])  : W p l e (zrm 2 0 0 43) s m args below meth c H locs 0 0 (MQ below (z_Qd D cA bs r σ') args s 0 0 (fun q => bs ≤ q)) (F0 m 101 ls [.double s0]) := by
  have hx := B.1
  have hb := B.2.1
  have hown := B.2.2.2.1
  have hts := B.2.2.2.2.1
  unfold f_X10_waits_101 at hf
  obtain ⟨rfl, rfl⟩ := z_e2 hf
  exact z_rd B hW dX10_waits_101 (Nat.le_of_ble_eq_true rfl) (Nat.le_of_ble_eq_true rfl)
set_option maxRecDepth 100000 in
def f_X10_waits_59 (σ : zSt) (l0 : Nat) (l1 : Int32) (l2 : Int32) (l5 : Int32) (s0 : Int64) (s1 : Int64) : Option ((Int32 × Int64 × Int32) ⊕ (UInt64 × zSt)) :=
(zl (s1 + s0) (fun x1 => (some (.inl (l2, x1, (l5 + (1 : Int32)))))))
set_option maxRecDepth 20000 in
set_option maxHeartbeats 4000000 in
theorem t_X10_waits_59 (B : z_B p s m args meth c D cA bs RX10 cX10_waits 7 (some .double)) {r : UInt64} {σ' : zSt} {o1 : (Int32 × Int64 × Int32) ⊕ (UInt64 × zSt)} {σ : zSt} {l0 : Nat} {l1 : Int32} {l2 : Int32} {l5 : Int32} {s0 : Int64} {s1 : Int64} (hf : f_X10_waits_59 σ l0 l1 l2 l5 s0 s1 = some o1) {H : Heap} {locs : List Loc} {ls : Array Slot} (hW : z_Ok D cA bs s σ H locs) (hl : lv_has ls 7 [(0, .ref l0), (1, .int l1), (2, .int l2), (5, .int l5)]) (hk1 : ∀ (l2 : Int32) (l3 : Int64) (l5 : Int32), o1 = .inl (l2, l3, l5) → ∀ {H : Heap} {locs : List Loc} {ls : Array Slot}, z_Ok D cA bs s σ H locs → lv_has ls 7 [(0, .ref l0), (1, .int l1), (2, .int l2), (3, .long l3), (5, .int l5)] → W p l e (zrm 2 0 0 43) s m args below meth c H locs 0 0 (MQ below (z_Qd D cA bs r σ') args s 0 0 (fun q => bs ≤ q)) (F0 m 12 ls [])) (hr1 : ∀ x, o1 = .inr x → x = (r, σ')) : W p l e (zrm 2 0 0 43) s m args below meth c H locs 0 0 (MQ below (z_Qd D cA bs r σ') args s 0 0 (fun q => bs ≤ q)) (F0 m 59 ls [.long s0, .long s1]) := by
  have hx := B.1
  have hb := B.2.1
  have hown := B.2.2.2.1
  have hts := B.2.2.2.2.1
  unfold f_X10_waits_59 at hf
  refine lv_ladd hx hb dX10_waits_59 ?_
  obtain ⟨x1, hx2, hf⟩ := z_l hf
  rw [hx2]
  refine lv_lstore_n (lv' := [(3, .long x1), (0, .ref l0), (1, .int l1), (2, .int l2), (5, .int l5)]) hx hb dX10_waits_60 rfl hl (by decide) rfl (fun ls hl => ?_)
  refine lv_iinc (v := (l5 + (1 : Int32))) (lv' := [(5, .int (l5 + (1 : Int32))), (3, .long x1), (0, .ref l0), (1, .int l1), (2, .int l2)]) hx hb dX10_waits_61 hl (k := 4) rfl rfl (by decide) rfl (fun ls hl => ?_)
  refine lv_goto (tgt := 12) hx hb dX10_waits_64 (by decide) ?_
  exact hk1 _ _ _ (Option.some.inj hf).symm hW (lv_sub hl [2, 3, 4, 1, 0] rfl)
set_option maxRecDepth 100000 in
def f_X10_waits_44 (σ : zSt) (l0 : Nat) (l1 : Int32) (l3 : Int64) (l5 : Int32) (l6 : Int32) (s0 : Int32) : Option ((Int32 × Int64 × Int32) ⊕ (UInt64 × zSt)) :=
(if l6 = (-1 : Int32) then
(f_X10_waits_59 σ l0 l1 s0 l5 (0 : Int64) l3)
else
(f_X10_waits_59 σ l0 l1 s0 l5 l6.toInt64 l3))
set_option maxRecDepth 20000 in
set_option maxHeartbeats 4000000 in
theorem t_X10_waits_44 (B : z_B p s m args meth c D cA bs RX10 cX10_waits 7 (some .double)) {r : UInt64} {σ' : zSt} {o1 : (Int32 × Int64 × Int32) ⊕ (UInt64 × zSt)} {σ : zSt} {l0 : Nat} {l1 : Int32} {l3 : Int64} {l5 : Int32} {l6 : Int32} {s0 : Int32} (hf : f_X10_waits_44 σ l0 l1 l3 l5 l6 s0 = some o1) {H : Heap} {locs : List Loc} {ls : Array Slot} (hW : z_Ok D cA bs s σ H locs) (hl : lv_has ls 7 [(0, .ref l0), (1, .int l1), (3, .long l3), (5, .int l5), (6, .int l6)]) (hk1 : ∀ (l2 : Int32) (l3 : Int64) (l5 : Int32), o1 = .inl (l2, l3, l5) → ∀ {H : Heap} {locs : List Loc} {ls : Array Slot}, z_Ok D cA bs s σ H locs → lv_has ls 7 [(0, .ref l0), (1, .int l1), (2, .int l2), (3, .long l3), (5, .int l5)] → W p l e (zrm 2 0 0 43) s m args below meth c H locs 0 0 (MQ below (z_Qd D cA bs r σ') args s 0 0 (fun q => bs ≤ q)) (F0 m 12 ls [])) (hr1 : ∀ x, o1 = .inr x → x = (r, σ')) : W p l e (zrm 2 0 0 43) s m args below meth c H locs 0 0 (MQ below (z_Qd D cA bs r σ') args s 0 0 (fun q => bs ≤ q)) (F0 m 44 ls [.int s0]) := by
  have hx := B.1
  have hb := B.2.1
  have hown := B.2.2.2.1
  have hts := B.2.2.2.2.1
  unfold f_X10_waits_44 at hf
  refine lv_istore_n (lv' := [(2, .int s0), (0, .ref l0), (1, .int l1), (3, .long l3), (5, .int l5), (6, .int l6)]) hx hb dX10_waits_44 rfl hl (by decide) rfl (fun ls hl => ?_)
  refine lv_lload_n hx hb dX10_waits_45 rfl (lv_at hl 3 rfl) ?_
  refine lv_iload hx hb dX10_waits_46 (lv_at hl 5 rfl) ?_
  refine lv_iconst (v := (-1 : Int32)) hx hb dX10_waits_48 (by decide) ?_
  refine lv_icmp_ne (tgt := 56) hx hb dX10_waits_49 (by decide) (fun hc49 => ?_) (fun hc49 => ?_)
  · replace hf := z_in hc49 hf
    refine lv_iload hx hb dX10_waits_56 (lv_at hl 5 rfl) ?_
    refine lv_i2l (v := l6.toInt64) hx hb dX10_waits_58 rfl ?_
    exact t_X10_waits_59 B hf hW (lv_sub hl [1, 2, 0, 4] rfl) hk1 hr1
  · replace hf := z_ip hc49 hf
    refine lv_lconst (v := (0 : Int64)) hx hb dX10_waits_52 (by decide) ?_
    refine lv_goto (tgt := 59) hx hb dX10_waits_53 (by decide) ?_
    exact t_X10_waits_59 B hf hW (lv_sub hl [1, 2, 0, 4] rfl) hk1 hr1
set_option maxRecDepth 100000 in
def b_X10_waits_12 (σ : zSt) (l0 : Nat) (l1 : Int32) (l2 : Int32) (l3 : Int64) (l5 : Int32) : Option ((Int32 × Int64 × Int32) ⊕ (UInt64 × zSt)) :=
(if z_ob σ l0 9 then (zc (z_R σ l0 0) none (fun q2 => (if z_ar σ q2 0 then (if z_ix (5 : Int32) (z_ln σ q2) then (if (z_I σ q2 (5 : Int32).toNatClampNeg) ≤ l5 then
(zex (if l1 = 0 then
(zc (z_R σ l0 0) none (fun q6 => (if z_ar σ q6 0 then (if z_ix (10 : Int32) (z_ln σ q6) then (if (z_I σ q6 (10 : Int32).toNatClampNeg) = 0 then
(f_X10_waits_101 σ FP.dconst0)
else
(zc (z_R σ l0 0) none (fun q10 => (if z_ar σ q10 0 then (if z_ix (10 : Int32) (z_ln σ q10) then (if vf_n64b (FP.ddiv (FP.l2d l3) (FP.i2d (z_I σ q10 (10 : Int32).toNatClampNeg))) then (f_X10_waits_101 σ (FP.ddiv (FP.l2d l3) (FP.i2d (z_I σ q10 (10 : Int32).toNatClampNeg)))) else none) else none) else none)))) else none) else none)))
else
(f_X10_waits_101 σ (FP.i2d l2))))
else
(zb (f_X10_ofMessage σ l0 l5 (4 : Int32)) (fun r17 => (if r17 ≤ l2 then
(f_X10_waits_44 σ l0 l1 l3 l5 r17 l2)
else
(f_X10_waits_44 σ l0 l1 l3 l5 r17 r17))))) else none) else none))) else none)
set_option maxRecDepth 100000 in
def f_X10_waits_12 (σ : zSt) (l0 : Nat) (l1 : Int32) (l2 : Int32) (l3 : Int64) (l5 : Int32) : Option (UInt64 × zSt) := zloop (fun (t : Int32 × Int64 × Int32) => b_X10_waits_12 σ l0 l1 t.1 t.2.1 t.2.2) zN (l2, l3, l5)
set_option maxRecDepth 20000 in
set_option maxHeartbeats 4000000 in
theorem tb_X10_waits_12 (B : z_B p s m args meth c D cA bs RX10 cX10_waits 7 (some .double)) {r : UInt64} {σ' : zSt} {o1 : (Int32 × Int64 × Int32) ⊕ (UInt64 × zSt)} {σ : zSt} {l0 : Nat} {l1 : Int32} {l2 : Int32} {l3 : Int64} {l5 : Int32} (hf : b_X10_waits_12 σ l0 l1 l2 l3 l5 = some o1) {H : Heap} {locs : List Loc} {ls : Array Slot} (hW : z_Ok D cA bs s σ H locs) (hl : lv_has ls 7 [(0, .ref l0), (1, .int l1), (2, .int l2), (3, .long l3), (5, .int l5)]) (hk1 : ∀ (l2 : Int32) (l3 : Int64) (l5 : Int32), o1 = .inl (l2, l3, l5) → ∀ {H : Heap} {locs : List Loc} {ls : Array Slot}, z_Ok D cA bs s σ H locs → lv_has ls 7 [(0, .ref l0), (1, .int l1), (2, .int l2), (3, .long l3), (5, .int l5)] → W p l e (zrm 2 0 0 43) s m args below meth c H locs 0 0 (MQ below (z_Qd D cA bs r σ') args s 0 0 (fun q => bs ≤ q)) (F0 m 12 ls [])) (hr1 : ∀ x, o1 = .inr x → x = (r, σ')) : W p l e (zrm 2 0 0 43) s m args below meth c H locs 0 0 (MQ below (z_Qd D cA bs r σ') args s 0 0 (fun q => bs ≤ q)) (F0 m 12 ls []) := by
  have hx := B.1
  have hb := B.2.1
  have hown := B.2.2.2.1
  have hts := B.2.2.2.2.1
  unfold b_X10_waits_12 at hf
  refine lv_iload hx hb dX10_waits_12 (lv_at hl 4 rfl) ?_
  refine lv_aload_n hx hb dX10_waits_14 rfl (lv_at hl 0 rfl) ?_
  obtain ⟨hg1, hf⟩ := z_g hf
  obtain ⟨q2, hv3, hf⟩ := z_nn hf
  refine z_getN B hW (Or.inr zf_X10_7) rfl hg1 hv3 dX10_waits_15 ?_
  refine lv_iconst (v := (5 : Int32)) hx hb dX10_waits_18 (by decide) ?_
  obtain ⟨hg4, hf⟩ := z_g hf
  obtain ⟨hg5, hf⟩ := z_g hf
  refine z_ald B hW hg4 hg5 dX10_waits_19 ?_
  refine lv_icmp_ge (tgt := 67) hx hb dX10_waits_20 (by decide) (fun hc20 => ?_) (fun hc20 => ?_)
  · replace hf := z_ip hc20 hf
    obtain ⟨w1, hf, ho15⟩ := z_x hf
    obtain rfl := hr1 _ ho15
    refine lv_iload_n hx hb dX10_waits_67 rfl (lv_at hl 1 rfl) ?_
    refine lv_if_eq (tgt := 76) hx hb dX10_waits_68 (by decide) (fun hc68 => ?_) (fun hc68 => ?_)
    · replace hf := z_ip hc68 hf
      refine lv_aload_n hx hb dX10_waits_76 rfl (lv_at hl 0 rfl) ?_
      obtain ⟨q6, hv7, hf⟩ := z_nn hf
      refine z_getN B hW (Or.inr zf_X10_7) rfl hg1 hv7 dX10_waits_77 ?_
      refine lv_bipush (v := (10 : Int32)) hx hb dX10_waits_80 (by decide) ?_
      obtain ⟨hg8, hf⟩ := z_g hf
      obtain ⟨hg9, hf⟩ := z_g hf
      refine z_ald B hW hg8 hg9 dX10_waits_82 ?_
      refine lv_if_ne (tgt := 90) hx hb dX10_waits_83 (by decide) (fun hc83 => ?_) (fun hc83 => ?_)
      · replace hf := z_in hc83 hf
        refine lv_lload_n hx hb dX10_waits_90 rfl (lv_at hl 3 rfl) ?_
        refine lv_l2d hx hb dX10_waits_91 ?_
        refine lv_aload_n hx hb dX10_waits_92 rfl (lv_at hl 0 rfl) ?_
        obtain ⟨q10, hv11, hf⟩ := z_nn hf
        refine z_getN B hW (Or.inr zf_X10_7) rfl hg1 hv11 dX10_waits_93 ?_
        refine lv_bipush (v := (10 : Int32)) hx hb dX10_waits_96 (by decide) ?_
        obtain ⟨hg12, hf⟩ := z_g hf
        obtain ⟨hg13, hf⟩ := z_g hf
        refine z_ald B hW hg12 hg13 dX10_waits_98 ?_
        refine lv_i2d hx hb dX10_waits_99 ?_
        obtain ⟨hg14, hf⟩ := z_g hf
        refine lv_ddiv hx hb dX10_waits_100 (vf_n64b_of hg14) ?_
        exact t_X10_waits_101 B hf hW (lv_sub hl [] rfl) 
      · replace hf := z_ip hc83 hf
        refine lv_dconst0 hx hb dX10_waits_86 ?_
        refine lv_goto (tgt := 101) hx hb dX10_waits_87 (by decide) ?_
        exact t_X10_waits_101 B hf hW (lv_sub hl [] rfl) 
    · replace hf := z_in hc68 hf
      refine lv_iload_n hx hb dX10_waits_71 rfl (lv_at hl 2 rfl) ?_
      refine lv_i2d hx hb dX10_waits_72 ?_
      refine lv_goto (tgt := 101) hx hb dX10_waits_73 (by decide) ?_
      exact t_X10_waits_101 B hf hW (lv_sub hl [] rfl) 
  · replace hf := z_in hc20 hf
    refine lv_aload_n hx hb dX10_waits_23 rfl (lv_at hl 0 rfl) ?_
    refine lv_iload hx hb dX10_waits_24 (lv_at hl 4 rfl) ?_
    refine lv_iconst (v := (4 : Int32)) hx hb dX10_waits_26 (by decide) ?_
    obtain ⟨r17, hq16, hf⟩ := z_b hf
    refine z_ci hW (z_runV (As := [.int l5, .int (4 : Int32)]) (rest := []) B hW zv_X10_80 (K_X10_ofMessage hq16) hg1 rfl rfl rfl (Nat.le_of_ble_eq_true rfl) hl.1 ⟨Nat.le_of_ble_eq_true rfl, Nat.le_of_ble_eq_true rfl⟩ dX10_waits_27 ⟨Nat.le_of_ble_eq_true rfl, Nat.le_of_ble_eq_true rfl⟩) (fun H locs hW => ?_)
    refine lv_istore (lv' := [(6, .int r17), (0, .ref l0), (1, .int l1), (2, .int l2), (3, .long l3), (5, .int l5)]) hx hb dX10_waits_30 hl (by decide) rfl (fun ls hl => ?_)
    refine lv_iload hx hb dX10_waits_32 (lv_at hl 0 rfl) ?_
    refine lv_iload_n hx hb dX10_waits_34 rfl (lv_at hl 3 rfl) ?_
    refine lv_icmp_le (tgt := 43) hx hb dX10_waits_35 (by decide) (fun hc35 => ?_) (fun hc35 => ?_)
    · replace hf := z_ip hc35 hf
      refine lv_iload_n hx hb dX10_waits_43 rfl (lv_at hl 3 rfl) ?_
      exact t_X10_waits_44 B hf hW (lv_sub hl [1, 2, 4, 5, 0] rfl) hk1 hr1
    · replace hf := z_in hc35 hf
      refine lv_iload hx hb dX10_waits_38 (lv_at hl 0 rfl) ?_
      refine lv_goto (tgt := 44) hx hb dX10_waits_40 (by decide) ?_
      exact t_X10_waits_44 B hf hW (lv_sub hl [1, 2, 4, 5, 0] rfl) hk1 hr1
set_option maxRecDepth 20000 in
set_option maxHeartbeats 4000000 in
theorem t_X10_waits_12 (B : z_B p s m args meth c D cA bs RX10 cX10_waits 7 (some .double)) {r : UInt64} {σ' : zSt} {σ : zSt} {l0 : Nat} {l1 : Int32}  : ∀ (n : Nat) {l2 : Int32} {l3 : Int64} {l5 : Int32}, zloop (fun (t : Int32 × Int64 × Int32) => b_X10_waits_12 σ l0 l1 t.1 t.2.1 t.2.2) n (l2, l3, l5) = some (r, σ') → ∀ {H : Heap} {locs : List Loc} {ls : Array Slot}, z_Ok D cA bs s σ H locs → lv_has ls 7 [(0, .ref l0), (1, .int l1), (2, .int l2), (3, .long l3), (5, .int l5)] → W p l e (zrm 2 0 0 43) s m args below meth c H locs 0 0 (MQ below (z_Qd D cA bs r σ') args s 0 0 (fun q => bs ≤ q)) (F0 m 12 ls []) := by
  intro n
  induction n with
  | zero => intro l2 l3 l5 hf; cases hf
  | succ n ih =>
    intro l2 l3 l5 hf H locs ls hW hl
    obtain ⟨o1, hb1, hf⟩ := z_lp hf
    refine tb_X10_waits_12 B hb1 hW hl  (fun l2 l3 l5 he H locs ls hW hl => ?_) (fun x he => ?_)
    · rcases hf with ⟨t, ht, hf⟩ | hf
      · rw [he] at ht
        cases ht
        exact ih hf hW hl
      · rw [he] at hf
        cases hf
    · rcases hf with ⟨t, ht, hf⟩ | hf
      · rw [he] at ht
        cases ht
      · rw [he] at hf
        exact Sum.inr.inj hf
set_option maxRecDepth 100000 in
def f_X10_waits (σ : zSt) (l0 : Nat) (l1 : Int32) : Option (UInt64 × zSt) :=
(if z_ob σ l0 9 then (zl (z_pI σ l0 4 (0 : Int32)) (fun σ2 => (f_X10_waits_12 σ2 l0 l1 (0 : Int32) (0 : Int64) (0 : Int32)))) else none)
set_option maxRecDepth 20000 in
set_option maxHeartbeats 4000000 in
theorem K_X10_waits {σ : zSt} {l0 : Nat} {l1 : Int32} {r : UInt64} {σ' : zSt} (hf : f_X10_waits σ l0 l1 = some (r, σ')) : z_M l D cA bs yX10_waits cX10_waits 7 (some .double) 2 43 0 0 [.ref l0, .int l1] σ (z_Qd D cA bs r σ') := by
  refine z_met (own := RX10) (lv := [(0, .ref l0), (1, .int l1)]) (by decide) rfl (Nat.le_of_ble_eq_true rfl) rfl (fun p e s m below meth c ls B hnm hW hl => ?_)
  have hx := B.1
  have hb := B.2.1
  have hown := B.2.2.2.1
  have hts := B.2.2.2.2.1
  unfold f_X10_waits at hf
  refine lv_aload_n hx hb dX10_waits_0 rfl (lv_at hl 0 rfl) ?_
  refine lv_iconst (v := (0 : Int32)) hx hb dX10_waits_1 (by decide) ?_
  obtain ⟨hg1, hf⟩ := z_g hf
  obtain ⟨σ2, hs3, hf⟩ := z_l hf
  refine z_putI B hW zf_X10_22 hg1 rfl hs3 dX10_waits_2 (fun H locs hW => ?_)
  refine lv_iconst (v := (0 : Int32)) hx hb dX10_waits_5 (by decide) ?_
  refine lv_istore_n (lv' := [(2, .int (0 : Int32)), (0, .ref l0), (1, .int l1)]) hx hb dX10_waits_6 rfl hl (by decide) rfl (fun ls hl => ?_)
  refine lv_lconst (v := (0 : Int64)) hx hb dX10_waits_7 (by decide) ?_
  refine lv_lstore_n (lv' := [(3, .long (0 : Int64)), (2, .int (0 : Int32)), (0, .ref l0), (1, .int l1)]) hx hb dX10_waits_8 rfl hl (by decide) rfl (fun ls hl => ?_)
  refine lv_iconst (v := (0 : Int32)) hx hb dX10_waits_9 (by decide) ?_
  refine lv_istore (lv' := [(5, .int (0 : Int32)), (3, .long (0 : Int64)), (2, .int (0 : Int32)), (0, .ref l0), (1, .int l1)]) hx hb dX10_waits_10 hl (by decide) rfl (fun ls hl => ?_)
  unfold f_X10_waits_12 at hf
  exact t_X10_waits_12 B  zN hf hW (lv_sub hl [3, 4, 2, 1, 0] rfl)
set_option maxRecDepth 100000 in
def f_X10_use_34 (σ : zSt) (s0 : UInt64) : Option (UInt64 × zSt) :=
(some (s0, σ))
set_option maxRecDepth 20000 in
set_option maxHeartbeats 4000000 in
theorem t_X10_use_34 (B : z_B p s m args meth c D cA bs RX10 cX10_use 1 (some .double)) {r : UInt64} {σ' : zSt} {σ : zSt} {s0 : UInt64} (hf : f_X10_use_34 σ s0 = some (r, σ')) {H : Heap} {locs : List Loc} {ls : Array Slot} (hW : z_Ok D cA bs s σ H locs) (hl : lv_has ls 1 [])  : W p l e (zrm 0 0 0 0) s m args below meth c H locs 0 0 (MQ below (z_Qd D cA bs r σ') args s 0 0 (fun q => bs ≤ q)) (F0 m 34 ls [.double s0]) := by
  have hx := B.1
  have hb := B.2.1
  have hown := B.2.2.2.1
  have hts := B.2.2.2.2.1
  unfold f_X10_use_34 at hf
  obtain ⟨rfl, rfl⟩ := z_e2 hf
  exact z_rd B hW dX10_use_34 (Nat.le_of_ble_eq_true rfl) (Nat.le_of_ble_eq_true rfl)
set_option maxRecDepth 100000 in
def f_X10_use (σ : zSt) (l0 : Nat) : Option (UInt64 × zSt) :=
(if z_ob σ l0 9 then (zl (z_pI σ l0 4 (0 : Int32)) (fun σ2 => (if z_ob σ2 l0 9 then (zc (z_R σ2 l0 0) none (fun q5 => (if z_ar σ2 q5 0 then (if z_ix (3 : Int32) (z_ln σ2 q5) then (if (z_I σ2 q5 (3 : Int32).toNatClampNeg) = 0 then
(f_X10_use_34 σ2 FP.dconst0)
else
(zc (z_R σ2 l0 0) none (fun q9 => (if z_ar σ2 q9 0 then (if z_ix (15 : Int32) (z_ln σ2 q9) then (zc (z_R σ2 l0 0) none (fun q13 => (if z_ar σ2 q13 0 then (if z_ix (3 : Int32) (z_ln σ2 q13) then (if vf_n64b (FP.ddiv (FP.i2d (z_I σ2 q9 (15 : Int32).toNatClampNeg)) (FP.i2d (z_I σ2 q13 (3 : Int32).toNatClampNeg))) then (f_X10_use_34 σ2 (FP.ddiv (FP.i2d (z_I σ2 q9 (15 : Int32).toNatClampNeg)) (FP.i2d (z_I σ2 q13 (3 : Int32).toNatClampNeg)))) else none) else none) else none))) else none) else none)))) else none) else none))) else none))) else none)
set_option maxRecDepth 20000 in
set_option maxHeartbeats 4000000 in
theorem K_X10_use {σ : zSt} {l0 : Nat} {r : UInt64} {σ' : zSt} (hf : f_X10_use σ l0 = some (r, σ')) : z_M l D cA bs yX10_use cX10_use 1 (some .double) 0 0 0 0 [.ref l0] σ (z_Qd D cA bs r σ') := by
  refine z_met (own := RX10) (lv := [(0, .ref l0)]) (by decide) rfl (Nat.le_of_ble_eq_true rfl) rfl (fun p e s m below meth c ls B hnm hW hl => ?_)
  have hx := B.1
  have hb := B.2.1
  have hown := B.2.2.2.1
  have hts := B.2.2.2.2.1
  unfold f_X10_use at hf
  refine lv_aload_n hx hb dX10_use_0 rfl (lv_at hl 0 rfl) ?_
  refine lv_iconst (v := (0 : Int32)) hx hb dX10_use_1 (by decide) ?_
  obtain ⟨hg1, hf⟩ := z_g hf
  obtain ⟨σ2, hs3, hf⟩ := z_l hf
  refine z_putI B hW zf_X10_22 hg1 rfl hs3 dX10_use_2 (fun H locs hW => ?_)
  refine lv_aload_n hx hb dX10_use_5 rfl (lv_at hl 0 rfl) ?_
  obtain ⟨hg4, hf⟩ := z_g hf
  obtain ⟨q5, hv6, hf⟩ := z_nn hf
  refine z_getN B hW (Or.inr zf_X10_7) rfl hg4 hv6 dX10_use_6 ?_
  refine lv_iconst (v := (3 : Int32)) hx hb dX10_use_9 (by decide) ?_
  obtain ⟨hg7, hf⟩ := z_g hf
  obtain ⟨hg8, hf⟩ := z_g hf
  refine z_ald B hW hg7 hg8 dX10_use_10 ?_
  refine lv_if_ne (tgt := 18) hx hb dX10_use_11 (by decide) (fun hc11 => ?_) (fun hc11 => ?_)
  · replace hf := z_in hc11 hf
    refine lv_aload_n hx hb dX10_use_18 rfl (lv_at hl 0 rfl) ?_
    obtain ⟨q9, hv10, hf⟩ := z_nn hf
    refine z_getN B hW (Or.inr zf_X10_7) rfl hg4 hv10 dX10_use_19 ?_
    refine lv_bipush (v := (15 : Int32)) hx hb dX10_use_22 (by decide) ?_
    obtain ⟨hg11, hf⟩ := z_g hf
    obtain ⟨hg12, hf⟩ := z_g hf
    refine z_ald B hW hg11 hg12 dX10_use_24 ?_
    refine lv_i2d hx hb dX10_use_25 ?_
    refine lv_aload_n hx hb dX10_use_26 rfl (lv_at hl 0 rfl) ?_
    obtain ⟨q13, hv14, hf⟩ := z_nn hf
    refine z_getN B hW (Or.inr zf_X10_7) rfl hg4 hv14 dX10_use_27 ?_
    refine lv_iconst (v := (3 : Int32)) hx hb dX10_use_30 (by decide) ?_
    obtain ⟨hg15, hf⟩ := z_g hf
    obtain ⟨hg16, hf⟩ := z_g hf
    refine z_ald B hW hg15 hg16 dX10_use_31 ?_
    refine lv_i2d hx hb dX10_use_32 ?_
    obtain ⟨hg17, hf⟩ := z_g hf
    refine lv_ddiv hx hb dX10_use_33 (vf_n64b_of hg17) ?_
    exact t_X10_use_34 B hf hW (lv_sub hl [] rfl) 
  · replace hf := z_ip hc11 hf
    refine lv_dconst0 hx hb dX10_use_14 ?_
    refine lv_goto (tgt := 34) hx hb dX10_use_15 (by decide) ?_
    exact t_X10_use_34 B hf hW (lv_sub hl [] rfl) 
set_option maxRecDepth 100000 in
def f_X10_waitOf_90 (σ : zSt) (l0 : Nat) (l1 : Int32) : Option (Int32 × zSt) :=
(if z_ob σ l0 9 then (zb (f_X10_ofMessage σ l0 l1 (4 : Int32)) (fun r3 => (zb (f_X10_takesBack σ l0) (fun σ5 => (some (r3, σ5)))))) else none)
set_option maxRecDepth 20000 in
set_option maxHeartbeats 4000000 in
theorem t_X10_waitOf_90 (B : z_B p s m args meth c D cA bs RX10 cX10_waitOf 4 (some .int)) {r : Int32} {σ' : zSt} {σ : zSt} {l0 : Nat} {l1 : Int32} (hf : f_X10_waitOf_90 σ l0 l1 = some (r, σ')) {H : Heap} {locs : List Loc} {ls : Array Slot} (hW : z_Ok D cA bs s σ H locs) (hl : lv_has ls 4 [(0, .ref l0), (1, .int l1)])  : W p l e (zrm 6 0 0 141) s m args below meth c H locs 0 0 (MQ below (z_Qi D cA bs r σ') args s 0 0 (fun q => bs ≤ q)) (F0 m 90 ls []) := by
  have hx := B.1
  have hb := B.2.1
  have hown := B.2.2.2.1
  have hts := B.2.2.2.2.1
  unfold f_X10_waitOf_90 at hf
  refine lv_aload_n hx hb dX10_waitOf_90 rfl (lv_at hl 0 rfl) ?_
  refine lv_iload_n hx hb dX10_waitOf_91 rfl (lv_at hl 1 rfl) ?_
  refine lv_iconst (v := (4 : Int32)) hx hb dX10_waitOf_92 (by decide) ?_
  obtain ⟨hg1, hf⟩ := z_g hf
  obtain ⟨r3, hq2, hf⟩ := z_b hf
  refine z_ci hW (z_runV (As := [.int l1, .int (4 : Int32)]) (rest := []) B hW zv_X10_80 (K_X10_ofMessage hq2) hg1 rfl rfl rfl (Nat.le_of_ble_eq_true rfl) hl.1 ⟨Nat.le_of_ble_eq_true rfl, Nat.le_of_ble_eq_true rfl⟩ dX10_waitOf_93 ⟨Nat.le_of_ble_eq_true rfl, Nat.le_of_ble_eq_true rfl⟩) (fun H locs hW => ?_)
  refine lv_istore_n (lv' := [(3, .int r3), (0, .ref l0), (1, .int l1)]) hx hb dX10_waitOf_96 rfl hl (by decide) rfl (fun ls hl => ?_)
  refine lv_aload_n hx hb dX10_waitOf_97 rfl (lv_at hl 1 rfl) ?_
  obtain ⟨σ5, hq4, hf⟩ := z_b hf
  refine z_cv hW (z_runV (As := []) (rest := []) B hW zv_X10_146 (K_X10_takesBack hq4) hg1 rfl rfl rfl (Nat.le_of_ble_eq_true rfl) hl.1 ⟨Nat.le_of_ble_eq_true rfl, Nat.le_of_ble_eq_true rfl⟩ dX10_waitOf_98 ⟨Nat.le_of_ble_eq_true rfl, Nat.le_of_ble_eq_true rfl⟩) (fun H locs hW => ?_)
  refine lv_iload_n hx hb dX10_waitOf_101 rfl (lv_at hl 0 rfl) ?_
  obtain ⟨rfl, rfl⟩ := z_e2 hf
  exact z_ri B hW dX10_waitOf_102 (Nat.le_of_ble_eq_true rfl) (Nat.le_of_ble_eq_true rfl)
set_option maxRecDepth 100000 in
def b_X10_waitOf_63 (l0 : Nat) (l1 : Int32) (σ : zSt) (l3 : Int32) : Option ((zSt × Int32) ⊕ (Int32 × zSt)) :=
(if (300 : Int32) ≤ l3 then
(zex (f_X10_waitOf_90 σ l0 l1))
else
(if z_ob σ l0 9 then (zb (f_X10_ofMessage σ l0 l1 (4 : Int32)) (fun r4 => (if r4 = (-1 : Int32) then
(zb (f_X10_visits σ l0) (fun σ7 => (some (.inl (σ7, (l3 + (1 : Int32)))))))
else
(zex (f_X10_waitOf_90 σ l0 l1))))) else none))
set_option maxRecDepth 100000 in
def f_X10_waitOf_63 (l0 : Nat) (l1 : Int32) (σ : zSt) (l3 : Int32) : Option (Int32 × zSt) := zloop (fun (t : zSt × Int32) => b_X10_waitOf_63 l0 l1 t.1 t.2) zN (σ, l3)
set_option maxRecDepth 20000 in
set_option maxHeartbeats 4000000 in
theorem tb_X10_waitOf_63 (B : z_B p s m args meth c D cA bs RX10 cX10_waitOf 4 (some .int)) {r : Int32} {σ' : zSt} {o1 : (zSt × Int32) ⊕ (Int32 × zSt)} {l0 : Nat} {l1 : Int32} {σ : zSt} {l3 : Int32} (hf : b_X10_waitOf_63 l0 l1 σ l3 = some o1) {H : Heap} {locs : List Loc} {ls : Array Slot} (hW : z_Ok D cA bs s σ H locs) (hl : lv_has ls 4 [(0, .ref l0), (1, .int l1), (3, .int l3)]) (hk1 : ∀ (σ : zSt) (l3 : Int32), o1 = .inl (σ, l3) → ∀ {H : Heap} {locs : List Loc} {ls : Array Slot}, z_Ok D cA bs s σ H locs → lv_has ls 4 [(0, .ref l0), (1, .int l1), (3, .int l3)] → W p l e (zrm 6 0 0 141) s m args below meth c H locs 0 0 (MQ below (z_Qi D cA bs r σ') args s 0 0 (fun q => bs ≤ q)) (F0 m 63 ls [])) (hr1 : ∀ x, o1 = .inr x → x = (r, σ')) : W p l e (zrm 6 0 0 141) s m args below meth c H locs 0 0 (MQ below (z_Qi D cA bs r σ') args s 0 0 (fun q => bs ≤ q)) (F0 m 63 ls []) := by
  have hx := B.1
  have hb := B.2.1
  have hown := B.2.2.2.1
  have hts := B.2.2.2.2.1
  unfold b_X10_waitOf_63 at hf
  refine lv_iload_n hx hb dX10_waitOf_63 rfl (lv_at hl 2 rfl) ?_
  refine lv_sipush (v := (300 : Int32)) hx hb dX10_waitOf_64 (by decide) ?_
  refine lv_icmp_ge (tgt := 90) hx hb dX10_waitOf_67 (by decide) (fun hc67 => ?_) (fun hc67 => ?_)
  · replace hf := z_ip hc67 hf
    obtain ⟨w1, hf, ho1⟩ := z_x hf
    obtain rfl := hr1 _ ho1
    exact t_X10_waitOf_90 B hf hW (lv_sub hl [0, 1] rfl) 
  · replace hf := z_in hc67 hf
    refine lv_aload_n hx hb dX10_waitOf_70 rfl (lv_at hl 0 rfl) ?_
    refine lv_iload_n hx hb dX10_waitOf_71 rfl (lv_at hl 1 rfl) ?_
    refine lv_iconst (v := (4 : Int32)) hx hb dX10_waitOf_72 (by decide) ?_
    obtain ⟨hg2, hf⟩ := z_g hf
    obtain ⟨r4, hq3, hf⟩ := z_b hf
    refine z_ci hW (z_runV (As := [.int l1, .int (4 : Int32)]) (rest := []) B hW zv_X10_80 (K_X10_ofMessage hq3) hg2 rfl rfl rfl (Nat.le_of_ble_eq_true rfl) hl.1 ⟨Nat.le_of_ble_eq_true rfl, Nat.le_of_ble_eq_true rfl⟩ dX10_waitOf_73 ⟨Nat.le_of_ble_eq_true rfl, Nat.le_of_ble_eq_true rfl⟩) (fun H locs hW => ?_)
    refine lv_iconst (v := (-1 : Int32)) hx hb dX10_waitOf_76 (by decide) ?_
    refine lv_icmp_ne (tgt := 90) hx hb dX10_waitOf_77 (by decide) (fun hc77 => ?_) (fun hc77 => ?_)
    · replace hf := z_in hc77 hf
      obtain ⟨w1, hf, ho5⟩ := z_x hf
      obtain rfl := hr1 _ ho5
      exact t_X10_waitOf_90 B hf hW (lv_sub hl [0, 1] rfl) 
    · replace hf := z_ip hc77 hf
      refine lv_aload_n hx hb dX10_waitOf_80 rfl (lv_at hl 0 rfl) ?_
      obtain ⟨σ7, hq6, hf⟩ := z_b hf
      refine z_cv hW (z_runV (As := []) (rest := []) B hW zv_X10_119 (K_X10_visits hq6) hg2 rfl rfl rfl (Nat.le_of_ble_eq_true rfl) hl.1 ⟨Nat.le_of_ble_eq_true rfl, Nat.le_of_ble_eq_true rfl⟩ dX10_waitOf_81 ⟨Nat.le_of_ble_eq_true rfl, Nat.le_of_ble_eq_true rfl⟩) (fun H locs hW => ?_)
      refine lv_iinc (v := (l3 + (1 : Int32))) (lv' := [(3, .int (l3 + (1 : Int32))), (0, .ref l0), (1, .int l1)]) hx hb dX10_waitOf_84 hl (k := 2) rfl rfl (by decide) rfl (fun ls hl => ?_)
      refine lv_goto (tgt := 63) hx hb dX10_waitOf_87 (by decide) ?_
      exact hk1 _ _ (Option.some.inj hf).symm hW (lv_sub hl [1, 2, 0] rfl)
set_option maxRecDepth 20000 in
set_option maxHeartbeats 4000000 in
theorem t_X10_waitOf_63 (B : z_B p s m args meth c D cA bs RX10 cX10_waitOf 4 (some .int)) {r : Int32} {σ' : zSt} {l0 : Nat} {l1 : Int32}  : ∀ (n : Nat) {σ : zSt} {l3 : Int32}, zloop (fun (t : zSt × Int32) => b_X10_waitOf_63 l0 l1 t.1 t.2) n (σ, l3) = some (r, σ') → ∀ {H : Heap} {locs : List Loc} {ls : Array Slot}, z_Ok D cA bs s σ H locs → lv_has ls 4 [(0, .ref l0), (1, .int l1), (3, .int l3)] → W p l e (zrm 6 0 0 141) s m args below meth c H locs 0 0 (MQ below (z_Qi D cA bs r σ') args s 0 0 (fun q => bs ≤ q)) (F0 m 63 ls []) := by
  intro n
  induction n with
  | zero => intro σ l3 hf; cases hf
  | succ n ih =>
    intro σ l3 hf H locs ls hW hl
    obtain ⟨o1, hb1, hf⟩ := z_lp hf
    refine tb_X10_waitOf_63 B hb1 hW hl  (fun σ l3 he H locs ls hW hl => ?_) (fun x he => ?_)
    · rcases hf with ⟨t, ht, hf⟩ | hf
      · rw [he] at ht
        cases ht
        exact ih hf hW hl
      · rw [he] at hf
        cases hf
    · rcases hf with ⟨t, ht, hf⟩ | hf
      · rw [he] at ht
        cases ht
      · rw [he] at hf
        exact Sum.inr.inj hf
set_option maxRecDepth 100000 in
def f_X10_waitOf_48 (σ : zSt) (l0 : Nat) (l1 : Int32) (s0 : Int32) (s1 : Int32) (s2 : Option Nat) : Option (Int32 × zSt) :=
(zc s2 none (fun a1 => (if z_ob σ a1 9 then (zb2 (f_X10_goes σ a1 s1 s0 (1 : Int32)) (fun r5 σ6 => (if r5 = 0 then
(some ((0 : Int32), σ6))
else
(if z_ob σ6 l0 9 then (zb (f_X10_lays σ6 l0) (fun σ9 => (f_X10_waitOf_63 l0 l1 σ9 (0 : Int32)))) else none)))) else none)))
set_option maxRecDepth 20000 in
set_option maxHeartbeats 4000000 in
theorem t_X10_waitOf_48 (B : z_B p s m args meth c D cA bs RX10 cX10_waitOf 4 (some .int)) {r : Int32} {σ' : zSt} {σ : zSt} {l0 : Nat} {l1 : Int32} {s0 : Int32} {s1 : Int32} {s2 : Option Nat} (hf : f_X10_waitOf_48 σ l0 l1 s0 s1 s2 = some (r, σ')) {H : Heap} {locs : List Loc} {ls : Array Slot} (hW : z_Ok D cA bs s σ H locs) (hl : lv_has ls 4 [(0, .ref l0), (1, .int l1)])  : W p l e (zrm 6 0 0 141) s m args below meth c H locs 0 0 (MQ below (z_Qi D cA bs r σ') args s 0 0 (fun q => bs ≤ q)) (F0 m 48 ls [.int s0, .int s1, va_rf s2]) := by
  have hx := B.1
  have hb := B.2.1
  have hown := B.2.2.2.1
  have hts := B.2.2.2.2.1
  unfold f_X10_waitOf_48 at hf
  refine lv_iconst (v := (1 : Int32)) hx hb dX10_waitOf_48 (by decide) ?_
  obtain ⟨a1, hn2, hf⟩ := z_nn hf
  subst hn2
  obtain ⟨hg3, hf⟩ := z_g hf
  obtain ⟨r5, σ6, hq4, hf⟩ := z_b2 hf
  refine z_ci hW (z_runV (As := [.int s1, .int s0, .int (1 : Int32)]) (rest := []) B hW zv_X10_53 (K_X10_goes hq4) hg3 rfl rfl rfl (Nat.le_of_ble_eq_true rfl) hl.1 ⟨Nat.le_of_ble_eq_true rfl, Nat.le_of_ble_eq_true rfl⟩ dX10_waitOf_49 ⟨Nat.le_of_ble_eq_true rfl, Nat.le_of_ble_eq_true rfl⟩) (fun H locs hW => ?_)
  refine lv_if_ne (tgt := 57) hx hb dX10_waitOf_52 (by decide) (fun hc52 => ?_) (fun hc52 => ?_)
  · replace hf := z_in hc52 hf
    refine lv_aload_n hx hb dX10_waitOf_57 rfl (lv_at hl 0 rfl) ?_
    obtain ⟨hg7, hf⟩ := z_g hf
    obtain ⟨σ9, hq8, hf⟩ := z_b hf
    refine z_cv hW (z_runV (As := []) (rest := []) B hW zv_X10_143 (K_X10_lays hq8) hg7 rfl rfl rfl (Nat.le_of_ble_eq_true rfl) hl.1 ⟨Nat.le_of_ble_eq_true rfl, Nat.le_of_ble_eq_true rfl⟩ dX10_waitOf_58 ⟨Nat.le_of_ble_eq_true rfl, Nat.le_of_ble_eq_true rfl⟩) (fun H locs hW => ?_)
    refine lv_iconst (v := (0 : Int32)) hx hb dX10_waitOf_61 (by decide) ?_
    refine lv_istore_n (lv' := [(3, .int (0 : Int32)), (0, .ref l0), (1, .int l1)]) hx hb dX10_waitOf_62 rfl hl (by decide) rfl (fun ls hl => ?_)
    unfold f_X10_waitOf_63 at hf
    exact t_X10_waitOf_63 B  zN hf hW (lv_sub hl [1, 2, 0] rfl)
  · replace hf := z_ip hc52 hf
    refine lv_iconst (v := (0 : Int32)) hx hb dX10_waitOf_55 (by decide) ?_
    obtain ⟨rfl, rfl⟩ := z_e2 hf
    exact z_ri B hW dX10_waitOf_56 (Nat.le_of_ble_eq_true rfl) (Nat.le_of_ble_eq_true rfl)
set_option maxRecDepth 100000 in
def f_X10_waitOf_47 (σ : zSt) (l0 : Nat) (l1 : Int32) (s0 : Int32) (s1 : Option Nat) : Option (Int32 × zSt) :=
(f_X10_waitOf_48 σ l0 l1 (0 : Int32) s0 s1)
set_option maxRecDepth 20000 in
set_option maxHeartbeats 4000000 in
theorem t_X10_waitOf_47 (B : z_B p s m args meth c D cA bs RX10 cX10_waitOf 4 (some .int)) {r : Int32} {σ' : zSt} {σ : zSt} {l0 : Nat} {l1 : Int32} {s0 : Int32} {s1 : Option Nat} (hf : f_X10_waitOf_47 σ l0 l1 s0 s1 = some (r, σ')) {H : Heap} {locs : List Loc} {ls : Array Slot} (hW : z_Ok D cA bs s σ H locs) (hl : lv_has ls 4 [(0, .ref l0), (1, .int l1)])  : W p l e (zrm 6 0 0 141) s m args below meth c H locs 0 0 (MQ below (z_Qi D cA bs r σ') args s 0 0 (fun q => bs ≤ q)) (F0 m 47 ls [.int s0, va_rf s1]) := by
  have hx := B.1
  have hb := B.2.1
  have hown := B.2.2.2.1
  have hts := B.2.2.2.2.1
  unfold f_X10_waitOf_47 at hf
  refine lv_iconst (v := (0 : Int32)) hx hb dX10_waitOf_47 (by decide) ?_
  exact t_X10_waitOf_48 B hf hW hl 
set_option maxRecDepth 100000 in
def f_X10_waitOf (σ : zSt) (l0 : Nat) (l1 : Int32) : Option (Int32 × zSt) :=
(if z_ob σ l0 9 then (zc (z_R σ l0 0) none (fun q2 => (if z_ar σ q2 0 then (if z_ix (5 : Int32) (z_ln σ q2) then (zb (f_X10_in σ l1.toInt64 (0 : Int64) ((z_I σ q2 (5 : Int32).toNatClampNeg).toInt64 - (1 : Int64))) (fun r7 => (if r7 = 0 then
(f_X10_waitOf_47 σ l0 l1 r7 (some l0))
else
(zb (f_X10_ofMessage σ l0 l1 (4 : Int32)) (fun r9 => (if r9 = (-1 : Int32) then
(zc (z_R σ l0 0) none (fun q10 => (if z_ar σ q10 0 then (if z_ix (3 : Int32) (z_ln σ q10) then (if (900000 : Int32) < (z_I σ q10 (3 : Int32).toNatClampNeg) then
(f_X10_waitOf_47 σ l0 l1 r7 (some l0))
else
(f_X10_waitOf_48 σ l0 l1 (1 : Int32) r7 (some l0))) else none) else none)))
else
(f_X10_waitOf_47 σ l0 l1 r7 (some l0)))))))) else none) else none))) else none)
set_option maxRecDepth 20000 in
set_option maxHeartbeats 4000000 in
theorem K_X10_waitOf {σ : zSt} {l0 : Nat} {l1 : Int32} {r : Int32} {σ' : zSt} (hf : f_X10_waitOf σ l0 l1 = some (r, σ')) : z_M l D cA bs yX10_waitOf cX10_waitOf 4 (some .int) 6 141 0 0 [.ref l0, .int l1] σ (z_Qi D cA bs r σ') := by
  refine z_met (own := RX10) (lv := [(0, .ref l0), (1, .int l1)]) (by decide) rfl (Nat.le_of_ble_eq_true rfl) rfl (fun p e s m below meth c ls B hnm hW hl => ?_)
  have hx := B.1
  have hb := B.2.1
  have hown := B.2.2.2.1
  have hts := B.2.2.2.2.1
  unfold f_X10_waitOf at hf
  refine lv_iload_n hx hb dX10_waitOf_0 rfl (lv_at hl 1 rfl) ?_
  refine lv_i2l (v := l1.toInt64) hx hb dX10_waitOf_1 rfl ?_
  refine lv_lconst (v := (0 : Int64)) hx hb dX10_waitOf_2 (by decide) ?_
  refine lv_aload_n hx hb dX10_waitOf_3 rfl (lv_at hl 0 rfl) ?_
  obtain ⟨hg1, hf⟩ := z_g hf
  obtain ⟨q2, hv3, hf⟩ := z_nn hf
  refine z_getN B hW (Or.inr zf_X10_7) rfl hg1 hv3 dX10_waitOf_4 ?_
  refine lv_iconst (v := (5 : Int32)) hx hb dX10_waitOf_7 (by decide) ?_
  obtain ⟨hg4, hf⟩ := z_g hf
  obtain ⟨hg5, hf⟩ := z_g hf
  refine z_ald B hW hg4 hg5 dX10_waitOf_8 ?_
  refine lv_i2l (v := (z_I σ q2 (5 : Int32).toNatClampNeg).toInt64) hx hb dX10_waitOf_9 rfl ?_
  refine lv_lconst (v := (1 : Int64)) hx hb dX10_waitOf_10 (by decide) ?_
  refine lv_lsub hx hb dX10_waitOf_11 ?_
  obtain ⟨r7, hq6, hf⟩ := z_b hf
  refine z_ci hW (z_runS (As := [.long l1.toInt64, .long (0 : Int64), .long ((z_I σ q2 (5 : Int32).toNatClampNeg).toInt64 - (1 : Int64))]) (rest := []) B hW zv_X10_35 (K_X10_in hq6) rfl rfl (Nat.le_of_ble_eq_true rfl) hl.1 ⟨Nat.le_of_ble_eq_true rfl, Nat.le_of_ble_eq_true rfl⟩ dX10_waitOf_12 ⟨Nat.le_of_ble_eq_true rfl, Nat.le_of_ble_eq_true rfl⟩) (fun H locs hW => ?_)
  refine lv_istore_n (lv' := [(2, .int r7), (0, .ref l0), (1, .int l1)]) hx hb dX10_waitOf_15 rfl hl (by decide) rfl (fun ls hl => ?_)
  refine lv_aload_n hx hb dX10_waitOf_16 rfl (lv_at hl 1 rfl) ?_
  refine lv_iload_n hx hb dX10_waitOf_17 rfl (lv_at hl 0 rfl) ?_
  refine lv_iload_n hx hb dX10_waitOf_18 rfl (lv_at hl 0 rfl) ?_
  refine lv_if_eq (tgt := 47) hx hb dX10_waitOf_19 (by decide) (fun hc19 => ?_) (fun hc19 => ?_)
  · replace hf := z_ip hc19 hf
    exact t_X10_waitOf_47 B hf hW (lv_sub hl [1, 2] rfl) 
  · replace hf := z_in hc19 hf
    refine lv_aload_n hx hb dX10_waitOf_22 rfl (lv_at hl 1 rfl) ?_
    refine lv_iload_n hx hb dX10_waitOf_23 rfl (lv_at hl 2 rfl) ?_
    refine lv_iconst (v := (4 : Int32)) hx hb dX10_waitOf_24 (by decide) ?_
    obtain ⟨r9, hq8, hf⟩ := z_b hf
    refine z_ci hW (z_runV (As := [.int l1, .int (4 : Int32)]) (rest := [.int r7, .ref l0]) B hW zv_X10_80 (K_X10_ofMessage hq8) hg1 rfl rfl rfl (Nat.le_of_ble_eq_true rfl) hl.1 ⟨Nat.le_of_ble_eq_true rfl, Nat.le_of_ble_eq_true rfl⟩ dX10_waitOf_25 ⟨Nat.le_of_ble_eq_true rfl, Nat.le_of_ble_eq_true rfl⟩) (fun H locs hW => ?_)
    refine lv_iconst (v := (-1 : Int32)) hx hb dX10_waitOf_28 (by decide) ?_
    refine lv_icmp_ne (tgt := 47) hx hb dX10_waitOf_29 (by decide) (fun hc29 => ?_) (fun hc29 => ?_)
    · replace hf := z_in hc29 hf
      exact t_X10_waitOf_47 B hf hW (lv_sub hl [1, 2] rfl) 
    · replace hf := z_ip hc29 hf
      refine lv_aload_n hx hb dX10_waitOf_32 rfl (lv_at hl 1 rfl) ?_
      obtain ⟨q10, hv11, hf⟩ := z_nn hf
      refine z_getN B hW (Or.inr zf_X10_7) rfl hg1 hv11 dX10_waitOf_33 ?_
      refine lv_iconst (v := (3 : Int32)) hx hb dX10_waitOf_36 (by decide) ?_
      obtain ⟨hg12, hf⟩ := z_g hf
      obtain ⟨hg13, hf⟩ := z_g hf
      refine z_ald B hW hg12 hg13 dX10_waitOf_37 ?_
      refine lv_ldc hx hb hown (hts _ zk_X10_118) dX10_waitOf_38 ?_
      refine lv_icmp_gt (tgt := 47) hx hb dX10_waitOf_40 (by decide) (fun hc40 => ?_) (fun hc40 => ?_)
      · replace hf := z_ip hc40 hf
        exact t_X10_waitOf_47 B hf hW (lv_sub hl [1, 2] rfl) 
      · replace hf := z_in hc40 hf
        refine lv_iconst (v := (1 : Int32)) hx hb dX10_waitOf_43 (by decide) ?_
        refine lv_goto (tgt := 48) hx hb dX10_waitOf_44 (by decide) ?_
        exact t_X10_waitOf_48 B hf hW (lv_sub hl [1, 2] rfl) 
set_option maxRecDepth 100000 in
def f_X10_isComplete_47 (σ : zSt) (l0 : Nat) (l2 : Int32) (s0 : Int32) : Option ((Int32 × Int32) ⊕ (Int32)) :=
(some (.inl (s0, (l2 + (1 : Int32)))))
set_option maxRecDepth 20000 in
set_option maxHeartbeats 4000000 in
theorem t_X10_isComplete_47 (B : z_B p s m args meth c D cA bs RX10 cX10_isComplete 3 (some .boolean)) {r : Int32} {o1 : (Int32 × Int32) ⊕ (Int32)} {σ : zSt} {l0 : Nat} {l2 : Int32} {s0 : Int32} (hf : f_X10_isComplete_47 σ l0 l2 s0 = some o1) {H : Heap} {locs : List Loc} {ls : Array Slot} (hW : z_Ok D cA bs s σ H locs) (hl : lv_has ls 3 [(0, .ref l0), (2, .int l2)]) (hk1 : ∀ (l1 : Int32) (l2 : Int32), o1 = .inl (l1, l2) → ∀ {H : Heap} {locs : List Loc} {ls : Array Slot}, z_Ok D cA bs s σ H locs → lv_has ls 3 [(0, .ref l0), (1, .int l1), (2, .int l2)] → W p l e (zrm 2 0 0 43) s m args below meth c H locs 0 0 (MQ below (z_Qi D cA bs r σ) args s 0 0 (fun q => bs ≤ q)) (F0 m 4 ls [])) (hr1 : ∀ x, o1 = .inr x → x = r) : W p l e (zrm 2 0 0 43) s m args below meth c H locs 0 0 (MQ below (z_Qi D cA bs r σ) args s 0 0 (fun q => bs ≤ q)) (F0 m 47 ls [.int s0]) := by
  have hx := B.1
  have hb := B.2.1
  have hown := B.2.2.2.1
  have hts := B.2.2.2.2.1
  unfold f_X10_isComplete_47 at hf
  refine lv_istore_n (lv' := [(1, .int s0), (0, .ref l0), (2, .int l2)]) hx hb dX10_isComplete_47 rfl hl (by decide) rfl (fun ls hl => ?_)
  refine lv_iinc (v := (l2 + (1 : Int32))) (lv' := [(2, .int (l2 + (1 : Int32))), (1, .int s0), (0, .ref l0)]) hx hb dX10_isComplete_48 hl (k := 2) rfl rfl (by decide) rfl (fun ls hl => ?_)
  refine lv_goto (tgt := 4) hx hb dX10_isComplete_51 (by decide) ?_
  exact hk1 _ _ (Option.some.inj hf).symm hW (lv_sub hl [2, 1, 0] rfl)
set_option maxRecDepth 100000 in
def f_X10_isComplete_46 (σ : zSt) (l0 : Nat) (l2 : Int32) : Option ((Int32 × Int32) ⊕ (Int32)) :=
(f_X10_isComplete_47 σ l0 l2 (0 : Int32))
set_option maxRecDepth 20000 in
set_option maxHeartbeats 4000000 in
theorem t_X10_isComplete_46 (B : z_B p s m args meth c D cA bs RX10 cX10_isComplete 3 (some .boolean)) {r : Int32} {o1 : (Int32 × Int32) ⊕ (Int32)} {σ : zSt} {l0 : Nat} {l2 : Int32} (hf : f_X10_isComplete_46 σ l0 l2 = some o1) {H : Heap} {locs : List Loc} {ls : Array Slot} (hW : z_Ok D cA bs s σ H locs) (hl : lv_has ls 3 [(0, .ref l0), (2, .int l2)]) (hk1 : ∀ (l1 : Int32) (l2 : Int32), o1 = .inl (l1, l2) → ∀ {H : Heap} {locs : List Loc} {ls : Array Slot}, z_Ok D cA bs s σ H locs → lv_has ls 3 [(0, .ref l0), (1, .int l1), (2, .int l2)] → W p l e (zrm 2 0 0 43) s m args below meth c H locs 0 0 (MQ below (z_Qi D cA bs r σ) args s 0 0 (fun q => bs ≤ q)) (F0 m 4 ls [])) (hr1 : ∀ x, o1 = .inr x → x = r) : W p l e (zrm 2 0 0 43) s m args below meth c H locs 0 0 (MQ below (z_Qi D cA bs r σ) args s 0 0 (fun q => bs ≤ q)) (F0 m 46 ls []) := by
  have hx := B.1
  have hb := B.2.1
  have hown := B.2.2.2.1
  have hts := B.2.2.2.2.1
  unfold f_X10_isComplete_46 at hf
  refine lv_iconst (v := (0 : Int32)) hx hb dX10_isComplete_46 (by decide) ?_
  exact t_X10_isComplete_47 B hf hW hl hk1 hr1
set_option maxRecDepth 100000 in
def f_X10_isComplete_42 (σ : zSt) (l0 : Nat) (l2 : Int32) : Option ((Int32 × Int32) ⊕ (Int32)) :=
(f_X10_isComplete_47 σ l0 l2 (1 : Int32))
set_option maxRecDepth 20000 in
set_option maxHeartbeats 4000000 in
theorem t_X10_isComplete_42 (B : z_B p s m args meth c D cA bs RX10 cX10_isComplete 3 (some .boolean)) {r : Int32} {o1 : (Int32 × Int32) ⊕ (Int32)} {σ : zSt} {l0 : Nat} {l2 : Int32} (hf : f_X10_isComplete_42 σ l0 l2 = some o1) {H : Heap} {locs : List Loc} {ls : Array Slot} (hW : z_Ok D cA bs s σ H locs) (hl : lv_has ls 3 [(0, .ref l0), (2, .int l2)]) (hk1 : ∀ (l1 : Int32) (l2 : Int32), o1 = .inl (l1, l2) → ∀ {H : Heap} {locs : List Loc} {ls : Array Slot}, z_Ok D cA bs s σ H locs → lv_has ls 3 [(0, .ref l0), (1, .int l1), (2, .int l2)] → W p l e (zrm 2 0 0 43) s m args below meth c H locs 0 0 (MQ below (z_Qi D cA bs r σ) args s 0 0 (fun q => bs ≤ q)) (F0 m 4 ls [])) (hr1 : ∀ x, o1 = .inr x → x = r) : W p l e (zrm 2 0 0 43) s m args below meth c H locs 0 0 (MQ below (z_Qi D cA bs r σ) args s 0 0 (fun q => bs ≤ q)) (F0 m 42 ls []) := by
  have hx := B.1
  have hb := B.2.1
  have hown := B.2.2.2.1
  have hts := B.2.2.2.2.1
  unfold f_X10_isComplete_42 at hf
  refine lv_iconst (v := (1 : Int32)) hx hb dX10_isComplete_42 (by decide) ?_
  refine lv_goto (tgt := 47) hx hb dX10_isComplete_43 (by decide) ?_
  exact t_X10_isComplete_47 B hf hW hl hk1 hr1
set_option maxRecDepth 100000 in
def b_X10_isComplete_4 (σ : zSt) (l0 : Nat) (l1 : Int32) (l2 : Int32) : Option ((Int32 × Int32) ⊕ (Int32)) :=
(if (32 : Int32) ≤ l2 then
(zex (if z_bl l1 then (some l1) else none))
else
(if l1 = 0 then
(f_X10_isComplete_46 σ l0 l2)
else
(if z_ob σ l0 9 then (zb (f_X10_of σ l0 l2 (0 : Int32)) (fun r5 => (if r5 = 0 then
(f_X10_isComplete_42 σ l0 l2)
else
(zb (f_X10_of σ l0 l2 (1 : Int32)) (fun r7 => (if r7 = 0 then
(f_X10_isComplete_42 σ l0 l2)
else
(zb (f_X10_of σ l0 l2 (2 : Int32)) (fun r9 => (if r9 = (1 : Int32) then
(f_X10_isComplete_42 σ l0 l2)
else
(f_X10_isComplete_46 σ l0 l2)))))))))) else none)))
set_option maxRecDepth 100000 in
def f_X10_isComplete_4 (σ : zSt) (l0 : Nat) (l1 : Int32) (l2 : Int32) : Option (Int32) := zloop (fun (t : Int32 × Int32) => b_X10_isComplete_4 σ l0 t.1 t.2) zN (l1, l2)
set_option maxRecDepth 20000 in
set_option maxHeartbeats 4000000 in
theorem tb_X10_isComplete_4 (B : z_B p s m args meth c D cA bs RX10 cX10_isComplete 3 (some .boolean)) {r : Int32} {o1 : (Int32 × Int32) ⊕ (Int32)} {σ : zSt} {l0 : Nat} {l1 : Int32} {l2 : Int32} (hf : b_X10_isComplete_4 σ l0 l1 l2 = some o1) {H : Heap} {locs : List Loc} {ls : Array Slot} (hW : z_Ok D cA bs s σ H locs) (hl : lv_has ls 3 [(0, .ref l0), (1, .int l1), (2, .int l2)]) (hk1 : ∀ (l1 : Int32) (l2 : Int32), o1 = .inl (l1, l2) → ∀ {H : Heap} {locs : List Loc} {ls : Array Slot}, z_Ok D cA bs s σ H locs → lv_has ls 3 [(0, .ref l0), (1, .int l1), (2, .int l2)] → W p l e (zrm 2 0 0 43) s m args below meth c H locs 0 0 (MQ below (z_Qi D cA bs r σ) args s 0 0 (fun q => bs ≤ q)) (F0 m 4 ls [])) (hr1 : ∀ x, o1 = .inr x → x = r) : W p l e (zrm 2 0 0 43) s m args below meth c H locs 0 0 (MQ below (z_Qi D cA bs r σ) args s 0 0 (fun q => bs ≤ q)) (F0 m 4 ls []) := by
  have hx := B.1
  have hb := B.2.1
  have hown := B.2.2.2.1
  have hts := B.2.2.2.2.1
  unfold b_X10_isComplete_4 at hf
  refine lv_iload_n hx hb dX10_isComplete_4 rfl (lv_at hl 2 rfl) ?_
  refine lv_bipush (v := (32 : Int32)) hx hb dX10_isComplete_5 (by decide) ?_
  refine lv_icmp_ge (tgt := 54) hx hb dX10_isComplete_7 (by decide) (fun hc7 => ?_) (fun hc7 => ?_)
  · replace hf := z_ip hc7 hf
    obtain ⟨w1, hf, ho2⟩ := z_x hf
    obtain rfl := hr1 _ ho2
    refine lv_iload_n hx hb dX10_isComplete_54 rfl (lv_at hl 1 rfl) ?_
    obtain ⟨hg1, hf⟩ := z_g hf
    obtain rfl := z_e1 hf
    exact z_rz hg1 B hW dX10_isComplete_55 (Nat.le_of_ble_eq_true rfl) (Nat.le_of_ble_eq_true rfl)
  · replace hf := z_in hc7 hf
    refine lv_iload_n hx hb dX10_isComplete_10 rfl (lv_at hl 1 rfl) ?_
    refine lv_if_eq (tgt := 46) hx hb dX10_isComplete_11 (by decide) (fun hc11 => ?_) (fun hc11 => ?_)
    · replace hf := z_ip hc11 hf
      exact t_X10_isComplete_46 B hf hW (lv_sub hl [0, 2] rfl) hk1 hr1
    · replace hf := z_in hc11 hf
      refine lv_aload_n hx hb dX10_isComplete_14 rfl (lv_at hl 0 rfl) ?_
      refine lv_iload_n hx hb dX10_isComplete_15 rfl (lv_at hl 2 rfl) ?_
      refine lv_iconst (v := (0 : Int32)) hx hb dX10_isComplete_16 (by decide) ?_
      obtain ⟨hg3, hf⟩ := z_g hf
      obtain ⟨r5, hq4, hf⟩ := z_b hf
      refine z_ci hW (z_runV (As := [.int l2, .int (0 : Int32)]) (rest := []) B hW zv_X10_39 (K_X10_of hq4) hg3 rfl rfl rfl (Nat.le_of_ble_eq_true rfl) hl.1 ⟨Nat.le_of_ble_eq_true rfl, Nat.le_of_ble_eq_true rfl⟩ dX10_isComplete_17 ⟨Nat.le_of_ble_eq_true rfl, Nat.le_of_ble_eq_true rfl⟩) (fun H locs hW => ?_)
      refine lv_if_eq (tgt := 42) hx hb dX10_isComplete_20 (by decide) (fun hc20 => ?_) (fun hc20 => ?_)
      · replace hf := z_ip hc20 hf
        exact t_X10_isComplete_42 B hf hW (lv_sub hl [0, 2] rfl) hk1 hr1
      · replace hf := z_in hc20 hf
        refine lv_aload_n hx hb dX10_isComplete_23 rfl (lv_at hl 0 rfl) ?_
        refine lv_iload_n hx hb dX10_isComplete_24 rfl (lv_at hl 2 rfl) ?_
        refine lv_iconst (v := (1 : Int32)) hx hb dX10_isComplete_25 (by decide) ?_
        obtain ⟨r7, hq6, hf⟩ := z_b hf
        refine z_ci hW (z_runV (As := [.int l2, .int (1 : Int32)]) (rest := []) B hW zv_X10_39 (K_X10_of hq6) hg3 rfl rfl rfl (Nat.le_of_ble_eq_true rfl) hl.1 ⟨Nat.le_of_ble_eq_true rfl, Nat.le_of_ble_eq_true rfl⟩ dX10_isComplete_26 ⟨Nat.le_of_ble_eq_true rfl, Nat.le_of_ble_eq_true rfl⟩) (fun H locs hW => ?_)
        refine lv_if_eq (tgt := 42) hx hb dX10_isComplete_29 (by decide) (fun hc29 => ?_) (fun hc29 => ?_)
        · replace hf := z_ip hc29 hf
          exact t_X10_isComplete_42 B hf hW (lv_sub hl [0, 2] rfl) hk1 hr1
        · replace hf := z_in hc29 hf
          refine lv_aload_n hx hb dX10_isComplete_32 rfl (lv_at hl 0 rfl) ?_
          refine lv_iload_n hx hb dX10_isComplete_33 rfl (lv_at hl 2 rfl) ?_
          refine lv_iconst (v := (2 : Int32)) hx hb dX10_isComplete_34 (by decide) ?_
          obtain ⟨r9, hq8, hf⟩ := z_b hf
          refine z_ci hW (z_runV (As := [.int l2, .int (2 : Int32)]) (rest := []) B hW zv_X10_39 (K_X10_of hq8) hg3 rfl rfl rfl (Nat.le_of_ble_eq_true rfl) hl.1 ⟨Nat.le_of_ble_eq_true rfl, Nat.le_of_ble_eq_true rfl⟩ dX10_isComplete_35 ⟨Nat.le_of_ble_eq_true rfl, Nat.le_of_ble_eq_true rfl⟩) (fun H locs hW => ?_)
          refine lv_iconst (v := (1 : Int32)) hx hb dX10_isComplete_38 (by decide) ?_
          refine lv_icmp_ne (tgt := 46) hx hb dX10_isComplete_39 (by decide) (fun hc39 => ?_) (fun hc39 => ?_)
          · replace hf := z_in hc39 hf
            exact t_X10_isComplete_46 B hf hW (lv_sub hl [0, 2] rfl) hk1 hr1
          · replace hf := z_ip hc39 hf
            exact t_X10_isComplete_42 B hf hW (lv_sub hl [0, 2] rfl) hk1 hr1
set_option maxRecDepth 20000 in
set_option maxHeartbeats 4000000 in
theorem t_X10_isComplete_4 (B : z_B p s m args meth c D cA bs RX10 cX10_isComplete 3 (some .boolean)) {r : Int32} {σ : zSt} {l0 : Nat}  : ∀ (n : Nat) {l1 : Int32} {l2 : Int32}, zloop (fun (t : Int32 × Int32) => b_X10_isComplete_4 σ l0 t.1 t.2) n (l1, l2) = some r → ∀ {H : Heap} {locs : List Loc} {ls : Array Slot}, z_Ok D cA bs s σ H locs → lv_has ls 3 [(0, .ref l0), (1, .int l1), (2, .int l2)] → W p l e (zrm 2 0 0 43) s m args below meth c H locs 0 0 (MQ below (z_Qi D cA bs r σ) args s 0 0 (fun q => bs ≤ q)) (F0 m 4 ls []) := by
  intro n
  induction n with
  | zero => intro l1 l2 hf; cases hf
  | succ n ih =>
    intro l1 l2 hf H locs ls hW hl
    obtain ⟨o1, hb1, hf⟩ := z_lp hf
    refine tb_X10_isComplete_4 B hb1 hW hl  (fun l1 l2 he H locs ls hW hl => ?_) (fun x he => ?_)
    · rcases hf with ⟨t, ht, hf⟩ | hf
      · rw [he] at ht
        cases ht
        exact ih hf hW hl
      · rw [he] at hf
        cases hf
    · rcases hf with ⟨t, ht, hf⟩ | hf
      · rw [he] at ht
        cases ht
      · rw [he] at hf
        exact Sum.inr.inj hf
set_option maxRecDepth 100000 in
def f_X10_isComplete (σ : zSt) (l0 : Nat) : Option (Int32) :=
(f_X10_isComplete_4 σ l0 (1 : Int32) (0 : Int32))
set_option maxRecDepth 20000 in
set_option maxHeartbeats 4000000 in
theorem K_X10_isComplete {σ : zSt} {l0 : Nat} {r : Int32} (hf : f_X10_isComplete σ l0 = some r) : z_M l D cA bs yX10_isComplete cX10_isComplete 3 (some .boolean) 2 43 0 0 [.ref l0] σ (z_Qi D cA bs r σ) := by
  refine z_met (own := RX10) (lv := [(0, .ref l0)]) (by decide) rfl (Nat.le_of_ble_eq_true rfl) rfl (fun p e s m below meth c ls B hnm hW hl => ?_)
  have hx := B.1
  have hb := B.2.1
  have hown := B.2.2.2.1
  have hts := B.2.2.2.2.1
  unfold f_X10_isComplete at hf
  refine lv_iconst (v := (1 : Int32)) hx hb dX10_isComplete_0 (by decide) ?_
  refine lv_istore_n (lv' := [(1, .int (1 : Int32)), (0, .ref l0)]) hx hb dX10_isComplete_1 rfl hl (by decide) rfl (fun ls hl => ?_)
  refine lv_iconst (v := (0 : Int32)) hx hb dX10_isComplete_2 (by decide) ?_
  refine lv_istore_n (lv' := [(2, .int (0 : Int32)), (1, .int (1 : Int32)), (0, .ref l0)]) hx hb dX10_isComplete_3 rfl hl (by decide) rfl (fun ls hl => ?_)
  unfold f_X10_isComplete_4 at hf
  exact t_X10_isComplete_4 B  zN hf hW (lv_sub hl [2, 1, 0] rfl)
end GEN
