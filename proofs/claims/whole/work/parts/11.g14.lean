section GEN
variable {p : Program} {l : Launch} {e : Env} {s : State} {m : MethodId} {args : Array Value} {below : List Frame} {meth : Method} {c : Code} {D : va_G} {cA : Nat → ClassId} {bs : Nat}
set_option maxRecDepth 100000 in
def f_X10_give_51 (σ : zSt) (l0 : Nat) (l1 : Int32) (l2 : Int32) (l3 : Int32) (s0 : Int32) (s1 : Int32) (s2 : Int32) (s3 : Option Nat) : Option (Int32 × zSt) :=
(zc s3 none (fun a1 => (if z_ob σ a1 9 then (zb2 (f_X10_goes σ a1 s2 s1 s0) (fun r5 σ6 => (if r5 = 0 then
(some ((0 : Int32), σ6))
else
(if z_ob σ6 l0 9 then (zb (f_X10_save σ6 l0) (fun σ9 => (if z_ob σ9 l0 9 then (zb2 (f_X10_gives σ9 l0 l1 l2 l3) (fun r12 σ13 => (some (r12, σ13)))) else none))) else none)))) else none)))
set_option maxRecDepth 20000 in
set_option maxHeartbeats 4000000 in
theorem t_X10_give_51 (B : z_B p s m args meth c D cA bs RX10 cX10_give 4 (some .int)) {r : Int32} {σ' : zSt} {σ : zSt} {l0 : Nat} {l1 : Int32} {l2 : Int32} {l3 : Int32} {s0 : Int32} {s1 : Int32} {s2 : Int32} {s3 : Option Nat} (hf : f_X10_give_51 σ l0 l1 l2 l3 s0 s1 s2 s3 = some (r, σ')) {H : Heap} {locs : List Loc} {ls : Array Slot} (hW : z_Ok D cA bs s σ H locs) (hl : lv_has ls 4 [(0, .ref l0), (1, .int l1), (2, .int l2), (3, .int l3)])  : W p l e (zrm 3 0 0 64) s m args below meth c H locs 0 0 (MQ below (z_Qi D cA bs r σ') args s 0 0 (fun q => bs ≤ q)) (F0 m 51 ls [.int s0, .int s1, .int s2, va_rf s3]) := by
  have hx := B.1
  have hb := B.2.1
  have hown := B.2.2.2.1
  have hts := B.2.2.2.2.1
  unfold f_X10_give_51 at hf
  obtain ⟨a1, hn2, hf⟩ := z_nn hf
  subst hn2
  obtain ⟨hg3, hf⟩ := z_g hf
  obtain ⟨r5, σ6, hq4, hf⟩ := z_b2 hf
  refine z_ci hW (z_runV (As := [.int s2, .int s1, .int s0]) (rest := []) B hW zv_X10_53 (K_X10_goes hq4) hg3 rfl rfl rfl (Nat.le_of_ble_eq_true rfl) hl.1 ⟨Nat.le_of_ble_eq_true rfl, Nat.le_of_ble_eq_true rfl⟩ dX10_give_51 ⟨Nat.le_of_ble_eq_true rfl, Nat.le_of_ble_eq_true rfl⟩) (fun H locs hW => ?_)
  refine lv_if_ne (tgt := 59) hx hb dX10_give_54 (by decide) (fun hc54 => ?_) (fun hc54 => ?_)
  · replace hf := z_in hc54 hf
    refine lv_aload_n hx hb dX10_give_59 rfl (lv_at hl 0 rfl) ?_
    obtain ⟨hg7, hf⟩ := z_g hf
    obtain ⟨σ9, hq8, hf⟩ := z_b hf
    refine z_cv hW (z_runV (As := []) (rest := []) B hW zv_X10_57 (K_X10_save hq8) hg7 rfl rfl rfl (Nat.le_of_ble_eq_true rfl) hl.1 ⟨Nat.le_of_ble_eq_true rfl, Nat.le_of_ble_eq_true rfl⟩ dX10_give_60 ⟨Nat.le_of_ble_eq_true rfl, Nat.le_of_ble_eq_true rfl⟩) (fun H locs hW => ?_)
    refine lv_aload_n hx hb dX10_give_63 rfl (lv_at hl 0 rfl) ?_
    refine lv_iload_n hx hb dX10_give_64 rfl (lv_at hl 1 rfl) ?_
    refine lv_iload_n hx hb dX10_give_65 rfl (lv_at hl 2 rfl) ?_
    refine lv_iload_n hx hb dX10_give_66 rfl (lv_at hl 3 rfl) ?_
    obtain ⟨hg10, hf⟩ := z_g hf
    obtain ⟨r12, σ13, hq11, hf⟩ := z_b2 hf
    refine z_ci hW (z_runV (As := [.int l1, .int l2, .int l3]) (rest := []) B hW zv_X10_70 (K_X10_gives hq11) hg10 rfl rfl rfl (Nat.le_of_ble_eq_true rfl) hl.1 ⟨Nat.le_of_ble_eq_true rfl, Nat.le_of_ble_eq_true rfl⟩ dX10_give_67 ⟨Nat.le_of_ble_eq_true rfl, Nat.le_of_ble_eq_true rfl⟩) (fun H locs hW => ?_)
    obtain ⟨rfl, rfl⟩ := z_e2 hf
    exact z_ri B hW dX10_give_70 (Nat.le_of_ble_eq_true rfl) (Nat.le_of_ble_eq_true rfl)
  · replace hf := z_ip hc54 hf
    refine lv_iconst (v := (0 : Int32)) hx hb dX10_give_57 (by decide) ?_
    obtain ⟨rfl, rfl⟩ := z_e2 hf
    exact z_ri B hW dX10_give_58 (Nat.le_of_ble_eq_true rfl) (Nat.le_of_ble_eq_true rfl)
set_option maxRecDepth 100000 in
def f_X10_give_35 (σ : zSt) (l0 : Nat) (l1 : Int32) (l2 : Int32) (l3 : Int32) (s0 : Int32) (s1 : Int32) (s2 : Option Nat) : Option (Int32 × zSt) :=
(if z_ob σ l0 9 then (zc (z_R σ l0 0) none (fun q2 => (if z_ar σ q2 0 then (if z_ix (5 : Int32) (z_ln σ q2) then (if (100 : Int32) ≤ (z_I σ q2 (5 : Int32).toNatClampNeg) then
(f_X10_give_51 σ l0 l1 l2 l3 (0 : Int32) s0 s1 s2)
else
(f_X10_give_51 σ l0 l1 l2 l3 (1 : Int32) s0 s1 s2)) else none) else none))) else none)
set_option maxRecDepth 20000 in
set_option maxHeartbeats 4000000 in
theorem t_X10_give_35 (B : z_B p s m args meth c D cA bs RX10 cX10_give 4 (some .int)) {r : Int32} {σ' : zSt} {σ : zSt} {l0 : Nat} {l1 : Int32} {l2 : Int32} {l3 : Int32} {s0 : Int32} {s1 : Int32} {s2 : Option Nat} (hf : f_X10_give_35 σ l0 l1 l2 l3 s0 s1 s2 = some (r, σ')) {H : Heap} {locs : List Loc} {ls : Array Slot} (hW : z_Ok D cA bs s σ H locs) (hl : lv_has ls 4 [(0, .ref l0), (1, .int l1), (2, .int l2), (3, .int l3)])  : W p l e (zrm 3 0 0 64) s m args below meth c H locs 0 0 (MQ below (z_Qi D cA bs r σ') args s 0 0 (fun q => bs ≤ q)) (F0 m 35 ls [.int s0, .int s1, va_rf s2]) := by
  have hx := B.1
  have hb := B.2.1
  have hown := B.2.2.2.1
  have hts := B.2.2.2.2.1
  unfold f_X10_give_35 at hf
  refine lv_aload_n hx hb dX10_give_35 rfl (lv_at hl 0 rfl) ?_
  obtain ⟨hg1, hf⟩ := z_g hf
  obtain ⟨q2, hv3, hf⟩ := z_nn hf
  refine z_getN B hW (Or.inr zf_X10_7) rfl hg1 hv3 dX10_give_36 ?_
  refine lv_iconst (v := (5 : Int32)) hx hb dX10_give_39 (by decide) ?_
  obtain ⟨hg4, hf⟩ := z_g hf
  obtain ⟨hg5, hf⟩ := z_g hf
  refine z_ald B hW hg4 hg5 dX10_give_40 ?_
  refine lv_bipush (v := (100 : Int32)) hx hb dX10_give_41 (by decide) ?_
  refine lv_icmp_ge (tgt := 50) hx hb dX10_give_43 (by decide) (fun hc43 => ?_) (fun hc43 => ?_)
  · replace hf := z_ip hc43 hf
    refine lv_iconst (v := (0 : Int32)) hx hb dX10_give_50 (by decide) ?_
    exact t_X10_give_51 B hf hW hl 
  · replace hf := z_in hc43 hf
    refine lv_iconst (v := (1 : Int32)) hx hb dX10_give_46 (by decide) ?_
    refine lv_goto (tgt := 51) hx hb dX10_give_47 (by decide) ?_
    exact t_X10_give_51 B hf hW hl 
set_option maxRecDepth 100000 in
def f_X10_give_34 (σ : zSt) (l0 : Nat) (l1 : Int32) (l2 : Int32) (l3 : Int32) (s0 : Int32) (s1 : Option Nat) : Option (Int32 × zSt) :=
(f_X10_give_35 σ l0 l1 l2 l3 (0 : Int32) s0 s1)
set_option maxRecDepth 20000 in
set_option maxHeartbeats 4000000 in
theorem t_X10_give_34 (B : z_B p s m args meth c D cA bs RX10 cX10_give 4 (some .int)) {r : Int32} {σ' : zSt} {σ : zSt} {l0 : Nat} {l1 : Int32} {l2 : Int32} {l3 : Int32} {s0 : Int32} {s1 : Option Nat} (hf : f_X10_give_34 σ l0 l1 l2 l3 s0 s1 = some (r, σ')) {H : Heap} {locs : List Loc} {ls : Array Slot} (hW : z_Ok D cA bs s σ H locs) (hl : lv_has ls 4 [(0, .ref l0), (1, .int l1), (2, .int l2), (3, .int l3)])  : W p l e (zrm 3 0 0 64) s m args below meth c H locs 0 0 (MQ below (z_Qi D cA bs r σ') args s 0 0 (fun q => bs ≤ q)) (F0 m 34 ls [.int s0, va_rf s1]) := by
  have hx := B.1
  have hb := B.2.1
  have hown := B.2.2.2.1
  have hts := B.2.2.2.2.1
  unfold f_X10_give_34 at hf
  refine lv_iconst (v := (0 : Int32)) hx hb dX10_give_34 (by decide) ?_
  exact t_X10_give_35 B hf hW hl 
set_option maxRecDepth 100000 in
def f_X10_give (σ : zSt) (l0 : Nat) (l1 : Int32) (l2 : Int32) (l3 : Int32) : Option (Int32 × zSt) :=
(if z_ob σ l0 9 then (zb (f_X10_isStation σ l0 l1) (fun r3 => (zb (f_X10_in σ l2.toInt64 (1 : Int64) (20 : Int64)) (fun r5 => (if r5 = 0 then
(f_X10_give_34 σ l0 l1 l2 l3 r3 (some l0))
else
(zb (f_X10_in σ l3.toInt64 (0 : Int64) (9 : Int64)) (fun r7 => (if r7 = 0 then
(f_X10_give_34 σ l0 l1 l2 l3 r3 (some l0))
else
(f_X10_give_35 σ l0 l1 l2 l3 (1 : Int32) r3 (some l0)))))))))) else none)
set_option maxRecDepth 20000 in
set_option maxHeartbeats 4000000 in
theorem K_X10_give {σ : zSt} {l0 : Nat} {l1 : Int32} {l2 : Int32} {l3 : Int32} {r : Int32} {σ' : zSt} (hf : f_X10_give σ l0 l1 l2 l3 = some (r, σ')) : z_M l D cA bs yX10_give cX10_give 4 (some .int) 3 64 0 0 [.ref l0, .int l1, .int l2, .int l3] σ (z_Qi D cA bs r σ') := by
  refine z_met (own := RX10) (lv := [(0, .ref l0), (1, .int l1), (2, .int l2), (3, .int l3)]) (by decide) rfl (Nat.le_of_ble_eq_true rfl) rfl (fun p e s m below meth c ls B hnm hW hl => ?_)
  have hx := B.1
  have hb := B.2.1
  have hown := B.2.2.2.1
  have hts := B.2.2.2.2.1
  unfold f_X10_give at hf
  refine lv_aload_n hx hb dX10_give_0 rfl (lv_at hl 0 rfl) ?_
  refine lv_aload_n hx hb dX10_give_1 rfl (lv_at hl 0 rfl) ?_
  refine lv_iload_n hx hb dX10_give_2 rfl (lv_at hl 1 rfl) ?_
  obtain ⟨hg1, hf⟩ := z_g hf
  obtain ⟨r3, hq2, hf⟩ := z_b hf
  refine z_ci hW (z_runV (As := [.int l1]) (rest := [.ref l0]) B hW zv_X10_45 (K_X10_isStation hq2) hg1 rfl rfl rfl (Nat.le_of_ble_eq_true rfl) hl.1 ⟨Nat.le_of_ble_eq_true rfl, Nat.le_of_ble_eq_true rfl⟩ dX10_give_3 ⟨Nat.le_of_ble_eq_true rfl, Nat.le_of_ble_eq_true rfl⟩) (fun H locs hW => ?_)
  refine lv_iload_n hx hb dX10_give_6 rfl (lv_at hl 2 rfl) ?_
  refine lv_i2l (v := l2.toInt64) hx hb dX10_give_7 rfl ?_
  refine lv_lconst (v := (1 : Int64)) hx hb dX10_give_8 (by decide) ?_
  refine lv_ldc2 hx hb hown (hts _ zk_X10_66) dX10_give_9 ?_
  obtain ⟨r5, hq4, hf⟩ := z_b hf
  refine z_ci hW (z_runS (As := [.long l2.toInt64, .long (1 : Int64), .long (20 : Int64)]) (rest := [.int r3, .ref l0]) B hW zv_X10_35 (K_X10_in hq4) rfl rfl (Nat.le_of_ble_eq_true rfl) hl.1 ⟨Nat.le_of_ble_eq_true rfl, Nat.le_of_ble_eq_true rfl⟩ dX10_give_12 ⟨Nat.le_of_ble_eq_true rfl, Nat.le_of_ble_eq_true rfl⟩) (fun H locs hW => ?_)
  refine lv_if_eq (tgt := 34) hx hb dX10_give_15 (by decide) (fun hc15 => ?_) (fun hc15 => ?_)
  · replace hf := z_ip hc15 hf
    exact t_X10_give_34 B hf hW hl 
  · replace hf := z_in hc15 hf
    refine lv_iload_n hx hb dX10_give_18 rfl (lv_at hl 3 rfl) ?_
    refine lv_i2l (v := l3.toInt64) hx hb dX10_give_19 rfl ?_
    refine lv_lconst (v := (0 : Int64)) hx hb dX10_give_20 (by decide) ?_
    refine lv_ldc2 hx hb hown (hts _ zk_X10_68) dX10_give_21 ?_
    obtain ⟨r7, hq6, hf⟩ := z_b hf
    refine z_ci hW (z_runS (As := [.long l3.toInt64, .long (0 : Int64), .long (9 : Int64)]) (rest := [.int r3, .ref l0]) B hW zv_X10_35 (K_X10_in hq6) rfl rfl (Nat.le_of_ble_eq_true rfl) hl.1 ⟨Nat.le_of_ble_eq_true rfl, Nat.le_of_ble_eq_true rfl⟩ dX10_give_24 ⟨Nat.le_of_ble_eq_true rfl, Nat.le_of_ble_eq_true rfl⟩) (fun H locs hW => ?_)
    refine lv_if_eq (tgt := 34) hx hb dX10_give_27 (by decide) (fun hc27 => ?_) (fun hc27 => ?_)
    · replace hf := z_ip hc27 hf
      exact t_X10_give_34 B hf hW hl 
    · replace hf := z_in hc27 hf
      refine lv_iconst (v := (1 : Int32)) hx hb dX10_give_30 (by decide) ?_
      refine lv_goto (tgt := 35) hx hb dX10_give_31 (by decide) ?_
      exact t_X10_give_35 B hf hW hl 
set_option maxRecDepth 100000 in
def f_X10_addNoise_47 (σ : zSt) (l0 : Nat) (l1 : Int32) (l2 : Int32) (s0 : Int32) (s1 : Int32) (s2 : Option Nat) : Option (Int32 × zSt) :=
(zc s2 none (fun a1 => (if z_ob σ a1 9 then (zb2 (f_X10_goes σ a1 s1 s0 (1 : Int32)) (fun r5 σ6 => (if r5 = 0 then
(some ((0 : Int32), σ6))
else
(if z_ob σ6 l0 9 then (zb (f_X10_save σ6 l0) (fun σ9 => (if z_ob σ9 l0 9 then (zc (z_R σ9 l0 0) none (fun q11 => (zc (z_R σ9 l0 0) none (fun q13 => (if z_ar σ9 q13 0 then (if z_ix (6 : Int32) (z_ln σ9 q13) then (if z_ar σ9 q11 0 then (if z_ix ((742 : Int32) + ((2 : Int32) * (z_I σ9 q13 (6 : Int32).toNatClampNeg))) (z_ln σ9 q11) then (zl (z_pI σ9 q11 ((742 : Int32) + ((2 : Int32) * (z_I σ9 q13 (6 : Int32).toNatClampNeg))).toNatClampNeg l1) (fun σ19 => (if z_ob σ19 l0 9 then (zc (z_R σ19 l0 0) none (fun q22 => (zc (z_R σ19 l0 0) none (fun q24 => (if z_ar σ19 q24 0 then (if z_ix (6 : Int32) (z_ln σ19 q24) then (if z_ar σ19 q22 0 then (if z_ix (((742 : Int32) + ((2 : Int32) * (z_I σ19 q24 (6 : Int32).toNatClampNeg))) + (1 : Int32)) (z_ln σ19 q22) then (zl (z_pI σ19 q22 (((742 : Int32) + ((2 : Int32) * (z_I σ19 q24 (6 : Int32).toNatClampNeg))) + (1 : Int32)).toNatClampNeg l2) (fun σ30 => (if z_ob σ30 l0 9 then (zc (z_R σ30 l0 0) none (fun q33 => (if z_ar σ30 q33 0 then (if z_ix (6 : Int32) (z_ln σ30 q33) then (zl (z_pI σ30 q33 (6 : Int32).toNatClampNeg ((z_I σ30 q33 (6 : Int32).toNatClampNeg) + (1 : Int32))) (fun σ37 => (if z_ob σ37 l0 9 then (zc (z_R σ37 l0 0) none (fun q40 => (if z_ar σ37 q40 0 then (if z_ix (6 : Int32) (z_ln σ37 q40) then (some ((z_I σ37 q40 (6 : Int32).toNatClampNeg), σ37)) else none) else none))) else none))) else none) else none))) else none))) else none) else none) else none) else none))))) else none))) else none) else none) else none) else none))))) else none))) else none)))) else none)))
set_option maxRecDepth 20000 in
set_option maxHeartbeats 4000000 in
theorem t_X10_addNoise_47 (B : z_B p s m args meth c D cA bs RX10 cX10_addNoise 3 (some .int)) {r : Int32} {σ' : zSt} {σ : zSt} {l0 : Nat} {l1 : Int32} {l2 : Int32} {s0 : Int32} {s1 : Int32} {s2 : Option Nat} (hf : f_X10_addNoise_47 σ l0 l1 l2 s0 s1 s2 = some (r, σ')) {H : Heap} {locs : List Loc} {ls : Array Slot} (hW : z_Ok D cA bs s σ H locs) (hl : lv_has ls 3 [(0, .ref l0), (1, .int l1), (2, .int l2)])  : W p l e (zrm 1 0 0 25) s m args below meth c H locs 0 0 (MQ below (z_Qi D cA bs r σ') args s 0 0 (fun q => bs ≤ q)) (F0 m 47 ls [.int s0, .int s1, va_rf s2]) := by
  have hx := B.1
  have hb := B.2.1
  have hown := B.2.2.2.1
  have hts := B.2.2.2.2.1
  unfold f_X10_addNoise_47 at hf
  refine lv_iconst (v := (1 : Int32)) hx hb dX10_addNoise_47 (by decide) ?_
  obtain ⟨a1, hn2, hf⟩ := z_nn hf
  subst hn2
  obtain ⟨hg3, hf⟩ := z_g hf
  obtain ⟨r5, σ6, hq4, hf⟩ := z_b2 hf
  refine z_ci hW (z_runV (As := [.int s1, .int s0, .int (1 : Int32)]) (rest := []) B hW zv_X10_53 (K_X10_goes hq4) hg3 rfl rfl rfl (Nat.le_of_ble_eq_true rfl) hl.1 ⟨Nat.le_of_ble_eq_true rfl, Nat.le_of_ble_eq_true rfl⟩ dX10_addNoise_48 ⟨Nat.le_of_ble_eq_true rfl, Nat.le_of_ble_eq_true rfl⟩) (fun H locs hW => ?_)
  refine lv_if_ne (tgt := 56) hx hb dX10_addNoise_51 (by decide) (fun hc51 => ?_) (fun hc51 => ?_)
  · replace hf := z_in hc51 hf
    refine lv_aload_n hx hb dX10_addNoise_56 rfl (lv_at hl 0 rfl) ?_
    obtain ⟨hg7, hf⟩ := z_g hf
    obtain ⟨σ9, hq8, hf⟩ := z_b hf
    refine z_cv hW (z_runV (As := []) (rest := []) B hW zv_X10_57 (K_X10_save hq8) hg7 rfl rfl rfl (Nat.le_of_ble_eq_true rfl) hl.1 ⟨Nat.le_of_ble_eq_true rfl, Nat.le_of_ble_eq_true rfl⟩ dX10_addNoise_57 ⟨Nat.le_of_ble_eq_true rfl, Nat.le_of_ble_eq_true rfl⟩) (fun H locs hW => ?_)
    refine lv_aload_n hx hb dX10_addNoise_60 rfl (lv_at hl 0 rfl) ?_
    obtain ⟨hg10, hf⟩ := z_g hf
    obtain ⟨q11, hv12, hf⟩ := z_nn hf
    refine z_getN B hW (Or.inr zf_X10_7) rfl hg10 hv12 dX10_addNoise_61 ?_
    refine lv_sipush (v := (742 : Int32)) hx hb dX10_addNoise_64 (by decide) ?_
    refine lv_iconst (v := (2 : Int32)) hx hb dX10_addNoise_67 (by decide) ?_
    refine lv_aload_n hx hb dX10_addNoise_68 rfl (lv_at hl 0 rfl) ?_
    obtain ⟨q13, hv14, hf⟩ := z_nn hf
    refine z_getN B hW (Or.inr zf_X10_7) rfl hg10 hv14 dX10_addNoise_69 ?_
    refine lv_bipush (v := (6 : Int32)) hx hb dX10_addNoise_72 (by decide) ?_
    obtain ⟨hg15, hf⟩ := z_g hf
    obtain ⟨hg16, hf⟩ := z_g hf
    refine z_ald B hW hg15 hg16 dX10_addNoise_74 ?_
    refine lv_imul hx hb dX10_addNoise_75 ?_
    refine lv_iadd hx hb dX10_addNoise_76 ?_
    refine lv_iload_n hx hb dX10_addNoise_77 rfl (lv_at hl 1 rfl) ?_
    obtain ⟨hg17, hf⟩ := z_g hf
    obtain ⟨hg18, hf⟩ := z_g hf
    obtain ⟨σ19, hs20, hf⟩ := z_l hf
    refine z_ast B hW hg17 hg18 hs20 dX10_addNoise_78 (fun H locs hW => ?_)
    refine lv_aload_n hx hb dX10_addNoise_79 rfl (lv_at hl 0 rfl) ?_
    obtain ⟨hg21, hf⟩ := z_g hf
    obtain ⟨q22, hv23, hf⟩ := z_nn hf
    refine z_getN B hW (Or.inr zf_X10_7) rfl hg21 hv23 dX10_addNoise_80 ?_
    refine lv_sipush (v := (742 : Int32)) hx hb dX10_addNoise_83 (by decide) ?_
    refine lv_iconst (v := (2 : Int32)) hx hb dX10_addNoise_86 (by decide) ?_
    refine lv_aload_n hx hb dX10_addNoise_87 rfl (lv_at hl 0 rfl) ?_
    obtain ⟨q24, hv25, hf⟩ := z_nn hf
    refine z_getN B hW (Or.inr zf_X10_7) rfl hg21 hv25 dX10_addNoise_88 ?_
    refine lv_bipush (v := (6 : Int32)) hx hb dX10_addNoise_91 (by decide) ?_
    obtain ⟨hg26, hf⟩ := z_g hf
    obtain ⟨hg27, hf⟩ := z_g hf
    refine z_ald B hW hg26 hg27 dX10_addNoise_93 ?_
    refine lv_imul hx hb dX10_addNoise_94 ?_
    refine lv_iadd hx hb dX10_addNoise_95 ?_
    refine lv_iconst (v := (1 : Int32)) hx hb dX10_addNoise_96 (by decide) ?_
    refine lv_iadd hx hb dX10_addNoise_97 ?_
    refine lv_iload_n hx hb dX10_addNoise_98 rfl (lv_at hl 2 rfl) ?_
    obtain ⟨hg28, hf⟩ := z_g hf
    obtain ⟨hg29, hf⟩ := z_g hf
    obtain ⟨σ30, hs31, hf⟩ := z_l hf
    refine z_ast B hW hg28 hg29 hs31 dX10_addNoise_99 (fun H locs hW => ?_)
    refine lv_aload_n hx hb dX10_addNoise_100 rfl (lv_at hl 0 rfl) ?_
    obtain ⟨hg32, hf⟩ := z_g hf
    obtain ⟨q33, hv34, hf⟩ := z_nn hf
    refine z_getN B hW (Or.inr zf_X10_7) rfl hg32 hv34 dX10_addNoise_101 ?_
    refine lv_bipush (v := (6 : Int32)) hx hb dX10_addNoise_104 (by decide) ?_
    refine lv_dup2_11 hx hb dX10_addNoise_106 rfl rfl ?_
    obtain ⟨hg35, hf⟩ := z_g hf
    obtain ⟨hg36, hf⟩ := z_g hf
    refine z_ald B hW hg35 hg36 dX10_addNoise_107 ?_
    refine lv_iconst (v := (1 : Int32)) hx hb dX10_addNoise_108 (by decide) ?_
    refine lv_iadd hx hb dX10_addNoise_109 ?_
    obtain ⟨σ37, hs38, hf⟩ := z_l hf
    refine z_ast B hW hg35 hg36 hs38 dX10_addNoise_110 (fun H locs hW => ?_)
    refine lv_aload_n hx hb dX10_addNoise_111 rfl (lv_at hl 0 rfl) ?_
    obtain ⟨hg39, hf⟩ := z_g hf
    obtain ⟨q40, hv41, hf⟩ := z_nn hf
    refine z_getN B hW (Or.inr zf_X10_7) rfl hg39 hv41 dX10_addNoise_112 ?_
    refine lv_bipush (v := (6 : Int32)) hx hb dX10_addNoise_115 (by decide) ?_
    obtain ⟨hg42, hf⟩ := z_g hf
    obtain ⟨hg43, hf⟩ := z_g hf
    refine z_ald B hW hg42 hg43 dX10_addNoise_117 ?_
    obtain ⟨rfl, rfl⟩ := z_e2 hf
    exact z_ri B hW dX10_addNoise_118 (Nat.le_of_ble_eq_true rfl) (Nat.le_of_ble_eq_true rfl)
  · replace hf := z_ip hc51 hf
    refine lv_iconst (v := (0 : Int32)) hx hb dX10_addNoise_54 (by decide) ?_
    obtain ⟨rfl, rfl⟩ := z_e2 hf
    exact z_ri B hW dX10_addNoise_55 (Nat.le_of_ble_eq_true rfl) (Nat.le_of_ble_eq_true rfl)
set_option maxRecDepth 100000 in
def f_X10_addNoise_30 (σ : zSt) (l0 : Nat) (l1 : Int32) (l2 : Int32) (s0 : Int32) (s1 : Option Nat) : Option (Int32 × zSt) :=
(if z_ob σ l0 9 then (zc (z_R σ l0 0) none (fun q2 => (if z_ar σ q2 0 then (if z_ix (6 : Int32) (z_ln σ q2) then (if (20 : Int32) ≤ (z_I σ q2 (6 : Int32).toNatClampNeg) then
(f_X10_addNoise_47 σ l0 l1 l2 (0 : Int32) s0 s1)
else
(f_X10_addNoise_47 σ l0 l1 l2 (1 : Int32) s0 s1)) else none) else none))) else none)
set_option maxRecDepth 20000 in
set_option maxHeartbeats 4000000 in
theorem t_X10_addNoise_30 (B : z_B p s m args meth c D cA bs RX10 cX10_addNoise 3 (some .int)) {r : Int32} {σ' : zSt} {σ : zSt} {l0 : Nat} {l1 : Int32} {l2 : Int32} {s0 : Int32} {s1 : Option Nat} (hf : f_X10_addNoise_30 σ l0 l1 l2 s0 s1 = some (r, σ')) {H : Heap} {locs : List Loc} {ls : Array Slot} (hW : z_Ok D cA bs s σ H locs) (hl : lv_has ls 3 [(0, .ref l0), (1, .int l1), (2, .int l2)])  : W p l e (zrm 1 0 0 25) s m args below meth c H locs 0 0 (MQ below (z_Qi D cA bs r σ') args s 0 0 (fun q => bs ≤ q)) (F0 m 30 ls [.int s0, va_rf s1]) := by
  have hx := B.1
  have hb := B.2.1
  have hown := B.2.2.2.1
  have hts := B.2.2.2.2.1
  unfold f_X10_addNoise_30 at hf
  refine lv_aload_n hx hb dX10_addNoise_30 rfl (lv_at hl 0 rfl) ?_
  obtain ⟨hg1, hf⟩ := z_g hf
  obtain ⟨q2, hv3, hf⟩ := z_nn hf
  refine z_getN B hW (Or.inr zf_X10_7) rfl hg1 hv3 dX10_addNoise_31 ?_
  refine lv_bipush (v := (6 : Int32)) hx hb dX10_addNoise_34 (by decide) ?_
  obtain ⟨hg4, hf⟩ := z_g hf
  obtain ⟨hg5, hf⟩ := z_g hf
  refine z_ald B hW hg4 hg5 dX10_addNoise_36 ?_
  refine lv_bipush (v := (20 : Int32)) hx hb dX10_addNoise_37 (by decide) ?_
  refine lv_icmp_ge (tgt := 46) hx hb dX10_addNoise_39 (by decide) (fun hc39 => ?_) (fun hc39 => ?_)
  · replace hf := z_ip hc39 hf
    refine lv_iconst (v := (0 : Int32)) hx hb dX10_addNoise_46 (by decide) ?_
    exact t_X10_addNoise_47 B hf hW hl 
  · replace hf := z_in hc39 hf
    refine lv_iconst (v := (1 : Int32)) hx hb dX10_addNoise_42 (by decide) ?_
    refine lv_goto (tgt := 47) hx hb dX10_addNoise_43 (by decide) ?_
    exact t_X10_addNoise_47 B hf hW hl 
set_option maxRecDepth 100000 in
def f_X10_addNoise_29 (σ : zSt) (l0 : Nat) (l1 : Int32) (l2 : Int32) (s0 : Option Nat) : Option (Int32 × zSt) :=
(f_X10_addNoise_30 σ l0 l1 l2 (0 : Int32) s0)
set_option maxRecDepth 20000 in
set_option maxHeartbeats 4000000 in
theorem t_X10_addNoise_29 (B : z_B p s m args meth c D cA bs RX10 cX10_addNoise 3 (some .int)) {r : Int32} {σ' : zSt} {σ : zSt} {l0 : Nat} {l1 : Int32} {l2 : Int32} {s0 : Option Nat} (hf : f_X10_addNoise_29 σ l0 l1 l2 s0 = some (r, σ')) {H : Heap} {locs : List Loc} {ls : Array Slot} (hW : z_Ok D cA bs s σ H locs) (hl : lv_has ls 3 [(0, .ref l0), (1, .int l1), (2, .int l2)])  : W p l e (zrm 1 0 0 25) s m args below meth c H locs 0 0 (MQ below (z_Qi D cA bs r σ') args s 0 0 (fun q => bs ≤ q)) (F0 m 29 ls [va_rf s0]) := by
  have hx := B.1
  have hb := B.2.1
  have hown := B.2.2.2.1
  have hts := B.2.2.2.2.1
  unfold f_X10_addNoise_29 at hf
  refine lv_iconst (v := (0 : Int32)) hx hb dX10_addNoise_29 (by decide) ?_
  exact t_X10_addNoise_30 B hf hW hl 
set_option maxRecDepth 100000 in
def f_X10_addNoise (σ : zSt) (l0 : Nat) (l1 : Int32) (l2 : Int32) : Option (Int32 × zSt) :=
(zb (f_X10_in σ l1.toInt64 (0 : Int64) l2.toInt64) (fun r2 => (if r2 = 0 then
(f_X10_addNoise_29 σ l0 l1 l2 (some l0))
else
(zb (f_X10_in σ l2.toInt64 l1.toInt64 (1000000 : Int64)) (fun r4 => (if r4 = 0 then
(f_X10_addNoise_29 σ l0 l1 l2 (some l0))
else
(f_X10_addNoise_30 σ l0 l1 l2 (1 : Int32) (some l0))))))))
set_option maxRecDepth 20000 in
set_option maxHeartbeats 4000000 in
theorem K_X10_addNoise {σ : zSt} {l0 : Nat} {l1 : Int32} {l2 : Int32} {r : Int32} {σ' : zSt} (hf : f_X10_addNoise σ l0 l1 l2 = some (r, σ')) : z_M l D cA bs yX10_addNoise cX10_addNoise 3 (some .int) 1 25 0 0 [.ref l0, .int l1, .int l2] σ (z_Qi D cA bs r σ') := by
  refine z_met (own := RX10) (lv := [(0, .ref l0), (1, .int l1), (2, .int l2)]) (by decide) rfl (Nat.le_of_ble_eq_true rfl) rfl (fun p e s m below meth c ls B hnm hW hl => ?_)
  have hx := B.1
  have hb := B.2.1
  have hown := B.2.2.2.1
  have hts := B.2.2.2.2.1
  unfold f_X10_addNoise at hf
  refine lv_aload_n hx hb dX10_addNoise_0 rfl (lv_at hl 0 rfl) ?_
  refine lv_iload_n hx hb dX10_addNoise_1 rfl (lv_at hl 1 rfl) ?_
  refine lv_i2l (v := l1.toInt64) hx hb dX10_addNoise_2 rfl ?_
  refine lv_lconst (v := (0 : Int64)) hx hb dX10_addNoise_3 (by decide) ?_
  refine lv_iload_n hx hb dX10_addNoise_4 rfl (lv_at hl 2 rfl) ?_
  refine lv_i2l (v := l2.toInt64) hx hb dX10_addNoise_5 rfl ?_
  obtain ⟨r2, hq1, hf⟩ := z_b hf
  refine z_ci hW (z_runS (As := [.long l1.toInt64, .long (0 : Int64), .long l2.toInt64]) (rest := [.ref l0]) B hW zv_X10_35 (K_X10_in hq1) rfl rfl (Nat.le_of_ble_eq_true rfl) hl.1 ⟨Nat.le_of_ble_eq_true rfl, Nat.le_of_ble_eq_true rfl⟩ dX10_addNoise_6 ⟨Nat.le_of_ble_eq_true rfl, Nat.le_of_ble_eq_true rfl⟩) (fun H locs hW => ?_)
  refine lv_if_eq (tgt := 29) hx hb dX10_addNoise_9 (by decide) (fun hc9 => ?_) (fun hc9 => ?_)
  · replace hf := z_ip hc9 hf
    exact t_X10_addNoise_29 B hf hW hl 
  · replace hf := z_in hc9 hf
    refine lv_iload_n hx hb dX10_addNoise_12 rfl (lv_at hl 2 rfl) ?_
    refine lv_i2l (v := l2.toInt64) hx hb dX10_addNoise_13 rfl ?_
    refine lv_iload_n hx hb dX10_addNoise_14 rfl (lv_at hl 1 rfl) ?_
    refine lv_i2l (v := l1.toInt64) hx hb dX10_addNoise_15 rfl ?_
    refine lv_ldc2 hx hb hown (hts _ zk_X10_74) dX10_addNoise_16 ?_
    obtain ⟨r4, hq3, hf⟩ := z_b hf
    refine z_ci hW (z_runS (As := [.long l2.toInt64, .long l1.toInt64, .long (1000000 : Int64)]) (rest := [.ref l0]) B hW zv_X10_35 (K_X10_in hq3) rfl rfl (Nat.le_of_ble_eq_true rfl) hl.1 ⟨Nat.le_of_ble_eq_true rfl, Nat.le_of_ble_eq_true rfl⟩ dX10_addNoise_19 ⟨Nat.le_of_ble_eq_true rfl, Nat.le_of_ble_eq_true rfl⟩) (fun H locs hW => ?_)
    refine lv_if_eq (tgt := 29) hx hb dX10_addNoise_22 (by decide) (fun hc22 => ?_) (fun hc22 => ?_)
    · replace hf := z_ip hc22 hf
      exact t_X10_addNoise_29 B hf hW hl 
    · replace hf := z_in hc22 hf
      refine lv_iconst (v := (1 : Int32)) hx hb dX10_addNoise_25 (by decide) ?_
      refine lv_goto (tgt := 30) hx hb dX10_addNoise_26 (by decide) ?_
      exact t_X10_addNoise_30 B hf hW hl 
set_option maxRecDepth 100000 in
def f_X10_isLoud_62 (σ : zSt) (l0 : Nat) (l1 : Int32) (l2 : Int32) (l4 : Int32) (s0 : Int32) : Option ((Int32 × Int32) ⊕ (Int32)) :=
(some (.inl (s0, (l4 + (1 : Int32)))))
set_option maxRecDepth 20000 in
set_option maxHeartbeats 4000000 in
theorem t_X10_isLoud_62 (B : z_B p s m args meth c D cA bs RX10 cX10_isLoud 5 (some .boolean)) {r : Int32} {o1 : (Int32 × Int32) ⊕ (Int32)} {σ : zSt} {l0 : Nat} {l1 : Int32} {l2 : Int32} {l4 : Int32} {s0 : Int32} (hf : f_X10_isLoud_62 σ l0 l1 l2 l4 s0 = some o1) {H : Heap} {locs : List Loc} {ls : Array Slot} (hW : z_Ok D cA bs s σ H locs) (hl : lv_has ls 5 [(0, .ref l0), (1, .int l1), (2, .int l2), (4, .int l4)]) (hk1 : ∀ (l3 : Int32) (l4 : Int32), o1 = .inl (l3, l4) → ∀ {H : Heap} {locs : List Loc} {ls : Array Slot}, z_Ok D cA bs s σ H locs → lv_has ls 5 [(0, .ref l0), (1, .int l1), (2, .int l2), (3, .int l3), (4, .int l4)] → W p l e (zrm 0 0 0 0) s m args below meth c H locs 0 0 (MQ below (z_Qi D cA bs r σ) args s 0 0 (fun q => bs ≤ q)) (F0 m 5 ls [])) (hr1 : ∀ x, o1 = .inr x → x = r) : W p l e (zrm 0 0 0 0) s m args below meth c H locs 0 0 (MQ below (z_Qi D cA bs r σ) args s 0 0 (fun q => bs ≤ q)) (F0 m 62 ls [.int s0]) := by
  have hx := B.1
  have hb := B.2.1
  have hown := B.2.2.2.1
  have hts := B.2.2.2.2.1
  unfold f_X10_isLoud_62 at hf
  refine lv_istore_n (lv' := [(3, .int s0), (0, .ref l0), (1, .int l1), (2, .int l2), (4, .int l4)]) hx hb dX10_isLoud_62 rfl hl (by decide) rfl (fun ls hl => ?_)
  refine lv_iinc (v := (l4 + (1 : Int32))) (lv' := [(4, .int (l4 + (1 : Int32))), (3, .int s0), (0, .ref l0), (1, .int l1), (2, .int l2)]) hx hb dX10_isLoud_63 hl (k := 4) rfl rfl (by decide) rfl (fun ls hl => ?_)
  refine lv_goto (tgt := 5) hx hb dX10_isLoud_66 (by decide) ?_
  exact hk1 _ _ (Option.some.inj hf).symm hW (lv_sub hl [2, 3, 4, 1, 0] rfl)
set_option maxRecDepth 100000 in
def f_X10_isLoud_57 (σ : zSt) (l0 : Nat) (l1 : Int32) (l2 : Int32) (l4 : Int32) : Option ((Int32 × Int32) ⊕ (Int32)) :=
(f_X10_isLoud_62 σ l0 l1 l2 l4 (1 : Int32))
set_option maxRecDepth 20000 in
set_option maxHeartbeats 4000000 in
theorem t_X10_isLoud_57 (B : z_B p s m args meth c D cA bs RX10 cX10_isLoud 5 (some .boolean)) {r : Int32} {o1 : (Int32 × Int32) ⊕ (Int32)} {σ : zSt} {l0 : Nat} {l1 : Int32} {l2 : Int32} {l4 : Int32} (hf : f_X10_isLoud_57 σ l0 l1 l2 l4 = some o1) {H : Heap} {locs : List Loc} {ls : Array Slot} (hW : z_Ok D cA bs s σ H locs) (hl : lv_has ls 5 [(0, .ref l0), (1, .int l1), (2, .int l2), (4, .int l4)]) (hk1 : ∀ (l3 : Int32) (l4 : Int32), o1 = .inl (l3, l4) → ∀ {H : Heap} {locs : List Loc} {ls : Array Slot}, z_Ok D cA bs s σ H locs → lv_has ls 5 [(0, .ref l0), (1, .int l1), (2, .int l2), (3, .int l3), (4, .int l4)] → W p l e (zrm 0 0 0 0) s m args below meth c H locs 0 0 (MQ below (z_Qi D cA bs r σ) args s 0 0 (fun q => bs ≤ q)) (F0 m 5 ls [])) (hr1 : ∀ x, o1 = .inr x → x = r) : W p l e (zrm 0 0 0 0) s m args below meth c H locs 0 0 (MQ below (z_Qi D cA bs r σ) args s 0 0 (fun q => bs ≤ q)) (F0 m 57 ls []) := by
  have hx := B.1
  have hb := B.2.1
  have hown := B.2.2.2.1
  have hts := B.2.2.2.2.1
  unfold f_X10_isLoud_57 at hf
  refine lv_iconst (v := (1 : Int32)) hx hb dX10_isLoud_57 (by decide) ?_
  refine lv_goto (tgt := 62) hx hb dX10_isLoud_58 (by decide) ?_
  exact t_X10_isLoud_62 B hf hW hl hk1 hr1
set_option maxRecDepth 100000 in
def f_X10_isLoud_61 (σ : zSt) (l0 : Nat) (l1 : Int32) (l2 : Int32) (l4 : Int32) : Option ((Int32 × Int32) ⊕ (Int32)) :=
(f_X10_isLoud_62 σ l0 l1 l2 l4 (0 : Int32))
set_option maxRecDepth 20000 in
set_option maxHeartbeats 4000000 in
theorem t_X10_isLoud_61 (B : z_B p s m args meth c D cA bs RX10 cX10_isLoud 5 (some .boolean)) {r : Int32} {o1 : (Int32 × Int32) ⊕ (Int32)} {σ : zSt} {l0 : Nat} {l1 : Int32} {l2 : Int32} {l4 : Int32} (hf : f_X10_isLoud_61 σ l0 l1 l2 l4 = some o1) {H : Heap} {locs : List Loc} {ls : Array Slot} (hW : z_Ok D cA bs s σ H locs) (hl : lv_has ls 5 [(0, .ref l0), (1, .int l1), (2, .int l2), (4, .int l4)]) (hk1 : ∀ (l3 : Int32) (l4 : Int32), o1 = .inl (l3, l4) → ∀ {H : Heap} {locs : List Loc} {ls : Array Slot}, z_Ok D cA bs s σ H locs → lv_has ls 5 [(0, .ref l0), (1, .int l1), (2, .int l2), (3, .int l3), (4, .int l4)] → W p l e (zrm 0 0 0 0) s m args below meth c H locs 0 0 (MQ below (z_Qi D cA bs r σ) args s 0 0 (fun q => bs ≤ q)) (F0 m 5 ls [])) (hr1 : ∀ x, o1 = .inr x → x = r) : W p l e (zrm 0 0 0 0) s m args below meth c H locs 0 0 (MQ below (z_Qi D cA bs r σ) args s 0 0 (fun q => bs ≤ q)) (F0 m 61 ls []) := by
  have hx := B.1
  have hb := B.2.1
  have hown := B.2.2.2.1
  have hts := B.2.2.2.2.1
  unfold f_X10_isLoud_61 at hf
  refine lv_iconst (v := (0 : Int32)) hx hb dX10_isLoud_61 (by decide) ?_
  exact t_X10_isLoud_62 B hf hW hl hk1 hr1
set_option maxRecDepth 100000 in
def b_X10_isLoud_5 (σ : zSt) (l0 : Nat) (l1 : Int32) (l2 : Int32) (l3 : Int32) (l4 : Int32) : Option ((Int32 × Int32) ⊕ (Int32)) :=
(if z_ob σ l0 9 then (zc (z_R σ l0 0) none (fun q2 => (if z_ar σ q2 0 then (if z_ix (6 : Int32) (z_ln σ q2) then (if (z_I σ q2 (6 : Int32).toNatClampNeg) ≤ l4 then
(zex (if z_bl l3 then (some l3) else none))
else
(if l3 = 0 then
(zc (z_R σ l0 0) none (fun q8 => (if z_ar σ q8 0 then (if z_ix ((742 : Int32) + ((2 : Int32) * l4)) (z_ln σ q8) then (if l2 < (z_I σ q8 ((742 : Int32) + ((2 : Int32) * l4)).toNatClampNeg) then
(f_X10_isLoud_61 σ l0 l1 l2 l4)
else
(zc (z_R σ l0 0) none (fun q12 => (if z_ar σ q12 0 then (if z_ix (((742 : Int32) + ((2 : Int32) * l4)) + (1 : Int32)) (z_ln σ q12) then (if (z_I σ q12 (((742 : Int32) + ((2 : Int32) * l4)) + (1 : Int32)).toNatClampNeg) < l1 then
(f_X10_isLoud_61 σ l0 l1 l2 l4)
else
(f_X10_isLoud_57 σ l0 l1 l2 l4)) else none) else none)))) else none) else none)))
else
(f_X10_isLoud_57 σ l0 l1 l2 l4))) else none) else none))) else none)
set_option maxRecDepth 100000 in
def f_X10_isLoud_5 (σ : zSt) (l0 : Nat) (l1 : Int32) (l2 : Int32) (l3 : Int32) (l4 : Int32) : Option (Int32) := zloop (fun (t : Int32 × Int32) => b_X10_isLoud_5 σ l0 l1 l2 t.1 t.2) zN (l3, l4)
set_option maxRecDepth 20000 in
set_option maxHeartbeats 4000000 in
theorem tb_X10_isLoud_5 (B : z_B p s m args meth c D cA bs RX10 cX10_isLoud 5 (some .boolean)) {r : Int32} {o1 : (Int32 × Int32) ⊕ (Int32)} {σ : zSt} {l0 : Nat} {l1 : Int32} {l2 : Int32} {l3 : Int32} {l4 : Int32} (hf : b_X10_isLoud_5 σ l0 l1 l2 l3 l4 = some o1) {H : Heap} {locs : List Loc} {ls : Array Slot} (hW : z_Ok D cA bs s σ H locs) (hl : lv_has ls 5 [(0, .ref l0), (1, .int l1), (2, .int l2), (3, .int l3), (4, .int l4)]) (hk1 : ∀ (l3 : Int32) (l4 : Int32), o1 = .inl (l3, l4) → ∀ {H : Heap} {locs : List Loc} {ls : Array Slot}, z_Ok D cA bs s σ H locs → lv_has ls 5 [(0, .ref l0), (1, .int l1), (2, .int l2), (3, .int l3), (4, .int l4)] → W p l e (zrm 0 0 0 0) s m args below meth c H locs 0 0 (MQ below (z_Qi D cA bs r σ) args s 0 0 (fun q => bs ≤ q)) (F0 m 5 ls [])) (hr1 : ∀ x, o1 = .inr x → x = r) : W p l e (zrm 0 0 0 0) s m args below meth c H locs 0 0 (MQ below (z_Qi D cA bs r σ) args s 0 0 (fun q => bs ≤ q)) (F0 m 5 ls []) := by
  have hx := B.1
  have hb := B.2.1
  have hown := B.2.2.2.1
  have hts := B.2.2.2.2.1
  unfold b_X10_isLoud_5 at hf
  refine lv_iload hx hb dX10_isLoud_5 (lv_at hl 4 rfl) ?_
  refine lv_aload_n hx hb dX10_isLoud_7 rfl (lv_at hl 0 rfl) ?_
  obtain ⟨hg1, hf⟩ := z_g hf
  obtain ⟨q2, hv3, hf⟩ := z_nn hf
  refine z_getN B hW (Or.inr zf_X10_7) rfl hg1 hv3 dX10_isLoud_8 ?_
  refine lv_bipush (v := (6 : Int32)) hx hb dX10_isLoud_11 (by decide) ?_
  obtain ⟨hg4, hf⟩ := z_g hf
  obtain ⟨hg5, hf⟩ := z_g hf
  refine z_ald B hW hg4 hg5 dX10_isLoud_13 ?_
  refine lv_icmp_ge (tgt := 69) hx hb dX10_isLoud_14 (by decide) (fun hc14 => ?_) (fun hc14 => ?_)
  · replace hf := z_ip hc14 hf
    obtain ⟨w1, hf, ho7⟩ := z_x hf
    obtain rfl := hr1 _ ho7
    refine lv_iload_n hx hb dX10_isLoud_69 rfl (lv_at hl 3 rfl) ?_
    obtain ⟨hg6, hf⟩ := z_g hf
    obtain rfl := z_e1 hf
    exact z_rz hg6 B hW dX10_isLoud_70 (Nat.le_of_ble_eq_true rfl) (Nat.le_of_ble_eq_true rfl)
  · replace hf := z_in hc14 hf
    refine lv_iload_n hx hb dX10_isLoud_17 rfl (lv_at hl 3 rfl) ?_
    refine lv_if_ne (tgt := 57) hx hb dX10_isLoud_18 (by decide) (fun hc18 => ?_) (fun hc18 => ?_)
    · replace hf := z_in hc18 hf
      exact t_X10_isLoud_57 B hf hW (lv_sub hl [0, 1, 2, 4] rfl) hk1 hr1
    · replace hf := z_ip hc18 hf
      refine lv_aload_n hx hb dX10_isLoud_21 rfl (lv_at hl 0 rfl) ?_
      obtain ⟨q8, hv9, hf⟩ := z_nn hf
      refine z_getN B hW (Or.inr zf_X10_7) rfl hg1 hv9 dX10_isLoud_22 ?_
      refine lv_sipush (v := (742 : Int32)) hx hb dX10_isLoud_25 (by decide) ?_
      refine lv_iconst (v := (2 : Int32)) hx hb dX10_isLoud_28 (by decide) ?_
      refine lv_iload hx hb dX10_isLoud_29 (lv_at hl 4 rfl) ?_
      refine lv_imul hx hb dX10_isLoud_31 ?_
      refine lv_iadd hx hb dX10_isLoud_32 ?_
      obtain ⟨hg10, hf⟩ := z_g hf
      obtain ⟨hg11, hf⟩ := z_g hf
      refine z_ald B hW hg10 hg11 dX10_isLoud_33 ?_
      refine lv_iload_n hx hb dX10_isLoud_34 rfl (lv_at hl 2 rfl) ?_
      refine lv_icmp_gt (tgt := 61) hx hb dX10_isLoud_35 (by decide) (fun hc35 => ?_) (fun hc35 => ?_)
      · replace hf := z_ip hc35 hf
        exact t_X10_isLoud_61 B hf hW (lv_sub hl [0, 1, 2, 4] rfl) hk1 hr1
      · replace hf := z_in hc35 hf
        refine lv_aload_n hx hb dX10_isLoud_38 rfl (lv_at hl 0 rfl) ?_
        obtain ⟨q12, hv13, hf⟩ := z_nn hf
        refine z_getN B hW (Or.inr zf_X10_7) rfl hg1 hv13 dX10_isLoud_39 ?_
        refine lv_sipush (v := (742 : Int32)) hx hb dX10_isLoud_42 (by decide) ?_
        refine lv_iconst (v := (2 : Int32)) hx hb dX10_isLoud_45 (by decide) ?_
        refine lv_iload hx hb dX10_isLoud_46 (lv_at hl 4 rfl) ?_
        refine lv_imul hx hb dX10_isLoud_48 ?_
        refine lv_iadd hx hb dX10_isLoud_49 ?_
        refine lv_iconst (v := (1 : Int32)) hx hb dX10_isLoud_50 (by decide) ?_
        refine lv_iadd hx hb dX10_isLoud_51 ?_
        obtain ⟨hg14, hf⟩ := z_g hf
        obtain ⟨hg15, hf⟩ := z_g hf
        refine z_ald B hW hg14 hg15 dX10_isLoud_52 ?_
        refine lv_iload_n hx hb dX10_isLoud_53 rfl (lv_at hl 1 rfl) ?_
        refine lv_icmp_lt (tgt := 61) hx hb dX10_isLoud_54 (by decide) (fun hc54 => ?_) (fun hc54 => ?_)
        · replace hf := z_ip hc54 hf
          exact t_X10_isLoud_61 B hf hW (lv_sub hl [0, 1, 2, 4] rfl) hk1 hr1
        · replace hf := z_in hc54 hf
          exact t_X10_isLoud_57 B hf hW (lv_sub hl [0, 1, 2, 4] rfl) hk1 hr1
set_option maxRecDepth 20000 in
set_option maxHeartbeats 4000000 in
theorem t_X10_isLoud_5 (B : z_B p s m args meth c D cA bs RX10 cX10_isLoud 5 (some .boolean)) {r : Int32} {σ : zSt} {l0 : Nat} {l1 : Int32} {l2 : Int32}  : ∀ (n : Nat) {l3 : Int32} {l4 : Int32}, zloop (fun (t : Int32 × Int32) => b_X10_isLoud_5 σ l0 l1 l2 t.1 t.2) n (l3, l4) = some r → ∀ {H : Heap} {locs : List Loc} {ls : Array Slot}, z_Ok D cA bs s σ H locs → lv_has ls 5 [(0, .ref l0), (1, .int l1), (2, .int l2), (3, .int l3), (4, .int l4)] → W p l e (zrm 0 0 0 0) s m args below meth c H locs 0 0 (MQ below (z_Qi D cA bs r σ) args s 0 0 (fun q => bs ≤ q)) (F0 m 5 ls []) := by
  intro n
  induction n with
  | zero => intro l3 l4 hf; cases hf
  | succ n ih =>
    intro l3 l4 hf H locs ls hW hl
    obtain ⟨o1, hb1, hf⟩ := z_lp hf
    refine tb_X10_isLoud_5 B hb1 hW hl  (fun l3 l4 he H locs ls hW hl => ?_) (fun x he => ?_)
    · rcases hf with ⟨t, ht, hf⟩ | hf
      · rw [he] at ht
        cases ht
        exact ih hf hW hl
      · rw [he] at hf
        cases hf
    · rcases hf with ⟨t, ht, hf⟩ | hf
      · rw [he] at ht
        cases ht
      · rw [he] at hf
        exact Sum.inr.inj hf
set_option maxRecDepth 100000 in
def f_X10_isLoud (σ : zSt) (l0 : Nat) (l1 : Int32) (l2 : Int32) : Option (Int32) :=
(f_X10_isLoud_5 σ l0 l1 l2 (0 : Int32) (0 : Int32))
set_option maxRecDepth 20000 in
set_option maxHeartbeats 4000000 in
theorem K_X10_isLoud {σ : zSt} {l0 : Nat} {l1 : Int32} {l2 : Int32} {r : Int32} (hf : f_X10_isLoud σ l0 l1 l2 = some r) : z_M l D cA bs yX10_isLoud cX10_isLoud 5 (some .boolean) 0 0 0 0 [.ref l0, .int l1, .int l2] σ (z_Qi D cA bs r σ) := by
  refine z_met (own := RX10) (lv := [(0, .ref l0), (1, .int l1), (2, .int l2)]) (by decide) rfl (Nat.le_of_ble_eq_true rfl) rfl (fun p e s m below meth c ls B hnm hW hl => ?_)
  have hx := B.1
  have hb := B.2.1
  have hown := B.2.2.2.1
  have hts := B.2.2.2.2.1
  unfold f_X10_isLoud at hf
  refine lv_iconst (v := (0 : Int32)) hx hb dX10_isLoud_0 (by decide) ?_
  refine lv_istore_n (lv' := [(3, .int (0 : Int32)), (0, .ref l0), (1, .int l1), (2, .int l2)]) hx hb dX10_isLoud_1 rfl hl (by decide) rfl (fun ls hl => ?_)
  refine lv_iconst (v := (0 : Int32)) hx hb dX10_isLoud_2 (by decide) ?_
  refine lv_istore (lv' := [(4, .int (0 : Int32)), (3, .int (0 : Int32)), (0, .ref l0), (1, .int l1), (2, .int l2)]) hx hb dX10_isLoud_3 hl (by decide) rfl (fun ls hl => ?_)
  unfold f_X10_isLoud_5 at hf
  exact t_X10_isLoud_5 B  zN hf hW (lv_sub hl [2, 3, 4, 1, 0] rfl)
set_option maxRecDepth 100000 in
def f_X10_takes_48 (σ : zSt) (l2 : Int32) (s0 : Int32) (s1 : Int32) (s2 : Int32) (s3 : Option Nat) : Option (Int32 × zSt) :=
(zc s3 none (fun a1 => (if z_ar σ a1 0 then (if z_ix s2 (z_ln σ a1) then (zl (z_pI σ a1 s2.toNatClampNeg (s1 + s0)) (fun σ5 => (if z_bl l2 then (some (l2, σ5)) else none))) else none) else none)))
set_option maxRecDepth 20000 in
set_option maxHeartbeats 4000000 in
theorem t_X10_takes_48 (B : z_B p s m args meth c D cA bs RX10 cX10_takes 3 (some .boolean)) {r : Int32} {σ' : zSt} {σ : zSt} {l2 : Int32} {s0 : Int32} {s1 : Int32} {s2 : Int32} {s3 : Option Nat} (hf : f_X10_takes_48 σ l2 s0 s1 s2 s3 = some (r, σ')) {H : Heap} {locs : List Loc} {ls : Array Slot} (hW : z_Ok D cA bs s σ H locs) (hl : lv_has ls 3 [(2, .int l2)])  : W p l e (zrm 1 0 0 24) s m args below meth c H locs 0 0 (MQ below (z_Qi D cA bs r σ') args s 0 0 (fun q => bs ≤ q)) (F0 m 48 ls [.int s0, .int s1, .int s2, va_rf s3]) := by
  have hx := B.1
  have hb := B.2.1
  have hown := B.2.2.2.1
  have hts := B.2.2.2.2.1
  unfold f_X10_takes_48 at hf
  refine lv_iadd hx hb dX10_takes_48 ?_
  obtain ⟨a1, hn2, hf⟩ := z_nn hf
  subst hn2
  obtain ⟨hg3, hf⟩ := z_g hf
  obtain ⟨hg4, hf⟩ := z_g hf
  obtain ⟨σ5, hs6, hf⟩ := z_l hf
  refine z_ast B hW hg3 hg4 hs6 dX10_takes_49 (fun H locs hW => ?_)
  refine lv_iload_n hx hb dX10_takes_50 rfl (lv_at hl 0 rfl) ?_
  obtain ⟨hg7, hf⟩ := z_g hf
  obtain ⟨rfl, rfl⟩ := z_e2 hf
  exact z_rz hg7 B hW dX10_takes_51 (Nat.le_of_ble_eq_true rfl) (Nat.le_of_ble_eq_true rfl)
set_option maxRecDepth 100000 in
def f_X10_takes (σ : zSt) (l0 : Nat) (l1 : Int32) : Option (Int32 × zSt) :=
(if z_ob σ l0 9 then (zc (z_R σ l0 0) none (fun q2 => (if z_ar σ q2 0 then (if z_ix (3 : Int32) (z_ln σ q2) then (zc (z_R σ l0 0) none (fun q6 => (if z_ar σ q6 0 then (if z_ix (3 : Int32) (z_ln σ q6) then (zb (f_X10_isLoud σ l0 (z_I σ q2 (3 : Int32).toNatClampNeg) (((z_I σ q6 (3 : Int32).toNatClampNeg) + l1) - (1 : Int32))) (fun r11 => (zc (z_R σ l0 0) none (fun q12 => (if z_ar σ q12 0 then (if z_ix (3 : Int32) (z_ln σ q12) then (zl (z_pI σ q12 (3 : Int32).toNatClampNeg ((z_I σ q12 (3 : Int32).toNatClampNeg) + l1)) (fun σ16 => (if z_ob σ16 l0 9 then (zc (z_R σ16 l0 0) none (fun q19 => (if z_ar σ16 q19 0 then (if z_ix (11 : Int32) (z_ln σ16 q19) then (if r11 = 0 then
(f_X10_takes_48 σ16 r11 (0 : Int32) (z_I σ16 q19 (11 : Int32).toNatClampNeg) (11 : Int32) (some q19))
else
(f_X10_takes_48 σ16 r11 (1 : Int32) (z_I σ16 q19 (11 : Int32).toNatClampNeg) (11 : Int32) (some q19))) else none) else none))) else none))) else none) else none))))) else none) else none))) else none) else none))) else none)
set_option maxRecDepth 20000 in
set_option maxHeartbeats 4000000 in
theorem K_X10_takes {σ : zSt} {l0 : Nat} {l1 : Int32} {r : Int32} {σ' : zSt} (hf : f_X10_takes σ l0 l1 = some (r, σ')) : z_M l D cA bs yX10_takes cX10_takes 3 (some .boolean) 1 24 0 0 [.ref l0, .int l1] σ (z_Qi D cA bs r σ') := by
  refine z_met (own := RX10) (lv := [(0, .ref l0), (1, .int l1)]) (by decide) rfl (Nat.le_of_ble_eq_true rfl) rfl (fun p e s m below meth c ls B hnm hW hl => ?_)
  have hx := B.1
  have hb := B.2.1
  have hown := B.2.2.2.1
  have hts := B.2.2.2.2.1
  unfold f_X10_takes at hf
  refine lv_aload_n hx hb dX10_takes_0 rfl (lv_at hl 0 rfl) ?_
  refine lv_aload_n hx hb dX10_takes_1 rfl (lv_at hl 0 rfl) ?_
  obtain ⟨hg1, hf⟩ := z_g hf
  obtain ⟨q2, hv3, hf⟩ := z_nn hf
  refine z_getN B hW (Or.inr zf_X10_7) rfl hg1 hv3 dX10_takes_2 ?_
  refine lv_iconst (v := (3 : Int32)) hx hb dX10_takes_5 (by decide) ?_
  obtain ⟨hg4, hf⟩ := z_g hf
  obtain ⟨hg5, hf⟩ := z_g hf
  refine z_ald B hW hg4 hg5 dX10_takes_6 ?_
  refine lv_aload_n hx hb dX10_takes_7 rfl (lv_at hl 0 rfl) ?_
  obtain ⟨q6, hv7, hf⟩ := z_nn hf
  refine z_getN B hW (Or.inr zf_X10_7) rfl hg1 hv7 dX10_takes_8 ?_
  refine lv_iconst (v := (3 : Int32)) hx hb dX10_takes_11 (by decide) ?_
  obtain ⟨hg8, hf⟩ := z_g hf
  obtain ⟨hg9, hf⟩ := z_g hf
  refine z_ald B hW hg8 hg9 dX10_takes_12 ?_
  refine lv_iload_n hx hb dX10_takes_13 rfl (lv_at hl 1 rfl) ?_
  refine lv_iadd hx hb dX10_takes_14 ?_
  refine lv_iconst (v := (1 : Int32)) hx hb dX10_takes_15 (by decide) ?_
  refine lv_isub hx hb dX10_takes_16 ?_
  obtain ⟨r11, hq10, hf⟩ := z_b hf
  refine z_ci hW (z_runV (As := [.int (z_I σ q2 (3 : Int32).toNatClampNeg), .int (((z_I σ q6 (3 : Int32).toNatClampNeg) + l1) - (1 : Int32))]) (rest := []) B hW zv_X10_76 (K_X10_isLoud hq10) hg1 rfl rfl rfl (Nat.le_of_ble_eq_true rfl) hl.1 ⟨Nat.le_of_ble_eq_true rfl, Nat.le_of_ble_eq_true rfl⟩ dX10_takes_17 ⟨Nat.le_of_ble_eq_true rfl, Nat.le_of_ble_eq_true rfl⟩) (fun H locs hW => ?_)
  refine lv_istore_n (lv' := [(2, .int r11), (0, .ref l0), (1, .int l1)]) hx hb dX10_takes_20 rfl hl (by decide) rfl (fun ls hl => ?_)
  refine lv_aload_n hx hb dX10_takes_21 rfl (lv_at hl 1 rfl) ?_
  obtain ⟨q12, hv13, hf⟩ := z_nn hf
  refine z_getN B hW (Or.inr zf_X10_7) rfl hg1 hv13 dX10_takes_22 ?_
  refine lv_iconst (v := (3 : Int32)) hx hb dX10_takes_25 (by decide) ?_
  refine lv_dup2_11 hx hb dX10_takes_26 rfl rfl ?_
  obtain ⟨hg14, hf⟩ := z_g hf
  obtain ⟨hg15, hf⟩ := z_g hf
  refine z_ald B hW hg14 hg15 dX10_takes_27 ?_
  refine lv_iload_n hx hb dX10_takes_28 rfl (lv_at hl 2 rfl) ?_
  refine lv_iadd hx hb dX10_takes_29 ?_
  obtain ⟨σ16, hs17, hf⟩ := z_l hf
  refine z_ast B hW hg14 hg15 hs17 dX10_takes_30 (fun H locs hW => ?_)
  refine lv_aload_n hx hb dX10_takes_31 rfl (lv_at hl 1 rfl) ?_
  obtain ⟨hg18, hf⟩ := z_g hf
  obtain ⟨q19, hv20, hf⟩ := z_nn hf
  refine z_getN B hW (Or.inr zf_X10_7) rfl hg18 hv20 dX10_takes_32 ?_
  refine lv_bipush (v := (11 : Int32)) hx hb dX10_takes_35 (by decide) ?_
  refine lv_dup2_11 hx hb dX10_takes_37 rfl rfl ?_
  obtain ⟨hg21, hf⟩ := z_g hf
  obtain ⟨hg22, hf⟩ := z_g hf
  refine z_ald B hW hg21 hg22 dX10_takes_38 ?_
  refine lv_iload_n hx hb dX10_takes_39 rfl (lv_at hl 0 rfl) ?_
  refine lv_if_eq (tgt := 47) hx hb dX10_takes_40 (by decide) (fun hc40 => ?_) (fun hc40 => ?_)
  · replace hf := z_ip hc40 hf
    refine lv_iconst (v := (0 : Int32)) hx hb dX10_takes_47 (by decide) ?_
    exact t_X10_takes_48 B hf hW (lv_sub hl [0] rfl) 
  · replace hf := z_in hc40 hf
    refine lv_iconst (v := (1 : Int32)) hx hb dX10_takes_43 (by decide) ?_
    refine lv_goto (tgt := 48) hx hb dX10_takes_44 (by decide) ?_
    exact t_X10_takes_48 B hf hW (lv_sub hl [0] rfl) 
end GEN
