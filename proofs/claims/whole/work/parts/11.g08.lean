section GEN
variable {p : Program} {l : Launch} {e : Env} {s : State} {m : MethodId} {args : Array Value} {below : List Frame} {meth : Method} {c : Code} {D : va_G} {cA : Nat → ClassId} {bs : Nat}
set_option maxRecDepth 100000 in
def b_X3_inQueue_8 (σ : zSt) (l0 : Nat) (l2 : Int32) (l3 : Int32) (l4 : Int32) : Option ((Int32 × Int32) ⊕ (Int32)) :=
(if l2 ≤ l4 then
(zex (some l3))
else
(if z_ob σ l0 3 then (zb (f_X3_follower σ l0 l3) (fun r4 => (some (.inl (r4, (l4 + (1 : Int32))))))) else none))
set_option maxRecDepth 100000 in
def f_X3_inQueue_8 (σ : zSt) (l0 : Nat) (l2 : Int32) (l3 : Int32) (l4 : Int32) : Option (Int32) := zloop (fun (t : Int32 × Int32) => b_X3_inQueue_8 σ l0 l2 t.1 t.2) zN (l3, l4)
set_option maxRecDepth 20000 in
set_option maxHeartbeats 4000000 in
theorem tb_X3_inQueue_8 (B : z_B p s m args meth c D cA bs RX3 cX3_inQueue 5 (some .int)) {r : Int32} {o1 : (Int32 × Int32) ⊕ (Int32)} {σ : zSt} {l0 : Nat} {l2 : Int32} {l3 : Int32} {l4 : Int32} (hf : b_X3_inQueue_8 σ l0 l2 l3 l4 = some o1) {H : Heap} {locs : List Loc} {ls : Array Slot} (hW : z_Ok D cA bs s σ H locs) (hl : lv_has ls 5 [(0, .ref l0), (2, .int l2), (3, .int l3), (4, .int l4)]) (hk1 : ∀ (l3 : Int32) (l4 : Int32), o1 = .inl (l3, l4) → ∀ {H : Heap} {locs : List Loc} {ls : Array Slot}, z_Ok D cA bs s σ H locs → lv_has ls 5 [(0, .ref l0), (2, .int l2), (3, .int l3), (4, .int l4)] → W p l e (zrm 2 0 0 44) s m args below meth c H locs 0 0 (MQ below (z_Qi D cA bs r σ) args s 0 0 (fun q => bs ≤ q)) (F0 m 8 ls [])) (hr1 : ∀ x, o1 = .inr x → x = r) : W p l e (zrm 2 0 0 44) s m args below meth c H locs 0 0 (MQ below (z_Qi D cA bs r σ) args s 0 0 (fun q => bs ≤ q)) (F0 m 8 ls []) := by
  have hx := B.1
  have hb := B.2.1
  have hown := B.2.2.2.1
  have hts := B.2.2.2.2.1
  unfold b_X3_inQueue_8 at hf
  refine lv_iload hx hb dX3_inQueue_8 (lv_at hl 3 rfl) ?_
  refine lv_iload_n hx hb dX3_inQueue_10 rfl (lv_at hl 1 rfl) ?_
  refine lv_icmp_ge (tgt := 26) hx hb dX3_inQueue_11 (by decide) (fun hc11 => ?_) (fun hc11 => ?_)
  · replace hf := z_ip hc11 hf
    obtain ⟨w1, hf, ho1⟩ := z_x hf
    obtain rfl := hr1 _ ho1
    refine lv_iload_n hx hb dX3_inQueue_26 rfl (lv_at hl 2 rfl) ?_
    cases hf
    exact z_ri B hW dX3_inQueue_27 (Nat.le_of_ble_eq_true rfl) (Nat.le_of_ble_eq_true rfl)
  · replace hf := z_in hc11 hf
    refine lv_aload_n hx hb dX3_inQueue_14 rfl (lv_at hl 0 rfl) ?_
    refine lv_iload_n hx hb dX3_inQueue_15 rfl (lv_at hl 2 rfl) ?_
    obtain ⟨hg2, hf⟩ := z_g hf
    obtain ⟨r4, hq3, hf⟩ := z_b hf
    refine z_ci hW (z_runV (As := [.int l3]) (rest := []) B hW zv_X3_55 (K_X3_follower hq3) hg2 rfl rfl rfl (Nat.le_of_ble_eq_true rfl) hl.1 ⟨Nat.le_of_ble_eq_true rfl, Nat.le_of_ble_eq_true rfl⟩ dX3_inQueue_16 ⟨Nat.le_of_ble_eq_true rfl, Nat.le_of_ble_eq_true rfl⟩) (fun H locs hW => ?_)
    refine lv_istore_n (lv' := [(3, .int r4), (0, .ref l0), (2, .int l2), (4, .int l4)]) hx hb dX3_inQueue_19 rfl hl (by decide) rfl (fun ls hl => ?_)
    refine lv_iinc (v := (l4 + (1 : Int32))) (lv' := [(4, .int (l4 + (1 : Int32))), (3, .int r4), (0, .ref l0), (2, .int l2)]) hx hb dX3_inQueue_20 hl (k := 3) rfl rfl (by decide) rfl (fun ls hl => ?_)
    refine lv_goto (tgt := 8) hx hb dX3_inQueue_23 (by decide) ?_
    exact hk1 _ _ (Option.some.inj hf).symm hW (lv_sub hl [2, 3, 1, 0] rfl)
set_option maxRecDepth 20000 in
set_option maxHeartbeats 4000000 in
theorem t_X3_inQueue_8 (B : z_B p s m args meth c D cA bs RX3 cX3_inQueue 5 (some .int)) {r : Int32} {σ : zSt} {l0 : Nat} {l2 : Int32}  : ∀ (n : Nat) {l3 : Int32} {l4 : Int32}, zloop (fun (t : Int32 × Int32) => b_X3_inQueue_8 σ l0 l2 t.1 t.2) n (l3, l4) = some r → ∀ {H : Heap} {locs : List Loc} {ls : Array Slot}, z_Ok D cA bs s σ H locs → lv_has ls 5 [(0, .ref l0), (2, .int l2), (3, .int l3), (4, .int l4)] → W p l e (zrm 2 0 0 44) s m args below meth c H locs 0 0 (MQ below (z_Qi D cA bs r σ) args s 0 0 (fun q => bs ≤ q)) (F0 m 8 ls []) := by
  intro n
  induction n with
  | zero => intro l3 l4 hf; cases hf
  | succ n ih =>
    intro l3 l4 hf H locs ls hW hl
    obtain ⟨o1, hb1, hf⟩ := z_lp hf
    refine tb_X3_inQueue_8 B hb1 hW hl  (fun l3 l4 he H locs ls hW hl => ?_) (fun x he => ?_)
    · rcases hf with ⟨t, ht, hf⟩ | hf
      · rw [he] at ht
        cases ht
        exact ih hf hW hl
      · rw [he] at hf
        cases hf
    · rcases hf with ⟨t, ht, hf⟩ | hf
      · rw [he] at ht
        cases ht
      · rw [he] at hf
        exact Sum.inr.inj hf
set_option maxRecDepth 100000 in
def f_X3_inQueue (σ : zSt) (l0 : Nat) (l1 : Nat) (l2 : Int32) : Option (Int32) :=
(if z_ob σ l1 6 then (zl (z_I σ l1 5) (fun x2 => (f_X3_inQueue_8 σ l0 l2 x2 (0 : Int32)))) else none)
set_option maxRecDepth 20000 in
set_option maxHeartbeats 4000000 in
theorem K_X3_inQueue {σ : zSt} {l0 : Nat} {l1 : Nat} {l2 : Int32} {r : Int32} (hf : f_X3_inQueue σ l0 l1 l2 = some r) : z_M l D cA bs yX3_inQueue cX3_inQueue 5 (some .int) 2 44 0 0 [.ref l0, .ref l1, .int l2] σ (z_Qi D cA bs r σ) := by
  refine z_met (own := RX3) (lv := [(0, .ref l0), (1, .ref l1), (2, .int l2)]) (by decide) rfl (Nat.le_of_ble_eq_true rfl) rfl (fun p e s m below meth c ls B hnm hW hl => ?_)
  have hx := B.1
  have hb := B.2.1
  have hown := B.2.2.2.1
  have hts := B.2.2.2.2.1
  unfold f_X3_inQueue at hf
  refine lv_aload_n hx hb dX3_inQueue_0 rfl (lv_at hl 1 rfl) ?_
  obtain ⟨hg1, hf⟩ := z_g hf
  refine z_getI B hW (Or.inl zf_X3_49) rfl hg1 dX3_inQueue_1 ?_
  obtain ⟨x2, hx3, hf⟩ := z_l hf
  rw [hx3]
  refine lv_istore_n (lv' := [(3, .int x2), (0, .ref l0), (1, .ref l1), (2, .int l2)]) hx hb dX3_inQueue_4 rfl hl (by decide) rfl (fun ls hl => ?_)
  refine lv_iconst (v := (0 : Int32)) hx hb dX3_inQueue_5 (by decide) ?_
  refine lv_istore (lv' := [(4, .int (0 : Int32)), (3, .int x2), (0, .ref l0), (1, .ref l1), (2, .int l2)]) hx hb dX3_inQueue_6 hl (by decide) rfl (fun ls hl => ?_)
  unfold f_X3_inQueue_8 at hf
  exact t_X3_inQueue_8 B  zN hf hW (lv_sub hl [2, 4, 1, 0] rfl)
set_option maxRecDepth 100000 in
def f_X3_takeFirst (σ : zSt) (l0 : Nat) (l1 : Nat) (l2 : Int32) : Option (Int32 × zSt) :=
(if z_ob σ l1 6 then (zl (z_I σ l1 5) (fun x2 => (if z_ob σ l0 3 then (zc (z_R σ l0 0) none (fun q5 => (if z_ob σ q5 7 then (zb (f_X7_at σ q5 x2 (3 : Int32)) (fun r9 => (zl (l2 - r9) (fun x10 => (zc (z_R σ l0 0) none (fun q12 => (if z_ob σ q12 7 then (zb (f_X7_put σ q12 x2 (4 : Int32) x10) (fun σ16 => (if z_ob σ16 l0 3 then (zb (f_X3_follower σ16 l0 x2) (fun r19 => (if z_ob σ16 l1 6 then (zl (z_pI σ16 l1 5 r19) (fun σ21 => (if z_ob σ21 l1 6 then (zl (z_pI σ21 l1 6 ((z_I σ21 l1 6) - (1 : Int32))) (fun σ24 => (some (x10, σ24)))) else none))) else none))) else none))) else none))))))) else none))) else none))) else none)
set_option maxRecDepth 20000 in
set_option maxHeartbeats 4000000 in
theorem K_X3_takeFirst {σ : zSt} {l0 : Nat} {l1 : Nat} {l2 : Int32} {r : Int32} {σ' : zSt} (hf : f_X3_takeFirst σ l0 l1 l2 = some (r, σ')) : z_M l D cA bs yX3_takeFirst cX3_takeFirst 5 (some .int) 2 44 0 0 [.ref l0, .ref l1, .int l2] σ (z_Qi D cA bs r σ') := by
  refine z_met (own := RX3) (lv := [(0, .ref l0), (1, .ref l1), (2, .int l2)]) (by decide) rfl (Nat.le_of_ble_eq_true rfl) rfl (fun p e s m below meth c ls B hnm hW hl => ?_)
  have hx := B.1
  have hb := B.2.1
  have hown := B.2.2.2.1
  have hts := B.2.2.2.2.1
  unfold f_X3_takeFirst at hf
  refine lv_aload_n hx hb dX3_takeFirst_0 rfl (lv_at hl 1 rfl) ?_
  obtain ⟨hg1, hf⟩ := z_g hf
  refine z_getI B hW (Or.inl zf_X3_49) rfl hg1 dX3_takeFirst_1 ?_
  obtain ⟨x2, hx3, hf⟩ := z_l hf
  rw [hx3]
  refine lv_istore_n (lv' := [(3, .int x2), (0, .ref l0), (1, .ref l1), (2, .int l2)]) hx hb dX3_takeFirst_4 rfl hl (by decide) rfl (fun ls hl => ?_)
  refine lv_iload_n hx hb dX3_takeFirst_5 rfl (lv_at hl 3 rfl) ?_
  refine lv_aload_n hx hb dX3_takeFirst_6 rfl (lv_at hl 1 rfl) ?_
  obtain ⟨hg4, hf⟩ := z_g hf
  obtain ⟨q5, hv6, hf⟩ := z_nn hf
  refine z_getN B hW (Or.inr zf_X3_16) rfl hg4 hv6 dX3_takeFirst_7 ?_
  refine lv_iload_n hx hb dX3_takeFirst_10 rfl (lv_at hl 0 rfl) ?_
  refine lv_iconst (v := (3 : Int32)) hx hb dX3_takeFirst_11 (by decide) ?_
  obtain ⟨hg7, hf⟩ := z_g hf
  obtain ⟨r9, hq8, hf⟩ := z_b hf
  refine z_ci hW (z_runV (As := [.int x2, .int (3 : Int32)]) (rest := [.int l2]) B hW zv_X3_24 (K_X7_at hq8) hg7 rfl rfl rfl (Nat.le_of_ble_eq_true rfl) hl.1 ⟨Nat.le_of_ble_eq_true rfl, Nat.le_of_ble_eq_true rfl⟩ dX3_takeFirst_12 ⟨Nat.le_of_ble_eq_true rfl, Nat.le_of_ble_eq_true rfl⟩) (fun H locs hW => ?_)
  refine lv_isub hx hb dX3_takeFirst_15 ?_
  obtain ⟨x10, hx11, hf⟩ := z_l hf
  rw [hx11]
  refine lv_istore (lv' := [(4, .int x10), (3, .int x2), (0, .ref l0), (1, .ref l1), (2, .int l2)]) hx hb dX3_takeFirst_16 hl (by decide) rfl (fun ls hl => ?_)
  refine lv_aload_n hx hb dX3_takeFirst_18 rfl (lv_at hl 2 rfl) ?_
  obtain ⟨q12, hv13, hf⟩ := z_nn hf
  refine z_getN B hW (Or.inr zf_X3_16) rfl hg4 hv13 dX3_takeFirst_19 ?_
  refine lv_iload_n hx hb dX3_takeFirst_22 rfl (lv_at hl 1 rfl) ?_
  refine lv_iconst (v := (4 : Int32)) hx hb dX3_takeFirst_23 (by decide) ?_
  refine lv_iload hx hb dX3_takeFirst_24 (lv_at hl 0 rfl) ?_
  obtain ⟨hg14, hf⟩ := z_g hf
  obtain ⟨σ16, hq15, hf⟩ := z_b hf
  refine z_cv hW (z_runV (As := [.int x2, .int (4 : Int32), .int x10]) (rest := []) B hW zv_X3_36 (K_X7_put hq15) hg14 rfl rfl rfl (Nat.le_of_ble_eq_true rfl) hl.1 ⟨Nat.le_of_ble_eq_true rfl, Nat.le_of_ble_eq_true rfl⟩ dX3_takeFirst_26 ⟨Nat.le_of_ble_eq_true rfl, Nat.le_of_ble_eq_true rfl⟩) (fun H locs hW => ?_)
  refine lv_aload_n hx hb dX3_takeFirst_29 rfl (lv_at hl 3 rfl) ?_
  refine lv_aload_n hx hb dX3_takeFirst_30 rfl (lv_at hl 2 rfl) ?_
  refine lv_iload_n hx hb dX3_takeFirst_31 rfl (lv_at hl 1 rfl) ?_
  obtain ⟨hg17, hf⟩ := z_g hf
  obtain ⟨r19, hq18, hf⟩ := z_b hf
  refine z_ci hW (z_runV (As := [.int x2]) (rest := [.ref l1]) B hW zv_X3_55 (K_X3_follower hq18) hg17 rfl rfl rfl (Nat.le_of_ble_eq_true rfl) hl.1 ⟨Nat.le_of_ble_eq_true rfl, Nat.le_of_ble_eq_true rfl⟩ dX3_takeFirst_32 ⟨Nat.le_of_ble_eq_true rfl, Nat.le_of_ble_eq_true rfl⟩) (fun H locs hW => ?_)
  obtain ⟨hg20, hf⟩ := z_g hf
  obtain ⟨σ21, hs22, hf⟩ := z_l hf
  refine z_putI B hW zf_X3_49 hg20 rfl hs22 dX3_takeFirst_35 (fun H locs hW => ?_)
  refine lv_aload_n hx hb dX3_takeFirst_38 rfl (lv_at hl 3 rfl) ?_
  refine lv_dup hx hb dX3_takeFirst_39 rfl ?_
  obtain ⟨hg23, hf⟩ := z_g hf
  refine z_getI B hW (Or.inl zf_X3_52) rfl hg23 dX3_takeFirst_40 ?_
  refine lv_iconst (v := (1 : Int32)) hx hb dX3_takeFirst_43 (by decide) ?_
  refine lv_isub hx hb dX3_takeFirst_44 ?_
  obtain ⟨σ24, hs25, hf⟩ := z_l hf
  refine z_putI B hW zf_X3_52 hg23 rfl hs25 dX3_takeFirst_45 (fun H locs hW => ?_)
  refine lv_iload hx hb dX3_takeFirst_48 (lv_at hl 0 rfl) ?_
  cases hf
  exact z_ri B hW dX3_takeFirst_50 (Nat.le_of_ble_eq_true rfl) (Nat.le_of_ble_eq_true rfl)
set_option maxRecDepth 100000 in
def f_X4_isFull_14 (σ : zSt) (s0 : Int32) : Option (Int32) :=
(if z_bl s0 then (some s0) else none)
set_option maxRecDepth 20000 in
set_option maxHeartbeats 4000000 in
theorem t_X4_isFull_14 (B : z_B p s m args meth c D cA bs RX4 cX4_isFull 1 (some .boolean)) {r : Int32} {σ : zSt} {s0 : Int32} (hf : f_X4_isFull_14 σ s0 = some r) {H : Heap} {locs : List Loc} {ls : Array Slot} (hW : z_Ok D cA bs s σ H locs) (hl : lv_has ls 1 [])  : W p l e (zrm 0 0 0 0) s m args below meth c H locs 0 0 (MQ below (z_Qi D cA bs r σ) args s 0 0 (fun q => bs ≤ q)) (F0 m 14 ls [.int s0]) := by
  have hx := B.1
  have hb := B.2.1
  have hown := B.2.2.2.1
  have hts := B.2.2.2.2.1
  unfold f_X4_isFull_14 at hf
  obtain ⟨hg1, hf⟩ := z_g hf
  cases hf
  exact z_rz hg1 B hW dX4_isFull_14 (Nat.le_of_ble_eq_true rfl) (Nat.le_of_ble_eq_true rfl)
set_option maxRecDepth 100000 in
def f_X4_isFull (σ : zSt) (l0 : Nat) : Option (Int32) :=
(if z_ob σ l0 4 then (if (z_I σ l0 2) < (20 : Int32) then
(f_X4_isFull_14 σ (0 : Int32))
else
(f_X4_isFull_14 σ (1 : Int32))) else none)
set_option maxRecDepth 20000 in
set_option maxHeartbeats 4000000 in
theorem K_X4_isFull {σ : zSt} {l0 : Nat} {r : Int32} (hf : f_X4_isFull σ l0 = some r) : z_M l D cA bs yX4_isFull cX4_isFull 1 (some .boolean) 0 0 0 0 [.ref l0] σ (z_Qi D cA bs r σ) := by
  refine z_met (own := RX4) (lv := [(0, .ref l0)]) (by decide) rfl (Nat.le_of_ble_eq_true rfl) rfl (fun p e s m below meth c ls B hnm hW hl => ?_)
  have hx := B.1
  have hb := B.2.1
  have hown := B.2.2.2.1
  have hts := B.2.2.2.2.1
  unfold f_X4_isFull at hf
  refine lv_aload_n hx hb dX4_isFull_0 rfl (lv_at hl 0 rfl) ?_
  obtain ⟨hg1, hf⟩ := z_g hf
  refine z_getI B hW (Or.inl zf_X4_18) rfl hg1 dX4_isFull_1 ?_
  refine lv_bipush (v := (20 : Int32)) hx hb dX4_isFull_4 (by decide) ?_
  refine lv_icmp_lt (tgt := 13) hx hb dX4_isFull_6 (by decide) (fun hc6 => ?_) (fun hc6 => ?_)
  · replace hf := z_ip hc6 hf
    refine lv_iconst (v := (0 : Int32)) hx hb dX4_isFull_13 (by decide) ?_
    exact t_X4_isFull_14 B hf hW (lv_sub hl [] rfl) 
  · replace hf := z_in hc6 hf
    refine lv_iconst (v := (1 : Int32)) hx hb dX4_isFull_9 (by decide) ?_
    refine lv_goto (tgt := 14) hx hb dX4_isFull_10 (by decide) ?_
    exact t_X4_isFull_14 B hf hW (lv_sub hl [] rfl) 
set_option maxRecDepth 100000 in
def f_X4_add_46 (σ : zSt) : Option (zSt) :=
(some σ)
set_option maxRecDepth 20000 in
set_option maxHeartbeats 4000000 in
theorem t_X4_add_46 (B : z_B p s m args meth c D cA bs RX4 cX4_add 3 none)  {σ' : zSt} {σ : zSt} (hf : f_X4_add_46 σ = some σ') {H : Heap} {locs : List Loc} {ls : Array Slot} (hW : z_Ok D cA bs s σ H locs) (hl : lv_has ls 3 [])  : W p l e (zrm 0 0 0 0) s m args below meth c H locs 0 0 (MQ below (z_Qv D cA bs σ') args s 0 0 (fun q => bs ≤ q)) (F0 m 46 ls []) := by
  have hx := B.1
  have hb := B.2.1
  have hown := B.2.2.2.1
  have hts := B.2.2.2.2.1
  unfold f_X4_add_46 at hf
  cases hf
  exact z_rv B hW dX4_add_46 (Nat.le_of_ble_eq_true rfl) (Nat.le_of_ble_eq_true rfl)
set_option maxRecDepth 100000 in
def f_X4_add (σ : zSt) (l0 : Nat) (l1 : Int32) (l2 : Int32) : Option (zSt) :=
(if z_ob σ l0 4 then (if (z_I σ l0 2) < 0 then
(f_X4_add_46 σ)
else
(if (20 : Int32) ≤ (z_I σ l0 2) then
(f_X4_add_46 σ)
else
(zc (z_R σ l0 0) none (fun q2 => (if z_ar σ q2 0 then (if z_ix (z_I σ l0 2) (z_ln σ q2) then (zl (z_pI σ q2 (z_I σ l0 2).toNatClampNeg l1) (fun σ6 => (if z_ob σ6 l0 4 then (zc (z_R σ6 l0 1) none (fun q9 => (if z_ar σ6 q9 0 then (if z_ix (z_I σ6 l0 2) (z_ln σ6 q9) then (zl (z_pI σ6 q9 (z_I σ6 l0 2).toNatClampNeg l2) (fun σ13 => (if z_ob σ13 l0 4 then (zl (z_pI σ13 l0 2 ((z_I σ13 l0 2) + (1 : Int32))) (fun σ16 => (f_X4_add_46 σ16))) else none))) else none) else none))) else none))) else none) else none))))) else none)
set_option maxRecDepth 20000 in
set_option maxHeartbeats 4000000 in
theorem K_X4_add {σ : zSt} {l0 : Nat} {l1 : Int32} {l2 : Int32}  {σ' : zSt} (hf : f_X4_add σ l0 l1 l2 = some σ') : z_M l D cA bs yX4_add cX4_add 3 none 0 0 0 0 [.ref l0, .int l1, .int l2] σ (z_Qv D cA bs σ') := by
  refine z_met (own := RX4) (lv := [(0, .ref l0), (1, .int l1), (2, .int l2)]) (by decide) rfl (Nat.le_of_ble_eq_true rfl) rfl (fun p e s m below meth c ls B hnm hW hl => ?_)
  have hx := B.1
  have hb := B.2.1
  have hown := B.2.2.2.1
  have hts := B.2.2.2.2.1
  unfold f_X4_add at hf
  refine lv_aload_n hx hb dX4_add_0 rfl (lv_at hl 0 rfl) ?_
  obtain ⟨hg1, hf⟩ := z_g hf
  refine z_getI B hW (Or.inl zf_X4_18) rfl hg1 dX4_add_1 ?_
  refine lv_if_lt (tgt := 46) hx hb dX4_add_4 (by decide) (fun hc4 => ?_) (fun hc4 => ?_)
  · replace hf := z_ip hc4 hf
    exact t_X4_add_46 B hf hW (lv_sub hl [] rfl) 
  · replace hf := z_in hc4 hf
    refine lv_aload_n hx hb dX4_add_7 rfl (lv_at hl 0 rfl) ?_
    refine z_getI B hW (Or.inl zf_X4_18) rfl hg1 dX4_add_8 ?_
    refine lv_bipush (v := (20 : Int32)) hx hb dX4_add_11 (by decide) ?_
    refine lv_icmp_ge (tgt := 46) hx hb dX4_add_13 (by decide) (fun hc13 => ?_) (fun hc13 => ?_)
    · replace hf := z_ip hc13 hf
      exact t_X4_add_46 B hf hW (lv_sub hl [] rfl) 
    · replace hf := z_in hc13 hf
      refine lv_aload_n hx hb dX4_add_16 rfl (lv_at hl 0 rfl) ?_
      obtain ⟨q2, hv3, hf⟩ := z_nn hf
      refine z_getN B hW (Or.inr zf_X4_9) rfl hg1 hv3 dX4_add_17 ?_
      refine lv_aload_n hx hb dX4_add_20 rfl (lv_at hl 0 rfl) ?_
      refine z_getI B hW (Or.inl zf_X4_18) rfl hg1 dX4_add_21 ?_
      refine lv_iload_n hx hb dX4_add_24 rfl (lv_at hl 1 rfl) ?_
      obtain ⟨hg4, hf⟩ := z_g hf
      obtain ⟨hg5, hf⟩ := z_g hf
      obtain ⟨σ6, hs7, hf⟩ := z_l hf
      refine z_ast B hW hg4 hg5 hs7 dX4_add_25 (fun H locs hW => ?_)
      refine lv_aload_n hx hb dX4_add_26 rfl (lv_at hl 0 rfl) ?_
      obtain ⟨hg8, hf⟩ := z_g hf
      obtain ⟨q9, hv10, hf⟩ := z_nn hf
      refine z_getN B hW (Or.inr zf_X4_15) rfl hg8 hv10 dX4_add_27 ?_
      refine lv_aload_n hx hb dX4_add_30 rfl (lv_at hl 0 rfl) ?_
      refine z_getI B hW (Or.inl zf_X4_18) rfl hg8 dX4_add_31 ?_
      refine lv_iload_n hx hb dX4_add_34 rfl (lv_at hl 2 rfl) ?_
      obtain ⟨hg11, hf⟩ := z_g hf
      obtain ⟨hg12, hf⟩ := z_g hf
      obtain ⟨σ13, hs14, hf⟩ := z_l hf
      refine z_ast B hW hg11 hg12 hs14 dX4_add_35 (fun H locs hW => ?_)
      refine lv_aload_n hx hb dX4_add_36 rfl (lv_at hl 0 rfl) ?_
      refine lv_dup hx hb dX4_add_37 rfl ?_
      obtain ⟨hg15, hf⟩ := z_g hf
      refine z_getI B hW (Or.inl zf_X4_18) rfl hg15 dX4_add_38 ?_
      refine lv_iconst (v := (1 : Int32)) hx hb dX4_add_41 (by decide) ?_
      refine lv_iadd hx hb dX4_add_42 ?_
      obtain ⟨σ16, hs17, hf⟩ := z_l hf
      refine z_putI B hW zf_X4_18 hg15 rfl hs17 dX4_add_43 (fun H locs hW => ?_)
      exact t_X4_add_46 B hf hW (lv_sub hl [] rfl) 
end GEN
