section GEN
variable {p : Program} {l : Launch} {e : Env} {s : State} {m : MethodId} {args : Array Value} {below : List Frame} {meth : Method} {c : Code} {D : va_G} {cA : Nat → ClassId} {bs : Nat}
set_option maxRecDepth 100000 in
def b_X3_inQueue_8 (σ : zSt) (l0 : Nat) (l2 : Int32) (l3 : Int32) (l4 : Int32) : Option ((Int32 × Int32) ⊕ (Int32)) :=
(if l2 ≤ l4 then
(zex (some l3))
else
(if z_ob σ l0 3 then (zb (f_X3_follower σ l0 l3) (fun r4 => (some (.inl (r4, (l4 + (1 : Int32))))))) else none))
set_option maxRecDepth 100000 in
def f_X3_inQueue_8 (σ : zSt) (l0 : Nat) (l2 : Int32) (l3 : Int32) (l4 : Int32) : Option (Int32) := zloop (fun (t : Int32 × Int32) => b_X3_inQueue_8 σ l0 l2 t.1 t.2) zN (l3, l4)
set_option maxRecDepth 20000 in
set_option maxHeartbeats 4000000 in
theorem tb_X3_inQueue_8 (B : z_B p s m args meth c D cA bs RX3 cX3_inQueue 5 (some .int)) {r : Int32} {o1 : (Int32 × Int32) ⊕ (Int32)} {σ : zSt} {l0 : Nat} {l2 : Int32} {l3 : Int32} {l4 : Int32} (hf : b_X3_inQueue_8 σ l0 l2 l3 l4 = some o1) {H : Heap} {locs : List Loc} {ls : Array Slot} (hW : z_Ok D cA bs s σ H locs) (hl : lv_has ls 5 [(0, .ref l0), (2, .int l2), (3, .int l3), (4, .int l4)]) (hk1 : ∀ (l3 : Int32) (l4 : Int32), o1 = .inl (l3, l4) → ∀ {H : Heap} {locs : List Loc} {ls : Array Slot}, z_Ok D cA bs s σ H locs → lv_has ls 5 [(0, .ref l0), (2, .int l2), (3, .int l3), (4, .int l4)] → W p l e (zrm 2 0 0 44) s m args below meth c H locs 0 0 (MQ below (z_Qi D cA bs r σ) args s 0 0 (fun q => bs ≤ q)) (F0 m 8 ls [])) (hr1 : ∀ x, o1 = .inr x → x = r) : W p l e (zrm 2 0 0 44) s m args below meth c H locs 0 0 (MQ below (z_Qi D cA bs r σ) args s 0 0 (fun q => bs ≤ q)) (F0 m 8 ls []) := by
  have hx := B.1
  have hb := B.2.1
  have hown := B.2.2.2.1
  have hts := B.2.2.2.2.1
  unfold b_X3_inQueue_8 at hf
  refine lv_iload hx hb dX3_inQueue_8 (lv_at hl 3 rfl) ?_
  refine lv_iload_n hx hb dX3_inQueue_10 rfl (lv_at hl 1 rfl) ?_
  refine lv_icmp_ge (tgt := 26) hx hb dX3_inQueue_11 (by decide) (fun hc11 => ?_) (fun hc11 => ?_)
  · replace hf := z_ip hc11 hf
    obtain ⟨w1, hf, ho1⟩ := z_x hf
    obtain rfl := hr1 _ ho1
    refine lv_iload_n hx hb dX3_inQueue_26 rfl (lv_at hl 2 rfl) ?_
    obtain rfl := z_e1 hf
    exact z_ri B hW dX3_inQueue_27 (Nat.le_of_ble_eq_true rfl) (Nat.le_of_ble_eq_true rfl)
  · replace hf := z_in hc11 hf
    refine lv_aload_n hx hb dX3_inQueue_14 rfl (lv_at hl 0 rfl) ?_
    refine lv_iload_n hx hb dX3_inQueue_15 rfl (lv_at hl 2 rfl) ?_
    obtain ⟨hg2, hf⟩ := z_g hf
    obtain ⟨r4, hq3, hf⟩ := z_b hf
    refine z_ci hW (z_runV (As := [.int l3]) (rest := []) B hW zv_X3_55 (K_X3_follower hq3) hg2 rfl rfl rfl (Nat.le_of_ble_eq_true rfl) hl.1 ⟨Nat.le_of_ble_eq_true rfl, Nat.le_of_ble_eq_true rfl⟩ dX3_inQueue_16 ⟨Nat.le_of_ble_eq_true rfl, Nat.le_of_ble_eq_true rfl⟩) (fun H locs hW => ?_)
    refine lv_istore_n (lv' := [(3, .int r4), (0, .ref l0), (2, .int l2), (4, .int l4)]) hx hb dX3_inQueue_19 rfl hl (by decide) rfl (fun ls hl => ?_)
    refine lv_iinc (v := (l4 + (1 : Int32))) (lv' := [(4, .int (l4 + (1 : Int32))), (3, .int r4), (0, .ref l0), (2, .int l2)]) hx hb dX3_inQueue_20 hl (k := 3) rfl rfl (by decide) rfl (fun ls hl => ?_)
    refine lv_goto (tgt := 8) hx hb dX3_inQueue_23 (by decide) ?_
    exact hk1 _ _ (Option.some.inj hf).symm hW (lv_sub hl [2, 3, 1, 0] rfl)
set_option maxRecDepth 20000 in
set_option maxHeartbeats 4000000 in
theorem t_X3_inQueue_8 (B : z_B p s m args meth c D cA bs RX3 cX3_inQueue 5 (some .int)) {r : Int32} {σ : zSt} {l0 : Nat} {l2 : Int32}  : ∀ (n : Nat) {l3 : Int32} {l4 : Int32}, zloop (fun (t : Int32 × Int32) => b_X3_inQueue_8 σ l0 l2 t.1 t.2) n (l3, l4) = some r → ∀ {H : Heap} {locs : List Loc} {ls : Array Slot}, z_Ok D cA bs s σ H locs → lv_has ls 5 [(0, .ref l0), (2, .int l2), (3, .int l3), (4, .int l4)] → W p l e (zrm 2 0 0 44) s m args below meth c H locs 0 0 (MQ below (z_Qi D cA bs r σ) args s 0 0 (fun q => bs ≤ q)) (F0 m 8 ls []) := by
  intro n
  induction n with
  | zero => intro l3 l4 hf; cases hf
  | succ n ih =>
    intro l3 l4 hf H locs ls hW hl
    obtain ⟨o1, hb1, hf⟩ := z_lp hf
    refine tb_X3_inQueue_8 B hb1 hW hl  (fun l3 l4 he H locs ls hW hl => ?_) (fun x he => ?_)
    · rcases hf with ⟨t, ht, hf⟩ | hf
      · rw [he] at ht
        cases ht
        exact ih hf hW hl
      · rw [he] at hf
        cases hf
    · rcases hf with ⟨t, ht, hf⟩ | hf
      · rw [he] at ht
        cases ht
      · rw [he] at hf
        exact Sum.inr.inj hf
set_option maxRecDepth 100000 in
def f_X3_inQueue (σ : zSt) (l0 : Nat) (l1 : Nat) (l2 : Int32) : Option (Int32) :=
(if z_ob σ l1 6 then (zl (z_I σ l1 5) (fun x2 => (f_X3_inQueue_8 σ l0 l2 x2 (0 : Int32)))) else none)
set_option maxRecDepth 20000 in
set_option maxHeartbeats 4000000 in
theorem K_X3_inQueue {σ : zSt} {l0 : Nat} {l1 : Nat} {l2 : Int32} {r : Int32} (hf : f_X3_inQueue σ l0 l1 l2 = some r) : z_M l D cA bs yX3_inQueue cX3_inQueue 5 (some .int) 2 44 0 0 [.ref l0, .ref l1, .int l2] σ (z_Qi D cA bs r σ) := by
  refine z_met (own := RX3) (lv := [(0, .ref l0), (1, .ref l1), (2, .int l2)]) (by decide) rfl (Nat.le_of_ble_eq_true rfl) rfl (fun p e s m below meth c ls B hnm hW hl => ?_)
  have hx := B.1
  have hb := B.2.1
  have hown := B.2.2.2.1
  have hts := B.2.2.2.2.1
  unfold f_X3_inQueue at hf
  refine lv_aload_n hx hb dX3_inQueue_0 rfl (lv_at hl 1 rfl) ?_
  obtain ⟨hg1, hf⟩ := z_g hf
  refine z_getI B hW (Or.inl zf_X3_49) rfl hg1 dX3_inQueue_1 ?_
  obtain ⟨x2, hx3, hf⟩ := z_l hf
  rw [hx3]
  refine lv_istore_n (lv' := [(3, .int x2), (0, .ref l0), (1, .ref l1), (2, .int l2)]) hx hb dX3_inQueue_4 rfl hl (by decide) rfl (fun ls hl => ?_)
  refine lv_iconst (v := (0 : Int32)) hx hb dX3_inQueue_5 (by decide) ?_
  refine lv_istore (lv' := [(4, .int (0 : Int32)), (3, .int x2), (0, .ref l0), (1, .ref l1), (2, .int l2)]) hx hb dX3_inQueue_6 hl (by decide) rfl (fun ls hl => ?_)
  unfold f_X3_inQueue_8 at hf
  exact t_X3_inQueue_8 B  zN hf hW (lv_sub hl [2, 4, 1, 0] rfl)
set_option maxRecDepth 100000 in
def f_X3_takeFirst (σ : zSt) (l0 : Nat) (l1 : Nat) (l2 : Int32) : Option (Int32 × zSt) :=
(if z_ob σ l1 6 then (zl (z_I σ l1 5) (fun x2 => (if z_ob σ l0 3 then (zc (z_R σ l0 0) none (fun q5 => (if z_ob σ q5 7 then (zb (f_X7_at σ q5 x2 (3 : Int32)) (fun r9 => (zl (l2 - r9) (fun x10 => (zc (z_R σ l0 0) none (fun q12 => (if z_ob σ q12 7 then (zb (f_X7_put σ q12 x2 (4 : Int32) x10) (fun σ16 => (if z_ob σ16 l0 3 then (zc (z_R σ16 l0 0) none (fun q18 => (if z_ob σ16 q18 7 then (zb (f_X7_at σ16 q18 x2 (5 : Int32)) (fun r22 => (if z_ob σ16 l1 6 then (zl (z_pI σ16 l1 5 r22) (fun σ24 => (if z_ob σ24 l1 6 then (zl (z_pI σ24 l1 6 ((z_I σ24 l1 6) - (1 : Int32))) (fun σ27 => (some (x10, σ27)))) else none))) else none))) else none))) else none))) else none))))))) else none))) else none))) else none)
set_option maxRecDepth 20000 in
set_option maxHeartbeats 4000000 in
theorem K_X3_takeFirst {σ : zSt} {l0 : Nat} {l1 : Nat} {l2 : Int32} {r : Int32} {σ' : zSt} (hf : f_X3_takeFirst σ l0 l1 l2 = some (r, σ')) : z_M l D cA bs yX3_takeFirst cX3_takeFirst 5 (some .int) 1 24 0 0 [.ref l0, .ref l1, .int l2] σ (z_Qi D cA bs r σ') := by
  refine z_met (own := RX3) (lv := [(0, .ref l0), (1, .ref l1), (2, .int l2)]) (by decide) rfl (Nat.le_of_ble_eq_true rfl) rfl (fun p e s m below meth c ls B hnm hW hl => ?_)
  have hx := B.1
  have hb := B.2.1
  have hown := B.2.2.2.1
  have hts := B.2.2.2.2.1
  unfold f_X3_takeFirst at hf
  refine lv_aload_n hx hb dX3_takeFirst_0 rfl (lv_at hl 1 rfl) ?_
  obtain ⟨hg1, hf⟩ := z_g hf
  refine z_getI B hW (Or.inl zf_X3_49) rfl hg1 dX3_takeFirst_1 ?_
  obtain ⟨x2, hx3, hf⟩ := z_l hf
  rw [hx3]
  refine lv_istore_n (lv' := [(3, .int x2), (0, .ref l0), (1, .ref l1), (2, .int l2)]) hx hb dX3_takeFirst_4 rfl hl (by decide) rfl (fun ls hl => ?_)
  refine lv_iload_n hx hb dX3_takeFirst_5 rfl (lv_at hl 3 rfl) ?_
  refine lv_aload_n hx hb dX3_takeFirst_6 rfl (lv_at hl 1 rfl) ?_
  obtain ⟨hg4, hf⟩ := z_g hf
  obtain ⟨q5, hv6, hf⟩ := z_nn hf
  refine z_getN B hW (Or.inr zf_X3_16) rfl hg4 hv6 dX3_takeFirst_7 ?_
  refine lv_iload_n hx hb dX3_takeFirst_10 rfl (lv_at hl 0 rfl) ?_
  refine lv_iconst (v := (3 : Int32)) hx hb dX3_takeFirst_11 (by decide) ?_
  obtain ⟨hg7, hf⟩ := z_g hf
  obtain ⟨r9, hq8, hf⟩ := z_b hf
  refine z_ci hW (z_runV (As := [.int x2, .int (3 : Int32)]) (rest := [.int l2]) B hW zv_X3_24 (K_X7_at hq8) hg7 rfl rfl rfl (Nat.le_of_ble_eq_true rfl) hl.1 ⟨Nat.le_of_ble_eq_true rfl, Nat.le_of_ble_eq_true rfl⟩ dX3_takeFirst_12 ⟨Nat.le_of_ble_eq_true rfl, Nat.le_of_ble_eq_true rfl⟩) (fun H locs hW => ?_)
  refine lv_isub hx hb dX3_takeFirst_15 ?_
  obtain ⟨x10, hx11, hf⟩ := z_l hf
  rw [hx11]
  refine lv_istore (lv' := [(4, .int x10), (3, .int x2), (0, .ref l0), (1, .ref l1), (2, .int l2)]) hx hb dX3_takeFirst_16 hl (by decide) rfl (fun ls hl => ?_)
  refine lv_aload_n hx hb dX3_takeFirst_18 rfl (lv_at hl 2 rfl) ?_
  obtain ⟨q12, hv13, hf⟩ := z_nn hf
  refine z_getN B hW (Or.inr zf_X3_16) rfl hg4 hv13 dX3_takeFirst_19 ?_
  refine lv_iload_n hx hb dX3_takeFirst_22 rfl (lv_at hl 1 rfl) ?_
  refine lv_iconst (v := (4 : Int32)) hx hb dX3_takeFirst_23 (by decide) ?_
  refine lv_iload hx hb dX3_takeFirst_24 (lv_at hl 0 rfl) ?_
  obtain ⟨hg14, hf⟩ := z_g hf
  obtain ⟨σ16, hq15, hf⟩ := z_b hf
  refine z_cv hW (z_runV (As := [.int x2, .int (4 : Int32), .int x10]) (rest := []) B hW zv_X3_36 (K_X7_put hq15) hg14 rfl rfl rfl (Nat.le_of_ble_eq_true rfl) hl.1 ⟨Nat.le_of_ble_eq_true rfl, Nat.le_of_ble_eq_true rfl⟩ dX3_takeFirst_26 ⟨Nat.le_of_ble_eq_true rfl, Nat.le_of_ble_eq_true rfl⟩) (fun H locs hW => ?_)
  refine lv_aload_n hx hb dX3_takeFirst_29 rfl (lv_at hl 3 rfl) ?_
  refine lv_aload_n hx hb dX3_takeFirst_30 rfl (lv_at hl 2 rfl) ?_
  obtain ⟨hg17, hf⟩ := z_g hf
  obtain ⟨q18, hv19, hf⟩ := z_nn hf
  refine z_getN B hW (Or.inr zf_X3_16) rfl hg17 hv19 dX3_takeFirst_31 ?_
  refine lv_iload_n hx hb dX3_takeFirst_34 rfl (lv_at hl 1 rfl) ?_
  refine lv_iconst (v := (5 : Int32)) hx hb dX3_takeFirst_35 (by decide) ?_
  obtain ⟨hg20, hf⟩ := z_g hf
  obtain ⟨r22, hq21, hf⟩ := z_b hf
  refine z_ci hW (z_runV (As := [.int x2, .int (5 : Int32)]) (rest := [.ref l1]) B hW zv_X3_24 (K_X7_at hq21) hg20 rfl rfl rfl (Nat.le_of_ble_eq_true rfl) hl.1 ⟨Nat.le_of_ble_eq_true rfl, Nat.le_of_ble_eq_true rfl⟩ dX3_takeFirst_36 ⟨Nat.le_of_ble_eq_true rfl, Nat.le_of_ble_eq_true rfl⟩) (fun H locs hW => ?_)
  obtain ⟨hg23, hf⟩ := z_g hf
  obtain ⟨σ24, hs25, hf⟩ := z_l hf
  refine z_putI B hW zf_X3_49 hg23 rfl hs25 dX3_takeFirst_39 (fun H locs hW => ?_)
  refine lv_aload_n hx hb dX3_takeFirst_42 rfl (lv_at hl 3 rfl) ?_
  refine lv_dup hx hb dX3_takeFirst_43 rfl ?_
  obtain ⟨hg26, hf⟩ := z_g hf
  refine z_getI B hW (Or.inl zf_X3_52) rfl hg26 dX3_takeFirst_44 ?_
  refine lv_iconst (v := (1 : Int32)) hx hb dX3_takeFirst_47 (by decide) ?_
  refine lv_isub hx hb dX3_takeFirst_48 ?_
  obtain ⟨σ27, hs28, hf⟩ := z_l hf
  refine z_putI B hW zf_X3_52 hg26 rfl hs28 dX3_takeFirst_49 (fun H locs hW => ?_)
  refine lv_iload hx hb dX3_takeFirst_52 (lv_at hl 0 rfl) ?_
  obtain ⟨rfl, rfl⟩ := z_e2 hf
  exact z_ri B hW dX3_takeFirst_54 (Nat.le_of_ble_eq_true rfl) (Nat.le_of_ble_eq_true rfl)
set_option maxRecDepth 100000 in
def f_X4_isFull_14 (σ : zSt) (s0 : Int32) : Option (Int32) :=
(if z_bl s0 then (some s0) else none)
set_option maxRecDepth 20000 in
set_option maxHeartbeats 4000000 in
theorem t_X4_isFull_14 (B : z_B p s m args meth c D cA bs RX4 cX4_isFull 1 (some .boolean)) {r : Int32} {σ : zSt} {s0 : Int32} (hf : f_X4_isFull_14 σ s0 = some r) {H : Heap} {locs : List Loc} {ls : Array Slot} (hW : z_Ok D cA bs s σ H locs) (hl : lv_has ls 1 [])  : W p l e (zrm 0 0 0 0) s m args below meth c H locs 0 0 (MQ below (z_Qi D cA bs r σ) args s 0 0 (fun q => bs ≤ q)) (F0 m 14 ls [.int s0]) := by
  have hx := B.1
  have hb := B.2.1
  have hown := B.2.2.2.1
  have hts := B.2.2.2.2.1
  unfold f_X4_isFull_14 at hf
  obtain ⟨hg1, hf⟩ := z_g hf
  obtain rfl := z_e1 hf
  exact z_rz hg1 B hW dX4_isFull_14 (Nat.le_of_ble_eq_true rfl) (Nat.le_of_ble_eq_true rfl)
set_option maxRecDepth 100000 in
def f_X4_isFull (σ : zSt) (l0 : Nat) : Option (Int32) :=
(if z_ob σ l0 4 then (if (z_I σ l0 2) < (20 : Int32) then
(f_X4_isFull_14 σ (0 : Int32))
else
(f_X4_isFull_14 σ (1 : Int32))) else none)
set_option maxRecDepth 20000 in
set_option maxHeartbeats 4000000 in
theorem K_X4_isFull {σ : zSt} {l0 : Nat} {r : Int32} (hf : f_X4_isFull σ l0 = some r) : z_M l D cA bs yX4_isFull cX4_isFull 1 (some .boolean) 0 0 0 0 [.ref l0] σ (z_Qi D cA bs r σ) := by
  refine z_met (own := RX4) (lv := [(0, .ref l0)]) (by decide) rfl (Nat.le_of_ble_eq_true rfl) rfl (fun p e s m below meth c ls B hnm hW hl => ?_)
  have hx := B.1
  have hb := B.2.1
  have hown := B.2.2.2.1
  have hts := B.2.2.2.2.1
  unfold f_X4_isFull at hf
  refine lv_aload_n hx hb dX4_isFull_0 rfl (lv_at hl 0 rfl) ?_
  obtain ⟨hg1, hf⟩ := z_g hf
  refine z_getI B hW (Or.inl zf_X4_18) rfl hg1 dX4_isFull_1 ?_
  refine lv_bipush (v := (20 : Int32)) hx hb dX4_isFull_4 (by decide) ?_
  refine lv_icmp_lt (tgt := 13) hx hb dX4_isFull_6 (by decide) (fun hc6 => ?_) (fun hc6 => ?_)
  · replace hf := z_ip hc6 hf
    refine lv_iconst (v := (0 : Int32)) hx hb dX4_isFull_13 (by decide) ?_
    exact t_X4_isFull_14 B hf hW (lv_sub hl [] rfl) 
  · replace hf := z_in hc6 hf
    refine lv_iconst (v := (1 : Int32)) hx hb dX4_isFull_9 (by decide) ?_
    refine lv_goto (tgt := 14) hx hb dX4_isFull_10 (by decide) ?_
    exact t_X4_isFull_14 B hf hW (lv_sub hl [] rfl) 
set_option maxRecDepth 100000 in
def f_X4_add_46 (σ : zSt) : Option (zSt) :=
(some σ)
set_option maxRecDepth 20000 in
set_option maxHeartbeats 4000000 in
theorem t_X4_add_46 (B : z_B p s m args meth c D cA bs RX4 cX4_add 3 none)  {σ' : zSt} {σ : zSt} (hf : f_X4_add_46 σ = some σ') {H : Heap} {locs : List Loc} {ls : Array Slot} (hW : z_Ok D cA bs s σ H locs) (hl : lv_has ls 3 [])  : W p l e (zrm 0 0 0 0) s m args below meth c H locs 0 0 (MQ below (z_Qv D cA bs σ') args s 0 0 (fun q => bs ≤ q)) (F0 m 46 ls []) := by
  have hx := B.1
  have hb := B.2.1
  have hown := B.2.2.2.1
  have hts := B.2.2.2.2.1
  unfold f_X4_add_46 at hf
  obtain rfl := z_e1 hf
  exact z_rv B hW dX4_add_46 (Nat.le_of_ble_eq_true rfl) (Nat.le_of_ble_eq_true rfl)
set_option maxRecDepth 100000 in
def f_X4_add (σ : zSt) (l0 : Nat) (l1 : Int32) (l2 : Int32) : Option (zSt) :=
(if z_ob σ l0 4 then (if (z_I σ l0 2) < 0 then
(f_X4_add_46 σ)
else
(if (20 : Int32) ≤ (z_I σ l0 2) then
(f_X4_add_46 σ)
else
(zc (z_R σ l0 0) none (fun q2 => (if z_ar σ q2 0 then (if z_ix (z_I σ l0 2) (z_ln σ q2) then (zl (z_pI σ q2 (z_I σ l0 2).toNatClampNeg l1) (fun σ6 => (if z_ob σ6 l0 4 then (zc (z_R σ6 l0 1) none (fun q9 => (if z_ar σ6 q9 0 then (if z_ix (z_I σ6 l0 2) (z_ln σ6 q9) then (zl (z_pI σ6 q9 (z_I σ6 l0 2).toNatClampNeg l2) (fun σ13 => (if z_ob σ13 l0 4 then (zl (z_pI σ13 l0 2 ((z_I σ13 l0 2) + (1 : Int32))) (fun σ16 => (f_X4_add_46 σ16))) else none))) else none) else none))) else none))) else none) else none))))) else none)
set_option maxRecDepth 20000 in
set_option maxHeartbeats 4000000 in
theorem K_X4_add {σ : zSt} {l0 : Nat} {l1 : Int32} {l2 : Int32}  {σ' : zSt} (hf : f_X4_add σ l0 l1 l2 = some σ') : z_M l D cA bs yX4_add cX4_add 3 none 0 0 0 0 [.ref l0, .int l1, .int l2] σ (z_Qv D cA bs σ') := by
  refine z_met (own := RX4) (lv := [(0, .ref l0), (1, .int l1), (2, .int l2)]) (by decide) rfl (Nat.le_of_ble_eq_true rfl) rfl (fun p e s m below meth c ls B hnm hW hl => ?_)
  have hx := B.1
  have hb := B.2.1
  have hown := B.2.2.2.1
  have hts := B.2.2.2.2.1
  unfold f_X4_add at hf
  refine lv_aload_n hx hb dX4_add_0 rfl (lv_at hl 0 rfl) ?_
  obtain ⟨hg1, hf⟩ := z_g hf
  refine z_getI B hW (Or.inl zf_X4_18) rfl hg1 dX4_add_1 ?_
  refine lv_if_lt (tgt := 46) hx hb dX4_add_4 (by decide) (fun hc4 => ?_) (fun hc4 => ?_)
  · replace hf := z_ip hc4 hf
    exact t_X4_add_46 B hf hW (lv_sub hl [] rfl) 
  · replace hf := z_in hc4 hf
    refine lv_aload_n hx hb dX4_add_7 rfl (lv_at hl 0 rfl) ?_
    refine z_getI B hW (Or.inl zf_X4_18) rfl hg1 dX4_add_8 ?_
    refine lv_bipush (v := (20 : Int32)) hx hb dX4_add_11 (by decide) ?_
    refine lv_icmp_ge (tgt := 46) hx hb dX4_add_13 (by decide) (fun hc13 => ?_) (fun hc13 => ?_)
    · replace hf := z_ip hc13 hf
      exact t_X4_add_46 B hf hW (lv_sub hl [] rfl) 
    · replace hf := z_in hc13 hf
      refine lv_aload_n hx hb dX4_add_16 rfl (lv_at hl 0 rfl) ?_
      obtain ⟨q2, hv3, hf⟩ := z_nn hf
      refine z_getN B hW (Or.inr zf_X4_9) rfl hg1 hv3 dX4_add_17 ?_
      refine lv_aload_n hx hb dX4_add_20 rfl (lv_at hl 0 rfl) ?_
      refine z_getI B hW (Or.inl zf_X4_18) rfl hg1 dX4_add_21 ?_
      refine lv_iload_n hx hb dX4_add_24 rfl (lv_at hl 1 rfl) ?_
      obtain ⟨hg4, hf⟩ := z_g hf
      obtain ⟨hg5, hf⟩ := z_g hf
      obtain ⟨σ6, hs7, hf⟩ := z_l hf
      refine z_ast B hW hg4 hg5 hs7 dX4_add_25 (fun H locs hW => ?_)
      refine lv_aload_n hx hb dX4_add_26 rfl (lv_at hl 0 rfl) ?_
      obtain ⟨hg8, hf⟩ := z_g hf
      obtain ⟨q9, hv10, hf⟩ := z_nn hf
      refine z_getN B hW (Or.inr zf_X4_15) rfl hg8 hv10 dX4_add_27 ?_
      refine lv_aload_n hx hb dX4_add_30 rfl (lv_at hl 0 rfl) ?_
      refine z_getI B hW (Or.inl zf_X4_18) rfl hg8 dX4_add_31 ?_
      refine lv_iload_n hx hb dX4_add_34 rfl (lv_at hl 2 rfl) ?_
      obtain ⟨hg11, hf⟩ := z_g hf
      obtain ⟨hg12, hf⟩ := z_g hf
      obtain ⟨σ13, hs14, hf⟩ := z_l hf
      refine z_ast B hW hg11 hg12 hs14 dX4_add_35 (fun H locs hW => ?_)
      refine lv_aload_n hx hb dX4_add_36 rfl (lv_at hl 0 rfl) ?_
      refine lv_dup hx hb dX4_add_37 rfl ?_
      obtain ⟨hg15, hf⟩ := z_g hf
      refine z_getI B hW (Or.inl zf_X4_18) rfl hg15 dX4_add_38 ?_
      refine lv_iconst (v := (1 : Int32)) hx hb dX4_add_41 (by decide) ?_
      refine lv_iadd hx hb dX4_add_42 ?_
      obtain ⟨σ16, hs17, hf⟩ := z_l hf
      refine z_putI B hW zf_X4_18 hg15 rfl hs17 dX4_add_43 (fun H locs hW => ?_)
      exact t_X4_add_46 B hf hW (lv_sub hl [] rfl) 
set_option maxRecDepth 100000 in
def f_X5_init (σ : zSt) (l0 : Nat) (l1 : Nat) (l2 : Int32) (l3 : Nat) : Option (zSt) :=
(if z_ob σ l0 5 then (zl (z_pI σ l0 5 (-1 : Int32)) (fun σ2 => (if z_ob σ2 l0 5 then (zl (z_pR σ2 l0 0 (some l1)) (fun σ5 => (if z_ob σ5 l0 5 then (zl (z_pI σ5 l0 1 l2) (fun σ8 => (if z_ob σ8 l0 5 then (zl (z_pR σ8 l0 2 (some l3)) (fun σ11 => (some σ11))) else none))) else none))) else none))) else none)
set_option maxRecDepth 20000 in
set_option maxHeartbeats 4000000 in
theorem K_X5_init {σ : zSt} {l0 : Nat} {l1 : Nat} {l2 : Int32} {l3 : Nat}  {σ' : zSt} (hf : f_X5_init σ l0 l1 l2 l3 = some σ') : z_M l D cA bs yX5_init cX5_init 4 none 1 25 0 0 [.ref l0, .ref l1, .int l2, .ref l3] σ (z_Qv D cA bs σ') := by
  refine z_met (own := RX5) (lv := [(0, .ref l0), (1, .ref l1), (2, .int l2), (3, .ref l3)]) (by decide) rfl (Nat.le_of_ble_eq_true rfl) rfl (fun p e s m below meth c ls B hnm hW hl => ?_)
  have hx := B.1
  have hb := B.2.1
  have hown := B.2.2.2.1
  have hts := B.2.2.2.2.1
  unfold f_X5_init at hf
  refine lv_aload_n hx hb dX5_init_0 rfl (lv_at hl 0 rfl) ?_
  refine W.objInit hx hb hown (hts _ zoi_X5_3) (hts _ zoi_a) (hts _ zoi_b) rfl (by rw [B.2.2.1]; exact hl.1) rfl dX5_init_1 (Nat.le_of_ble_eq_true rfl) (Nat.le_of_ble_eq_true rfl) ?_
  refine W.eq (g2 := F0 m 4 ls []) rfl ?_
  refine lv_aload_n hx hb dX5_init_4 rfl (lv_at hl 0 rfl) ?_
  refine lv_iconst (v := (-1 : Int32)) hx hb dX5_init_5 (by decide) ?_
  obtain ⟨hg1, hf⟩ := z_g hf
  obtain ⟨σ2, hs3, hf⟩ := z_l hf
  refine z_putI B hW zf_X5_9 hg1 rfl hs3 dX5_init_6 (fun H locs hW => ?_)
  refine lv_aload_n hx hb dX5_init_9 rfl (lv_at hl 0 rfl) ?_
  refine lv_aload_n hx hb dX5_init_10 rfl (lv_at hl 1 rfl) ?_
  obtain ⟨hg4, hf⟩ := z_g hf
  obtain ⟨σ5, hs6, hf⟩ := z_l hf
  refine z_putRF B hnm hW zf_X5_15 (fun C T h => by cases h; rfl) rfl hg4 (v := (some l1)) hs6 dX5_init_11 (fun H locs hW => ?_)
  refine lv_aload_n hx hb dX5_init_14 rfl (lv_at hl 0 rfl) ?_
  refine lv_iload_n hx hb dX5_init_15 rfl (lv_at hl 2 rfl) ?_
  obtain ⟨hg7, hf⟩ := z_g hf
  obtain ⟨σ8, hs9, hf⟩ := z_l hf
  refine z_putIF B hnm hW zf_X5_19 (fun C T h => by cases h; rfl) hg7 rfl hs9 dX5_init_16 (fun H locs hW => ?_)
  refine lv_aload_n hx hb dX5_init_19 rfl (lv_at hl 0 rfl) ?_
  refine lv_aload_n hx hb dX5_init_20 rfl (lv_at hl 3 rfl) ?_
  obtain ⟨hg10, hf⟩ := z_g hf
  obtain ⟨σ11, hs12, hf⟩ := z_l hf
  refine z_putRF B hnm hW zf_X5_22 (fun C T h => by cases h; rfl) rfl hg10 (v := (some l3)) hs12 dX5_init_21 (fun H locs hW => ?_)
  obtain rfl := z_e1 hf
  exact z_rv B hW dX5_init_24 (Nat.le_of_ble_eq_true rfl) (Nat.le_of_ble_eq_true rfl)
set_option maxRecDepth 100000 in
def f_X5_sign_43 (σ : zSt) (s0 : Int32) : Option (Int32) :=
(some s0)
set_option maxRecDepth 20000 in
set_option maxHeartbeats 4000000 in
theorem t_X5_sign_43 (B : z_B p s m args meth c D cA bs RX5 cX5_sign 1 (some .int)) {r : Int32} {σ : zSt} {s0 : Int32} (hf : f_X5_sign_43 σ s0 = some r) {H : Heap} {locs : List Loc} {ls : Array Slot} (hW : z_Ok D cA bs s σ H locs) (hl : lv_has ls 1 [])  : W p l e (zrm 0 0 0 0) s m args below meth c H locs 0 0 (MQ below (z_Qi D cA bs r σ) args s 0 0 (fun q => bs ≤ q)) (F0 m 43 ls [.int s0]) := by
  have hx := B.1
  have hb := B.2.1
  have hown := B.2.2.2.1
  have hts := B.2.2.2.2.1
  unfold f_X5_sign_43 at hf
  obtain rfl := z_e1 hf
  exact z_ri B hW dX5_sign_43 (Nat.le_of_ble_eq_true rfl) (Nat.le_of_ble_eq_true rfl)
set_option maxRecDepth 100000 in
def f_X5_sign_42 (σ : zSt) : Option (Int32) :=
(f_X5_sign_43 σ (-1 : Int32))
set_option maxRecDepth 20000 in
set_option maxHeartbeats 4000000 in
theorem t_X5_sign_42 (B : z_B p s m args meth c D cA bs RX5 cX5_sign 1 (some .int)) {r : Int32} {σ : zSt} (hf : f_X5_sign_42 σ = some r) {H : Heap} {locs : List Loc} {ls : Array Slot} (hW : z_Ok D cA bs s σ H locs) (hl : lv_has ls 1 [])  : W p l e (zrm 0 0 0 0) s m args below meth c H locs 0 0 (MQ below (z_Qi D cA bs r σ) args s 0 0 (fun q => bs ≤ q)) (F0 m 42 ls []) := by
  have hx := B.1
  have hb := B.2.1
  have hown := B.2.2.2.1
  have hts := B.2.2.2.2.1
  unfold f_X5_sign_42 at hf
  refine lv_iconst (v := (-1 : Int32)) hx hb dX5_sign_42 (by decide) ?_
  exact t_X5_sign_43 B hf hW hl 
set_option maxRecDepth 100000 in
def f_X5_sign (σ : zSt) (l0 : Nat) : Option (Int32) :=
(if z_ob σ l0 5 then (if (z_I σ l0 3) < 0 then
(f_X5_sign_42 σ)
else
(if (z_I σ l0 1) ≤ (z_I σ l0 3) then
(f_X5_sign_42 σ)
else
(zc (z_R σ l0 0) none (fun q2 => (if z_ar σ q2 1 then (if (Int32.ofNat (z_ln σ q2)) ≤ (z_I σ l0 3) then
(f_X5_sign_42 σ)
else
(zc (z_R σ l0 0) none (fun q5 => (if z_ar σ q5 1 then (if z_ix (z_I σ l0 3) (z_ln σ q5) then (f_X5_sign_43 σ (z_I σ q5 (z_I σ l0 3).toNatClampNeg)) else none) else none)))) else none))))) else none)
set_option maxRecDepth 20000 in
set_option maxHeartbeats 4000000 in
theorem K_X5_sign {σ : zSt} {l0 : Nat} {r : Int32} (hf : f_X5_sign σ l0 = some r) : z_M l D cA bs yX5_sign cX5_sign 1 (some .int) 0 0 0 0 [.ref l0] σ (z_Qi D cA bs r σ) := by
  refine z_met (own := RX5) (lv := [(0, .ref l0)]) (by decide) rfl (Nat.le_of_ble_eq_true rfl) rfl (fun p e s m below meth c ls B hnm hW hl => ?_)
  have hx := B.1
  have hb := B.2.1
  have hown := B.2.2.2.1
  have hts := B.2.2.2.2.1
  unfold f_X5_sign at hf
  refine lv_aload_n hx hb dX5_sign_0 rfl (lv_at hl 0 rfl) ?_
  obtain ⟨hg1, hf⟩ := z_g hf
  refine z_getI B hW (Or.inl zf_X5_26) rfl hg1 dX5_sign_1 ?_
  refine lv_if_lt (tgt := 42) hx hb dX5_sign_4 (by decide) (fun hc4 => ?_) (fun hc4 => ?_)
  · replace hf := z_ip hc4 hf
    exact t_X5_sign_42 B hf hW (lv_sub hl [] rfl) 
  · replace hf := z_in hc4 hf
    refine lv_aload_n hx hb dX5_sign_7 rfl (lv_at hl 0 rfl) ?_
    refine z_getI B hW (Or.inl zf_X5_26) rfl hg1 dX5_sign_8 ?_
    refine lv_aload_n hx hb dX5_sign_11 rfl (lv_at hl 0 rfl) ?_
    refine z_getI B hW (Or.inr zf_X5_19) rfl hg1 dX5_sign_12 ?_
    refine lv_icmp_ge (tgt := 42) hx hb dX5_sign_15 (by decide) (fun hc15 => ?_) (fun hc15 => ?_)
    · replace hf := z_ip hc15 hf
      exact t_X5_sign_42 B hf hW (lv_sub hl [] rfl) 
    · replace hf := z_in hc15 hf
      refine lv_aload_n hx hb dX5_sign_18 rfl (lv_at hl 0 rfl) ?_
      refine z_getI B hW (Or.inl zf_X5_26) rfl hg1 dX5_sign_19 ?_
      refine lv_aload_n hx hb dX5_sign_22 rfl (lv_at hl 0 rfl) ?_
      obtain ⟨q2, hv3, hf⟩ := z_nn hf
      refine z_getN B hW (Or.inr zf_X5_15) rfl hg1 hv3 dX5_sign_23 ?_
      obtain ⟨hg4, hf⟩ := z_g hf
      refine z_alen (t := 1) (by decide) B hW hg4 dX5_sign_26 ?_
      refine lv_icmp_ge (tgt := 42) hx hb dX5_sign_27 (by decide) (fun hc27 => ?_) (fun hc27 => ?_)
      · replace hf := z_ip hc27 hf
        exact t_X5_sign_42 B hf hW (lv_sub hl [] rfl) 
      · replace hf := z_in hc27 hf
        refine lv_aload_n hx hb dX5_sign_30 rfl (lv_at hl 0 rfl) ?_
        obtain ⟨q5, hv6, hf⟩ := z_nn hf
        refine z_getN B hW (Or.inr zf_X5_15) rfl hg1 hv6 dX5_sign_31 ?_
        refine lv_aload_n hx hb dX5_sign_34 rfl (lv_at hl 0 rfl) ?_
        refine z_getI B hW (Or.inl zf_X5_26) rfl hg1 dX5_sign_35 ?_
        obtain ⟨hg7, hf⟩ := z_g hf
        obtain ⟨hg8, hf⟩ := z_g hf
        refine z_bald B hW hg7 hg8 dX5_sign_38 ?_
        refine lv_goto (tgt := 43) hx hb dX5_sign_39 (by decide) ?_
        exact t_X5_sign_43 B hf hW (lv_sub hl [] rfl) 
set_option maxRecDepth 100000 in
def f_X5_digit_25 (σ : zSt) (s0 : Int32) : Option (Int32) :=
(some s0)
set_option maxRecDepth 20000 in
set_option maxHeartbeats 4000000 in
theorem t_X5_digit_25 (B : z_B p s m args meth c D cA bs RX5 cX5_digit 2 (some .int)) {r : Int32} {σ : zSt} {s0 : Int32} (hf : f_X5_digit_25 σ s0 = some r) {H : Heap} {locs : List Loc} {ls : Array Slot} (hW : z_Ok D cA bs s σ H locs) (hl : lv_has ls 2 [])  : W p l e (zrm 1 0 0 20) s m args below meth c H locs 0 0 (MQ below (z_Qi D cA bs r σ) args s 0 0 (fun q => bs ≤ q)) (F0 m 25 ls [.int s0]) := by
  have hx := B.1
  have hb := B.2.1
  have hown := B.2.2.2.1
  have hts := B.2.2.2.2.1
  unfold f_X5_digit_25 at hf
  obtain rfl := z_e1 hf
  exact z_ri B hW dX5_digit_25 (Nat.le_of_ble_eq_true rfl) (Nat.le_of_ble_eq_true rfl)
set_option maxRecDepth 100000 in
def f_X5_digit_24 (σ : zSt) : Option (Int32) :=
(f_X5_digit_25 σ (-1 : Int32))
set_option maxRecDepth 20000 in
set_option maxHeartbeats 4000000 in
theorem t_X5_digit_24 (B : z_B p s m args meth c D cA bs RX5 cX5_digit 2 (some .int)) {r : Int32} {σ : zSt} (hf : f_X5_digit_24 σ = some r) {H : Heap} {locs : List Loc} {ls : Array Slot} (hW : z_Ok D cA bs s σ H locs) (hl : lv_has ls 2 [])  : W p l e (zrm 1 0 0 20) s m args below meth c H locs 0 0 (MQ below (z_Qi D cA bs r σ) args s 0 0 (fun q => bs ≤ q)) (F0 m 24 ls []) := by
  have hx := B.1
  have hb := B.2.1
  have hown := B.2.2.2.1
  have hts := B.2.2.2.2.1
  unfold f_X5_digit_24 at hf
  refine lv_iconst (v := (-1 : Int32)) hx hb dX5_digit_24 (by decide) ?_
  exact t_X5_digit_25 B hf hW hl 
set_option maxRecDepth 100000 in
def f_X5_digit (σ : zSt) (l0 : Nat) : Option (Int32) :=
(if z_ob σ l0 5 then (zb (f_X5_sign σ l0) (fun r3 => (if r3 < (48 : Int32) then
(f_X5_digit_24 σ)
else
(if (57 : Int32) < r3 then
(f_X5_digit_24 σ)
else
(f_X5_digit_25 σ (r3 - (48 : Int32))))))) else none)
set_option maxRecDepth 20000 in
set_option maxHeartbeats 4000000 in
theorem K_X5_digit {σ : zSt} {l0 : Nat} {r : Int32} (hf : f_X5_digit σ l0 = some r) : z_M l D cA bs yX5_digit cX5_digit 2 (some .int) 1 20 0 0 [.ref l0] σ (z_Qi D cA bs r σ) := by
  refine z_met (own := RX5) (lv := [(0, .ref l0)]) (by decide) rfl (Nat.le_of_ble_eq_true rfl) rfl (fun p e s m below meth c ls B hnm hW hl => ?_)
  have hx := B.1
  have hb := B.2.1
  have hown := B.2.2.2.1
  have hts := B.2.2.2.2.1
  unfold f_X5_digit at hf
  refine lv_aload_n hx hb dX5_digit_0 rfl (lv_at hl 0 rfl) ?_
  obtain ⟨hg1, hf⟩ := z_g hf
  obtain ⟨r3, hq2, hf⟩ := z_b hf
  refine z_ci hW (z_runV (As := []) (rest := []) B hW zv_X5_33 (K_X5_sign hq2) hg1 rfl rfl rfl (Nat.le_of_ble_eq_true rfl) hl.1 ⟨Nat.le_of_ble_eq_true rfl, Nat.le_of_ble_eq_true rfl⟩ dX5_digit_1 ⟨Nat.le_of_ble_eq_true rfl, Nat.le_of_ble_eq_true rfl⟩) (fun H locs hW => ?_)
  refine lv_istore_n (lv' := [(1, .int r3), (0, .ref l0)]) hx hb dX5_digit_4 rfl hl (by decide) rfl (fun ls hl => ?_)
  refine lv_iload_n hx hb dX5_digit_5 rfl (lv_at hl 0 rfl) ?_
  refine lv_bipush (v := (48 : Int32)) hx hb dX5_digit_6 (by decide) ?_
  refine lv_icmp_lt (tgt := 24) hx hb dX5_digit_8 (by decide) (fun hc8 => ?_) (fun hc8 => ?_)
  · replace hf := z_ip hc8 hf
    exact t_X5_digit_24 B hf hW (lv_sub hl [] rfl) 
  · replace hf := z_in hc8 hf
    refine lv_iload_n hx hb dX5_digit_11 rfl (lv_at hl 0 rfl) ?_
    refine lv_bipush (v := (57 : Int32)) hx hb dX5_digit_12 (by decide) ?_
    refine lv_icmp_gt (tgt := 24) hx hb dX5_digit_14 (by decide) (fun hc14 => ?_) (fun hc14 => ?_)
    · replace hf := z_ip hc14 hf
      exact t_X5_digit_24 B hf hW (lv_sub hl [] rfl) 
    · replace hf := z_in hc14 hf
      refine lv_iload_n hx hb dX5_digit_17 rfl (lv_at hl 0 rfl) ?_
      refine lv_bipush (v := (48 : Int32)) hx hb dX5_digit_18 (by decide) ?_
      refine lv_isub hx hb dX5_digit_20 ?_
      refine lv_goto (tgt := 25) hx hb dX5_digit_21 (by decide) ?_
      exact t_X5_digit_25 B hf hW (lv_sub hl [] rfl) 
set_option maxRecDepth 100000 in
def f_X5_failsAt (σ : zSt) (l0 : Nat) (l1 : Int32) : Option (Int32 × zSt) :=
(if z_ob σ l0 5 then (zl (z_pI σ l0 5 l1) (fun σ2 => (some ((0 : Int32), σ2)))) else none)
set_option maxRecDepth 20000 in
set_option maxHeartbeats 4000000 in
theorem K_X5_failsAt {σ : zSt} {l0 : Nat} {l1 : Int32} {r : Int32} {σ' : zSt} (hf : f_X5_failsAt σ l0 l1 = some (r, σ')) : z_M l D cA bs yX5_failsAt cX5_failsAt 2 (some .boolean) 0 0 0 0 [.ref l0, .int l1] σ (z_Qi D cA bs r σ') := by
  refine z_met (own := RX5) (lv := [(0, .ref l0), (1, .int l1)]) (by decide) rfl (Nat.le_of_ble_eq_true rfl) rfl (fun p e s m below meth c ls B hnm hW hl => ?_)
  have hx := B.1
  have hb := B.2.1
  have hown := B.2.2.2.1
  have hts := B.2.2.2.2.1
  unfold f_X5_failsAt at hf
  refine lv_aload_n hx hb dX5_failsAt_0 rfl (lv_at hl 0 rfl) ?_
  refine lv_iload_n hx hb dX5_failsAt_1 rfl (lv_at hl 1 rfl) ?_
  obtain ⟨hg1, hf⟩ := z_g hf
  obtain ⟨σ2, hs3, hf⟩ := z_l hf
  refine z_putI B hW zf_X5_9 hg1 rfl hs3 dX5_failsAt_2 (fun H locs hW => ?_)
  refine lv_iconst (v := (0 : Int32)) hx hb dX5_failsAt_5 (by decide) ?_
  obtain ⟨rfl, rfl⟩ := z_e2 hf
  exact z_rz (by decide) B hW dX5_failsAt_6 (Nat.le_of_ble_eq_true rfl) (Nat.le_of_ble_eq_true rfl)
set_option maxRecDepth 100000 in
def f_X5_readNumber (σ : zSt) (l0 : Nat) : Option (Int32 × zSt) :=
(if z_ob σ l0 5 then (zb (f_X5_digit σ l0) (fun r3 => (if r3 = (-1 : Int32) then
(zb2 (f_X5_failsAt σ l0 (z_I σ l0 3)) (fun r18 σ19 => (some ((-1 : Int32), σ19))))
else
(zl (z_pI σ l0 3 ((z_I σ l0 3) + (1 : Int32))) (fun σ4 => (if z_ob σ4 l0 5 then (zb (f_X5_digit σ4 l0) (fun r8 => (if r8 = (-1 : Int32) then
(some (r3, σ4))
else
(zl (z_pI σ4 l0 3 ((z_I σ4 l0 3) + (1 : Int32))) (fun σ9 => (if z_ob σ9 l0 5 then (zb (f_X5_digit σ9 l0) (fun r13 => (if r13 = (-1 : Int32) then
(some ((((10 : Int32) * r3) + r8), σ9))
else
(zb2 (f_X5_failsAt σ9 l0 (z_I σ9 l0 3)) (fun r15 σ16 => (some ((-1 : Int32), σ16))))))) else none)))))) else none)))))) else none)
set_option maxRecDepth 20000 in
set_option maxHeartbeats 4000000 in
theorem K_X5_readNumber {σ : zSt} {l0 : Nat} {r : Int32} {σ' : zSt} (hf : f_X5_readNumber σ l0 = some (r, σ')) : z_M l D cA bs yX5_readNumber cX5_readNumber 3 (some .int) 2 41 0 0 [.ref l0] σ (z_Qi D cA bs r σ') := by
  refine z_met (own := RX5) (lv := [(0, .ref l0)]) (by decide) rfl (Nat.le_of_ble_eq_true rfl) rfl (fun p e s m below meth c ls B hnm hW hl => ?_)
  have hx := B.1
  have hb := B.2.1
  have hown := B.2.2.2.1
  have hts := B.2.2.2.2.1
  unfold f_X5_readNumber at hf
  refine lv_aload_n hx hb dX5_readNumber_0 rfl (lv_at hl 0 rfl) ?_
  obtain ⟨hg1, hf⟩ := z_g hf
  obtain ⟨r3, hq2, hf⟩ := z_b hf
  refine z_ci hW (z_runV (As := []) (rest := []) B hW zv_X5_76 (K_X5_digit hq2) hg1 rfl rfl rfl (Nat.le_of_ble_eq_true rfl) hl.1 ⟨Nat.le_of_ble_eq_true rfl, Nat.le_of_ble_eq_true rfl⟩ dX5_readNumber_1 ⟨Nat.le_of_ble_eq_true rfl, Nat.le_of_ble_eq_true rfl⟩) (fun H locs hW => ?_)
  refine lv_istore_n (lv' := [(1, .int r3), (0, .ref l0)]) hx hb dX5_readNumber_4 rfl hl (by decide) rfl (fun ls hl => ?_)
  refine lv_iload_n hx hb dX5_readNumber_5 rfl (lv_at hl 0 rfl) ?_
  refine lv_iconst (v := (-1 : Int32)) hx hb dX5_readNumber_6 (by decide) ?_
  refine lv_icmp_ne (tgt := 21) hx hb dX5_readNumber_7 (by decide) (fun hc7 => ?_) (fun hc7 => ?_)
  · replace hf := z_in hc7 hf
    refine lv_aload_n hx hb dX5_readNumber_21 rfl (lv_at hl 1 rfl) ?_
    refine lv_dup hx hb dX5_readNumber_22 rfl ?_
    refine z_getI B hW (Or.inl zf_X5_26) rfl hg1 dX5_readNumber_23 ?_
    refine lv_iconst (v := (1 : Int32)) hx hb dX5_readNumber_26 (by decide) ?_
    refine lv_iadd hx hb dX5_readNumber_27 ?_
    obtain ⟨σ4, hs5, hf⟩ := z_l hf
    refine z_putI B hW zf_X5_26 hg1 rfl hs5 dX5_readNumber_28 (fun H locs hW => ?_)
    refine lv_aload_n hx hb dX5_readNumber_31 rfl (lv_at hl 1 rfl) ?_
    obtain ⟨hg6, hf⟩ := z_g hf
    obtain ⟨r8, hq7, hf⟩ := z_b hf
    refine z_ci hW (z_runV (As := []) (rest := []) B hW zv_X5_76 (K_X5_digit hq7) hg6 rfl rfl rfl (Nat.le_of_ble_eq_true rfl) hl.1 ⟨Nat.le_of_ble_eq_true rfl, Nat.le_of_ble_eq_true rfl⟩ dX5_readNumber_32 ⟨Nat.le_of_ble_eq_true rfl, Nat.le_of_ble_eq_true rfl⟩) (fun H locs hW => ?_)
    refine lv_istore_n (lv' := [(2, .int r8), (1, .int r3), (0, .ref l0)]) hx hb dX5_readNumber_35 rfl hl (by decide) rfl (fun ls hl => ?_)
    refine lv_iload_n hx hb dX5_readNumber_36 rfl (lv_at hl 0 rfl) ?_
    refine lv_iconst (v := (-1 : Int32)) hx hb dX5_readNumber_37 (by decide) ?_
    refine lv_icmp_ne (tgt := 43) hx hb dX5_readNumber_38 (by decide) (fun hc38 => ?_) (fun hc38 => ?_)
    · replace hf := z_in hc38 hf
      refine lv_aload_n hx hb dX5_readNumber_43 rfl (lv_at hl 2 rfl) ?_
      refine lv_dup hx hb dX5_readNumber_44 rfl ?_
      refine z_getI B hW (Or.inl zf_X5_26) rfl hg6 dX5_readNumber_45 ?_
      refine lv_iconst (v := (1 : Int32)) hx hb dX5_readNumber_48 (by decide) ?_
      refine lv_iadd hx hb dX5_readNumber_49 ?_
      obtain ⟨σ9, hs10, hf⟩ := z_l hf
      refine z_putI B hW zf_X5_26 hg6 rfl hs10 dX5_readNumber_50 (fun H locs hW => ?_)
      refine lv_aload_n hx hb dX5_readNumber_53 rfl (lv_at hl 2 rfl) ?_
      obtain ⟨hg11, hf⟩ := z_g hf
      obtain ⟨r13, hq12, hf⟩ := z_b hf
      refine z_ci hW (z_runV (As := []) (rest := []) B hW zv_X5_76 (K_X5_digit hq12) hg11 rfl rfl rfl (Nat.le_of_ble_eq_true rfl) hl.1 ⟨Nat.le_of_ble_eq_true rfl, Nat.le_of_ble_eq_true rfl⟩ dX5_readNumber_54 ⟨Nat.le_of_ble_eq_true rfl, Nat.le_of_ble_eq_true rfl⟩) (fun H locs hW => ?_)
      refine lv_iconst (v := (-1 : Int32)) hx hb dX5_readNumber_57 (by decide) ?_
      refine lv_icmp_eq (tgt := 72) hx hb dX5_readNumber_58 (by decide) (fun hc58 => ?_) (fun hc58 => ?_)
      · replace hf := z_ip hc58 hf
        refine lv_bipush (v := (10 : Int32)) hx hb dX5_readNumber_72 (by decide) ?_
        refine lv_iload_n hx hb dX5_readNumber_74 rfl (lv_at hl 1 rfl) ?_
        refine lv_imul hx hb dX5_readNumber_75 ?_
        refine lv_iload_n hx hb dX5_readNumber_76 rfl (lv_at hl 0 rfl) ?_
        refine lv_iadd hx hb dX5_readNumber_77 ?_
        obtain ⟨rfl, rfl⟩ := z_e2 hf
        exact z_ri B hW dX5_readNumber_78 (Nat.le_of_ble_eq_true rfl) (Nat.le_of_ble_eq_true rfl)
      · replace hf := z_in hc58 hf
        refine lv_aload_n hx hb dX5_readNumber_61 rfl (lv_at hl 2 rfl) ?_
        refine lv_aload_n hx hb dX5_readNumber_62 rfl (lv_at hl 2 rfl) ?_
        refine z_getI B hW (Or.inl zf_X5_26) rfl hg11 dX5_readNumber_63 ?_
        obtain ⟨r15, σ16, hq14, hf⟩ := z_b2 hf
        refine z_ci hW (z_runV (As := [.int (z_I σ9 l0 3)]) (rest := []) B hW zv_X5_52 (K_X5_failsAt hq14) hg11 rfl rfl rfl (Nat.le_of_ble_eq_true rfl) hl.1 ⟨Nat.le_of_ble_eq_true rfl, Nat.le_of_ble_eq_true rfl⟩ dX5_readNumber_66 ⟨Nat.le_of_ble_eq_true rfl, Nat.le_of_ble_eq_true rfl⟩) (fun H locs hW => ?_)
        refine lv_pop hx hb dX5_readNumber_69 rfl ?_
        refine lv_iconst (v := (-1 : Int32)) hx hb dX5_readNumber_70 (by decide) ?_
        obtain ⟨rfl, rfl⟩ := z_e2 hf
        exact z_ri B hW dX5_readNumber_71 (Nat.le_of_ble_eq_true rfl) (Nat.le_of_ble_eq_true rfl)
    · replace hf := z_ip hc38 hf
      refine lv_iload_n hx hb dX5_readNumber_41 rfl (lv_at hl 1 rfl) ?_
      obtain ⟨rfl, rfl⟩ := z_e2 hf
      exact z_ri B hW dX5_readNumber_42 (Nat.le_of_ble_eq_true rfl) (Nat.le_of_ble_eq_true rfl)
  · replace hf := z_ip hc7 hf
    refine lv_aload_n hx hb dX5_readNumber_10 rfl (lv_at hl 1 rfl) ?_
    refine lv_aload_n hx hb dX5_readNumber_11 rfl (lv_at hl 1 rfl) ?_
    refine z_getI B hW (Or.inl zf_X5_26) rfl hg1 dX5_readNumber_12 ?_
    obtain ⟨r18, σ19, hq17, hf⟩ := z_b2 hf
    refine z_ci hW (z_runV (As := [.int (z_I σ l0 3)]) (rest := []) B hW zv_X5_52 (K_X5_failsAt hq17) hg1 rfl rfl rfl (Nat.le_of_ble_eq_true rfl) hl.1 ⟨Nat.le_of_ble_eq_true rfl, Nat.le_of_ble_eq_true rfl⟩ dX5_readNumber_15 ⟨Nat.le_of_ble_eq_true rfl, Nat.le_of_ble_eq_true rfl⟩) (fun H locs hW => ?_)
    refine lv_pop hx hb dX5_readNumber_18 rfl ?_
    refine lv_iconst (v := (-1 : Int32)) hx hb dX5_readNumber_19 (by decide) ?_
    obtain ⟨rfl, rfl⟩ := z_e2 hf
    exact z_ri B hW dX5_readNumber_20 (Nat.le_of_ble_eq_true rfl) (Nat.le_of_ble_eq_true rfl)
set_option maxRecDepth 100000 in
def f_X9_isWithin_15 (σ : zSt) (s0 : Int32) : Option (Int32) :=
(if z_bl s0 then (some s0) else none)
set_option maxRecDepth 20000 in
set_option maxHeartbeats 4000000 in
theorem t_X9_isWithin_15 (B : z_B p s m args meth c D cA bs RX9 cX9_isWithin 3 (some .boolean)) {r : Int32} {σ : zSt} {s0 : Int32} (hf : f_X9_isWithin_15 σ s0 = some r) {H : Heap} {locs : List Loc} {ls : Array Slot} (hW : z_Ok D cA bs s σ H locs) (hl : lv_has ls 3 [])  : W p l e (zrm 0 0 0 0) s m args below meth c H locs 0 0 (MQ below (z_Qi D cA bs r σ) args s 0 0 (fun q => bs ≤ q)) (F0 m 15 ls [.int s0]) := by
  have hx := B.1
  have hb := B.2.1
  have hown := B.2.2.2.1
  have hts := B.2.2.2.2.1
  unfold f_X9_isWithin_15 at hf
  obtain ⟨hg1, hf⟩ := z_g hf
  obtain rfl := z_e1 hf
  exact z_rz hg1 B hW dX9_isWithin_15 (Nat.le_of_ble_eq_true rfl) (Nat.le_of_ble_eq_true rfl)
set_option maxRecDepth 100000 in
def f_X9_isWithin_14 (σ : zSt) : Option (Int32) :=
(f_X9_isWithin_15 σ (0 : Int32))
set_option maxRecDepth 20000 in
set_option maxHeartbeats 4000000 in
theorem t_X9_isWithin_14 (B : z_B p s m args meth c D cA bs RX9 cX9_isWithin 3 (some .boolean)) {r : Int32} {σ : zSt} (hf : f_X9_isWithin_14 σ = some r) {H : Heap} {locs : List Loc} {ls : Array Slot} (hW : z_Ok D cA bs s σ H locs) (hl : lv_has ls 3 [])  : W p l e (zrm 0 0 0 0) s m args below meth c H locs 0 0 (MQ below (z_Qi D cA bs r σ) args s 0 0 (fun q => bs ≤ q)) (F0 m 14 ls []) := by
  have hx := B.1
  have hb := B.2.1
  have hown := B.2.2.2.1
  have hts := B.2.2.2.2.1
  unfold f_X9_isWithin_14 at hf
  refine lv_iconst (v := (0 : Int32)) hx hb dX9_isWithin_14 (by decide) ?_
  exact t_X9_isWithin_15 B hf hW hl 
set_option maxRecDepth 100000 in
def f_X9_isWithin (σ : zSt) (l0 : Int32) (l1 : Int32) (l2 : Int32) : Option (Int32) :=
(if l0 < l1 then
(f_X9_isWithin_14 σ)
else
(if l2 < l0 then
(f_X9_isWithin_14 σ)
else
(f_X9_isWithin_15 σ (1 : Int32))))
set_option maxRecDepth 20000 in
set_option maxHeartbeats 4000000 in
theorem K_X9_isWithin {σ : zSt} {l0 : Int32} {l1 : Int32} {l2 : Int32} {r : Int32} (hf : f_X9_isWithin σ l0 l1 l2 = some r) : z_M l D cA bs yX9_isWithin cX9_isWithin 3 (some .boolean) 0 0 0 0 [.int l0, .int l1, .int l2] σ (z_Qi D cA bs r σ) := by
  refine z_met (own := RX9) (lv := [(0, .int l0), (1, .int l1), (2, .int l2)]) (by decide) rfl (Nat.le_of_ble_eq_true rfl) rfl (fun p e s m below meth c ls B hnm hW hl => ?_)
  have hx := B.1
  have hb := B.2.1
  have hown := B.2.2.2.1
  have hts := B.2.2.2.2.1
  unfold f_X9_isWithin at hf
  refine lv_iload_n hx hb dX9_isWithin_0 rfl (lv_at hl 0 rfl) ?_
  refine lv_iload_n hx hb dX9_isWithin_1 rfl (lv_at hl 1 rfl) ?_
  refine lv_icmp_lt (tgt := 14) hx hb dX9_isWithin_2 (by decide) (fun hc2 => ?_) (fun hc2 => ?_)
  · replace hf := z_ip hc2 hf
    exact t_X9_isWithin_14 B hf hW (lv_sub hl [] rfl) 
  · replace hf := z_in hc2 hf
    refine lv_iload_n hx hb dX9_isWithin_5 rfl (lv_at hl 0 rfl) ?_
    refine lv_iload_n hx hb dX9_isWithin_6 rfl (lv_at hl 2 rfl) ?_
    refine lv_icmp_gt (tgt := 14) hx hb dX9_isWithin_7 (by decide) (fun hc7 => ?_) (fun hc7 => ?_)
    · replace hf := z_ip hc7 hf
      exact t_X9_isWithin_14 B hf hW (lv_sub hl [] rfl) 
    · replace hf := z_in hc7 hf
      refine lv_iconst (v := (1 : Int32)) hx hb dX9_isWithin_10 (by decide) ?_
      refine lv_goto (tgt := 15) hx hb dX9_isWithin_11 (by decide) ?_
      exact t_X9_isWithin_15 B hf hW (lv_sub hl [] rfl) 
set_option maxRecDepth 100000 in
def f_X9_isAddress (σ : zSt) (l0 : Int32) : Option (Int32) :=
(zb (f_X9_isWithin σ l0 (0 : Int32) (31 : Int32)) (fun r2 => (if z_bl r2 then (some r2) else none)))
set_option maxRecDepth 20000 in
set_option maxHeartbeats 4000000 in
theorem K_X9_isAddress {σ : zSt} {l0 : Int32} {r : Int32} (hf : f_X9_isAddress σ l0 = some r) : z_M l D cA bs yX9_isAddress cX9_isAddress 1 (some .boolean) 1 22 0 0 [.int l0] σ (z_Qi D cA bs r σ) := by
  refine z_met (own := RX9) (lv := [(0, .int l0)]) (by decide) rfl (Nat.le_of_ble_eq_true rfl) rfl (fun p e s m below meth c ls B hnm hW hl => ?_)
  have hx := B.1
  have hb := B.2.1
  have hown := B.2.2.2.1
  have hts := B.2.2.2.2.1
  unfold f_X9_isAddress at hf
  refine lv_iload_n hx hb dX9_isAddress_0 rfl (lv_at hl 0 rfl) ?_
  refine lv_iconst (v := (0 : Int32)) hx hb dX9_isAddress_1 (by decide) ?_
  refine lv_bipush (v := (31 : Int32)) hx hb dX9_isAddress_2 (by decide) ?_
  obtain ⟨r2, hq1, hf⟩ := z_b hf
  refine z_ci hW (z_runS (As := [.int l0, .int (0 : Int32), .int (31 : Int32)]) (rest := []) B hW zv_X9_80 (K_X9_isWithin hq1) rfl rfl (Nat.le_of_ble_eq_true rfl) hl.1 ⟨Nat.le_of_ble_eq_true rfl, Nat.le_of_ble_eq_true rfl⟩ dX9_isAddress_4 ⟨Nat.le_of_ble_eq_true rfl, Nat.le_of_ble_eq_true rfl⟩) (fun H locs hW => ?_)
  obtain ⟨hg3, hf⟩ := z_g hf
  obtain rfl := z_e1 hf
  exact z_rz hg3 B hW dX9_isAddress_7 (Nat.le_of_ble_eq_true rfl) (Nat.le_of_ble_eq_true rfl)
set_option maxRecDepth 100000 in
def f_X5_skips (σ : zSt) (l0 : Nat) (l1 : Int32) : Option (Int32 × zSt) :=
(if z_ob σ l0 5 then (zb (f_X5_sign σ l0) (fun r3 => (if r3 = l1 then
(zl (z_pI σ l0 3 ((z_I σ l0 3) + (1 : Int32))) (fun σ4 => (some ((1 : Int32), σ4))))
else
(zb2 (f_X5_failsAt σ l0 (z_I σ l0 3)) (fun r7 σ8 => (if z_bl r7 then (some (r7, σ8)) else none)))))) else none)
set_option maxRecDepth 20000 in
set_option maxHeartbeats 4000000 in
theorem K_X5_skips {σ : zSt} {l0 : Nat} {l1 : Int32} {r : Int32} {σ' : zSt} (hf : f_X5_skips σ l0 l1 = some (r, σ')) : z_M l D cA bs yX5_skips cX5_skips 2 (some .boolean) 1 21 0 0 [.ref l0, .int l1] σ (z_Qi D cA bs r σ') := by
  refine z_met (own := RX5) (lv := [(0, .ref l0), (1, .int l1)]) (by decide) rfl (Nat.le_of_ble_eq_true rfl) rfl (fun p e s m below meth c ls B hnm hW hl => ?_)
  have hx := B.1
  have hb := B.2.1
  have hown := B.2.2.2.1
  have hts := B.2.2.2.2.1
  unfold f_X5_skips at hf
  refine lv_aload_n hx hb dX5_skips_0 rfl (lv_at hl 0 rfl) ?_
  obtain ⟨hg1, hf⟩ := z_g hf
  obtain ⟨r3, hq2, hf⟩ := z_b hf
  refine z_ci hW (z_runV (As := []) (rest := []) B hW zv_X5_33 (K_X5_sign hq2) hg1 rfl rfl rfl (Nat.le_of_ble_eq_true rfl) hl.1 ⟨Nat.le_of_ble_eq_true rfl, Nat.le_of_ble_eq_true rfl⟩ dX5_skips_1 ⟨Nat.le_of_ble_eq_true rfl, Nat.le_of_ble_eq_true rfl⟩) (fun H locs hW => ?_)
  refine lv_iload_n hx hb dX5_skips_4 rfl (lv_at hl 1 rfl) ?_
  refine lv_icmp_eq (tgt := 17) hx hb dX5_skips_5 (by decide) (fun hc5 => ?_) (fun hc5 => ?_)
  · replace hf := z_ip hc5 hf
    refine lv_aload_n hx hb dX5_skips_17 rfl (lv_at hl 0 rfl) ?_
    refine lv_dup hx hb dX5_skips_18 rfl ?_
    refine z_getI B hW (Or.inl zf_X5_26) rfl hg1 dX5_skips_19 ?_
    refine lv_iconst (v := (1 : Int32)) hx hb dX5_skips_22 (by decide) ?_
    refine lv_iadd hx hb dX5_skips_23 ?_
    obtain ⟨σ4, hs5, hf⟩ := z_l hf
    refine z_putI B hW zf_X5_26 hg1 rfl hs5 dX5_skips_24 (fun H locs hW => ?_)
    refine lv_iconst (v := (1 : Int32)) hx hb dX5_skips_27 (by decide) ?_
    obtain ⟨rfl, rfl⟩ := z_e2 hf
    exact z_rz (by decide) B hW dX5_skips_28 (Nat.le_of_ble_eq_true rfl) (Nat.le_of_ble_eq_true rfl)
  · replace hf := z_in hc5 hf
    refine lv_aload_n hx hb dX5_skips_8 rfl (lv_at hl 0 rfl) ?_
    refine lv_aload_n hx hb dX5_skips_9 rfl (lv_at hl 0 rfl) ?_
    refine z_getI B hW (Or.inl zf_X5_26) rfl hg1 dX5_skips_10 ?_
    obtain ⟨r7, σ8, hq6, hf⟩ := z_b2 hf
    refine z_ci hW (z_runV (As := [.int (z_I σ l0 3)]) (rest := []) B hW zv_X5_52 (K_X5_failsAt hq6) hg1 rfl rfl rfl (Nat.le_of_ble_eq_true rfl) hl.1 ⟨Nat.le_of_ble_eq_true rfl, Nat.le_of_ble_eq_true rfl⟩ dX5_skips_13 ⟨Nat.le_of_ble_eq_true rfl, Nat.le_of_ble_eq_true rfl⟩) (fun H locs hW => ?_)
    obtain ⟨hg9, hf⟩ := z_g hf
    obtain ⟨rfl, rfl⟩ := z_e2 hf
    exact z_rz hg9 B hW dX5_skips_16 (Nat.le_of_ble_eq_true rfl) (Nat.le_of_ble_eq_true rfl)
set_option maxRecDepth 100000 in
def f_X5_readStation_35 (σ : zSt) (l0 : Nat) (l1 : Int32) : Option (Int32 × zSt) :=
(if z_ob σ l0 5 then (zb2 (f_X5_failsAt σ l0 l1) (fun r3 σ4 => (if z_bl r3 then (some (r3, σ4)) else none))) else none)
set_option maxRecDepth 20000 in
set_option maxHeartbeats 4000000 in
theorem t_X5_readStation_35 (B : z_B p s m args meth c D cA bs RX5 cX5_readStation 3 (some .boolean)) {r : Int32} {σ' : zSt} {σ : zSt} {l0 : Nat} {l1 : Int32} (hf : f_X5_readStation_35 σ l0 l1 = some (r, σ')) {H : Heap} {locs : List Loc} {ls : Array Slot} (hW : z_Ok D cA bs s σ H locs) (hl : lv_has ls 3 [(0, .ref l0), (1, .int l1)])  : W p l e (zrm 3 0 0 63) s m args below meth c H locs 0 0 (MQ below (z_Qi D cA bs r σ') args s 0 0 (fun q => bs ≤ q)) (F0 m 35 ls []) := by
  have hx := B.1
  have hb := B.2.1
  have hown := B.2.2.2.1
  have hts := B.2.2.2.2.1
  unfold f_X5_readStation_35 at hf
  refine lv_aload_n hx hb dX5_readStation_35 rfl (lv_at hl 0 rfl) ?_
  refine lv_iload_n hx hb dX5_readStation_36 rfl (lv_at hl 1 rfl) ?_
  obtain ⟨hg1, hf⟩ := z_g hf
  obtain ⟨r3, σ4, hq2, hf⟩ := z_b2 hf
  refine z_ci hW (z_runV (As := [.int l1]) (rest := []) B hW zv_X5_52 (K_X5_failsAt hq2) hg1 rfl rfl rfl (Nat.le_of_ble_eq_true rfl) hl.1 ⟨Nat.le_of_ble_eq_true rfl, Nat.le_of_ble_eq_true rfl⟩ dX5_readStation_37 ⟨Nat.le_of_ble_eq_true rfl, Nat.le_of_ble_eq_true rfl⟩) (fun H locs hW => ?_)
  obtain ⟨hg5, hf⟩ := z_g hf
  obtain ⟨rfl, rfl⟩ := z_e2 hf
  exact z_rz hg5 B hW dX5_readStation_40 (Nat.le_of_ble_eq_true rfl) (Nat.le_of_ble_eq_true rfl)
set_option maxRecDepth 100000 in
def f_X5_readStation (σ : zSt) (l0 : Nat) : Option (Int32 × zSt) :=
(if z_ob σ l0 5 then (zl (z_I σ l0 3) (fun x2 => (zb2 (f_X5_readNumber σ l0) (fun r5 σ6 => (if r5 = (-1 : Int32) then
(some ((0 : Int32), σ6))
else
(zb (f_X9_isAddress σ6 r5) (fun r8 => (if r8 = 0 then
(f_X5_readStation_35 σ6 l0 x2)
else
(if z_ob σ6 l0 5 then (zc (z_R σ6 l0 2) none (fun q10 => (if z_ob σ6 q10 2 then (zb (f_X2_stationWith σ6 q10 r5) (fun r14 => (zc r14
(zb2 (f_X5_skips σ6 l0 (59 : Int32)) (fun r17 σ18 => (if r17 = 0 then
(some ((0 : Int32), σ18))
else
(if z_ob σ18 l0 5 then (zc (z_R σ18 l0 2) none (fun q20 => (if z_ob σ18 q20 2 then (zb2 (f_X2_placeStation σ18 q20 r5) (fun r24 σ25 => (if z_ob σ25 l0 5 then (zl (z_pR σ25 l0 4 r24) (fun σ27 => (some ((1 : Int32), σ27)))) else none))) else none))) else none))))
(fun a15 => (f_X5_readStation_35 σ6 l0 x2))))) else none))) else none))))))))) else none)
set_option maxRecDepth 20000 in
set_option maxHeartbeats 4000000 in
theorem K_X5_readStation {σ : zSt} {l0 : Nat} {r : Int32} {σ' : zSt} (hf : f_X5_readStation σ l0 = some (r, σ')) : z_M l D cA bs yX5_readStation cX5_readStation 3 (some .boolean) 3 63 0 0 [.ref l0] σ (z_Qi D cA bs r σ') := by
  refine z_met (own := RX5) (lv := [(0, .ref l0)]) (by decide) rfl (Nat.le_of_ble_eq_true rfl) rfl (fun p e s m below meth c ls B hnm hW hl => ?_)
  have hx := B.1
  have hb := B.2.1
  have hown := B.2.2.2.1
  have hts := B.2.2.2.2.1
  unfold f_X5_readStation at hf
  refine lv_aload_n hx hb dX5_readStation_0 rfl (lv_at hl 0 rfl) ?_
  obtain ⟨hg1, hf⟩ := z_g hf
  refine z_getI B hW (Or.inl zf_X5_26) rfl hg1 dX5_readStation_1 ?_
  obtain ⟨x2, hx3, hf⟩ := z_l hf
  rw [hx3]
  refine lv_istore_n (lv' := [(1, .int x2), (0, .ref l0)]) hx hb dX5_readStation_4 rfl hl (by decide) rfl (fun ls hl => ?_)
  refine lv_aload_n hx hb dX5_readStation_5 rfl (lv_at hl 1 rfl) ?_
  obtain ⟨r5, σ6, hq4, hf⟩ := z_b2 hf
  refine z_ci hW (z_runV (As := []) (rest := []) B hW zv_X5_56 (K_X5_readNumber hq4) hg1 rfl rfl rfl (Nat.le_of_ble_eq_true rfl) hl.1 ⟨Nat.le_of_ble_eq_true rfl, Nat.le_of_ble_eq_true rfl⟩ dX5_readStation_6 ⟨Nat.le_of_ble_eq_true rfl, Nat.le_of_ble_eq_true rfl⟩) (fun H locs hW => ?_)
  refine lv_istore_n (lv' := [(2, .int r5), (1, .int x2), (0, .ref l0)]) hx hb dX5_readStation_9 rfl hl (by decide) rfl (fun ls hl => ?_)
  refine lv_iload_n hx hb dX5_readStation_10 rfl (lv_at hl 0 rfl) ?_
  refine lv_iconst (v := (-1 : Int32)) hx hb dX5_readStation_11 (by decide) ?_
  refine lv_icmp_ne (tgt := 17) hx hb dX5_readStation_12 (by decide) (fun hc12 => ?_) (fun hc12 => ?_)
  · replace hf := z_in hc12 hf
    refine lv_iload_n hx hb dX5_readStation_17 rfl (lv_at hl 0 rfl) ?_
    obtain ⟨r8, hq7, hf⟩ := z_b hf
    refine z_ci hW (z_runSN (As := [.int r5]) (rest := []) B hW zv_X5_59 (K_X9_isAddress hq7) rfl rfl (Nat.le_of_ble_eq_true rfl) hl.1 ⟨Nat.le_of_ble_eq_true rfl, Nat.le_of_ble_eq_true rfl⟩ dX5_readStation_18 ⟨Nat.le_of_ble_eq_true rfl, Nat.le_of_ble_eq_true rfl⟩) (fun H locs hW => ?_)
    refine lv_if_eq (tgt := 35) hx hb dX5_readStation_21 (by decide) (fun hc21 => ?_) (fun hc21 => ?_)
    · replace hf := z_ip hc21 hf
      exact t_X5_readStation_35 B hf hW (lv_sub hl [2, 1] rfl) 
    · replace hf := z_in hc21 hf
      refine lv_aload_n hx hb dX5_readStation_24 rfl (lv_at hl 2 rfl) ?_
      obtain ⟨hg9, hf⟩ := z_g hf
      obtain ⟨q10, hv11, hf⟩ := z_nn hf
      refine z_getN B hW (Or.inr zf_X5_22) rfl hg9 hv11 dX5_readStation_25 ?_
      refine lv_iload_n hx hb dX5_readStation_28 rfl (lv_at hl 0 rfl) ?_
      obtain ⟨hg12, hf⟩ := z_g hf
      obtain ⟨r14, hq13, hf⟩ := z_b hf
      refine z_cq hW (z_runV (As := [.int r5]) (rest := []) B hW zv_X5_62 (K_X2_stationWith hq13) hg12 rfl rfl rfl (Nat.le_of_ble_eq_true rfl) hl.1 ⟨Nat.le_of_ble_eq_true rfl, Nat.le_of_ble_eq_true rfl⟩ dX5_readStation_29 ⟨Nat.le_of_ble_eq_true rfl, Nat.le_of_ble_eq_true rfl⟩) (fun H locs hW => ?_)
      refine z_ifnull (tgt := 41) hx hb dX5_readStation_32 (by decide) (fun hz29 => ?_) (fun a15 hz29 => ?_)
      · subst hz29
        replace hf := z_c0 hf
        refine lv_aload_n hx hb dX5_readStation_41 rfl (lv_at hl 2 rfl) ?_
        refine lv_bipush (v := (59 : Int32)) hx hb dX5_readStation_42 (by decide) ?_
        obtain ⟨r17, σ18, hq16, hf⟩ := z_b2 hf
        refine z_ci hW (z_runV (As := [.int (59 : Int32)]) (rest := []) B hW zv_X5_66 (K_X5_skips hq16) hg9 rfl rfl rfl (Nat.le_of_ble_eq_true rfl) hl.1 ⟨Nat.le_of_ble_eq_true rfl, Nat.le_of_ble_eq_true rfl⟩ dX5_readStation_44 ⟨Nat.le_of_ble_eq_true rfl, Nat.le_of_ble_eq_true rfl⟩) (fun H locs hW => ?_)
        refine lv_if_ne (tgt := 52) hx hb dX5_readStation_47 (by decide) (fun hc47 => ?_) (fun hc47 => ?_)
        · replace hf := z_in hc47 hf
          refine lv_aload_n hx hb dX5_readStation_52 rfl (lv_at hl 2 rfl) ?_
          refine lv_aload_n hx hb dX5_readStation_53 rfl (lv_at hl 2 rfl) ?_
          obtain ⟨hg19, hf⟩ := z_g hf
          obtain ⟨q20, hv21, hf⟩ := z_nn hf
          refine z_getN B hW (Or.inr zf_X5_22) rfl hg19 hv21 dX5_readStation_54 ?_
          refine lv_iload_n hx hb dX5_readStation_57 rfl (lv_at hl 0 rfl) ?_
          obtain ⟨hg22, hf⟩ := z_g hf
          obtain ⟨r24, σ25, hq23, hf⟩ := z_b2 hf
          refine z_cq hW (z_runV (As := [.int r5]) (rest := [.ref l0]) B hW zv_X5_69 (K_X2_placeStation hq23) hg22 rfl rfl rfl (Nat.le_of_ble_eq_true rfl) hl.1 ⟨Nat.le_of_ble_eq_true rfl, Nat.le_of_ble_eq_true rfl⟩ dX5_readStation_58 ⟨Nat.le_of_ble_eq_true rfl, Nat.le_of_ble_eq_true rfl⟩) (fun H locs hW => ?_)
          obtain ⟨hg26, hf⟩ := z_g hf
          obtain ⟨σ27, hs28, hf⟩ := z_l hf
          refine z_putR B hW zf_X5_45 rfl hg26 (v := r24) hs28 dX5_readStation_61 (fun H locs hW => ?_)
          refine lv_iconst (v := (1 : Int32)) hx hb dX5_readStation_64 (by decide) ?_
          obtain ⟨rfl, rfl⟩ := z_e2 hf
          exact z_rz (by decide) B hW dX5_readStation_65 (Nat.le_of_ble_eq_true rfl) (Nat.le_of_ble_eq_true rfl)
        · replace hf := z_ip hc47 hf
          refine lv_iconst (v := (0 : Int32)) hx hb dX5_readStation_50 (by decide) ?_
          obtain ⟨rfl, rfl⟩ := z_e2 hf
          exact z_rz (by decide) B hW dX5_readStation_51 (Nat.le_of_ble_eq_true rfl) (Nat.le_of_ble_eq_true rfl)
      · subst hz29
        replace hf := z_c1 hf
        exact t_X5_readStation_35 B hf hW (lv_sub hl [2, 1] rfl) 
  · replace hf := z_ip hc12 hf
    refine lv_iconst (v := (0 : Int32)) hx hb dX5_readStation_15 (by decide) ?_
    obtain ⟨rfl, rfl⟩ := z_e2 hf
    exact z_rz (by decide) B hW dX5_readStation_16 (Nat.le_of_ble_eq_true rfl) (Nat.le_of_ble_eq_true rfl)
end GEN
