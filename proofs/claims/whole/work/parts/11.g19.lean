section GEN
variable {p : Program} {l : Launch} {e : Env} {s : State} {m : MethodId} {args : Array Value} {below : List Frame} {meth : Method} {c : Code} {D : va_G} {cA : Nat → ClassId} {bs : Nat}
set_option maxRecDepth 100000 in
def f_X10_queueOf_40 (σ : zSt) (l0 : Nat) (l1 : Int32) (l3 : Int32) (s0 : Int32) (s1 : Int32) : Option ((Int32 × Int32) ⊕ (Int32)) :=
(zl (s1 + s0) (fun x1 => (some (.inl (x1, (l3 + (1 : Int32)))))))
set_option maxRecDepth 20000 in
set_option maxHeartbeats 4000000 in
theorem t_X10_queueOf_40 (B : z_B p s m args meth c D cA bs RX10 cX10_queueOf 4 (some .int)) {r : Int32} {o1 : (Int32 × Int32) ⊕ (Int32)} {σ : zSt} {l0 : Nat} {l1 : Int32} {l3 : Int32} {s0 : Int32} {s1 : Int32} (hf : f_X10_queueOf_40 σ l0 l1 l3 s0 s1 = some o1) {H : Heap} {locs : List Loc} {ls : Array Slot} (hW : z_Ok D cA bs s σ H locs) (hl : lv_has ls 4 [(0, .ref l0), (1, .int l1), (3, .int l3)]) (hk1 : ∀ (l2 : Int32) (l3 : Int32), o1 = .inl (l2, l3) → ∀ {H : Heap} {locs : List Loc} {ls : Array Slot}, z_Ok D cA bs s σ H locs → lv_has ls 4 [(0, .ref l0), (1, .int l1), (2, .int l2), (3, .int l3)] → W p l e (zrm 2 0 0 43) s m args below meth c H locs 0 0 (MQ below (z_Qi D cA bs r σ) args s 0 0 (fun q => bs ≤ q)) (F0 m 4 ls [])) (hr1 : ∀ x, o1 = .inr x → x = r) : W p l e (zrm 2 0 0 43) s m args below meth c H locs 0 0 (MQ below (z_Qi D cA bs r σ) args s 0 0 (fun q => bs ≤ q)) (F0 m 40 ls [.int s0, .int s1]) := by
  have hx := B.1
  have hb := B.2.1
  have hown := B.2.2.2.1
  have hts := B.2.2.2.2.1
  unfold f_X10_queueOf_40 at hf
  refine lv_iadd hx hb dX10_queueOf_40 ?_
  obtain ⟨x1, hx2, hf⟩ := z_l hf
  rw [hx2]
  refine lv_istore_n (lv' := [(2, .int x1), (0, .ref l0), (1, .int l1), (3, .int l3)]) hx hb dX10_queueOf_41 rfl hl (by decide) rfl (fun ls hl => ?_)
  refine lv_iinc (v := (l3 + (1 : Int32))) (lv' := [(3, .int (l3 + (1 : Int32))), (2, .int x1), (0, .ref l0), (1, .int l1)]) hx hb dX10_queueOf_42 hl (k := 3) rfl rfl (by decide) rfl (fun ls hl => ?_)
  refine lv_goto (tgt := 4) hx hb dX10_queueOf_45 (by decide) ?_
  exact hk1 _ _ (Option.some.inj hf).symm hW (lv_sub hl [2, 3, 1, 0] rfl)
set_option maxRecDepth 100000 in
def f_X10_queueOf_39 (σ : zSt) (l0 : Nat) (l1 : Int32) (l3 : Int32) (s0 : Int32) : Option ((Int32 × Int32) ⊕ (Int32)) :=
(f_X10_queueOf_40 σ l0 l1 l3 (0 : Int32) s0)
set_option maxRecDepth 20000 in
set_option maxHeartbeats 4000000 in
theorem t_X10_queueOf_39 (B : z_B p s m args meth c D cA bs RX10 cX10_queueOf 4 (some .int)) {r : Int32} {o1 : (Int32 × Int32) ⊕ (Int32)} {σ : zSt} {l0 : Nat} {l1 : Int32} {l3 : Int32} {s0 : Int32} (hf : f_X10_queueOf_39 σ l0 l1 l3 s0 = some o1) {H : Heap} {locs : List Loc} {ls : Array Slot} (hW : z_Ok D cA bs s σ H locs) (hl : lv_has ls 4 [(0, .ref l0), (1, .int l1), (3, .int l3)]) (hk1 : ∀ (l2 : Int32) (l3 : Int32), o1 = .inl (l2, l3) → ∀ {H : Heap} {locs : List Loc} {ls : Array Slot}, z_Ok D cA bs s σ H locs → lv_has ls 4 [(0, .ref l0), (1, .int l1), (2, .int l2), (3, .int l3)] → W p l e (zrm 2 0 0 43) s m args below meth c H locs 0 0 (MQ below (z_Qi D cA bs r σ) args s 0 0 (fun q => bs ≤ q)) (F0 m 4 ls [])) (hr1 : ∀ x, o1 = .inr x → x = r) : W p l e (zrm 2 0 0 43) s m args below meth c H locs 0 0 (MQ below (z_Qi D cA bs r σ) args s 0 0 (fun q => bs ≤ q)) (F0 m 39 ls [.int s0]) := by
  have hx := B.1
  have hb := B.2.1
  have hown := B.2.2.2.1
  have hts := B.2.2.2.2.1
  unfold f_X10_queueOf_39 at hf
  refine lv_iconst (v := (0 : Int32)) hx hb dX10_queueOf_39 (by decide) ?_
  exact t_X10_queueOf_40 B hf hW hl hk1 hr1
set_option maxRecDepth 100000 in
def b_X10_queueOf_4 (σ : zSt) (l0 : Nat) (l1 : Int32) (l2 : Int32) (l3 : Int32) : Option ((Int32 × Int32) ⊕ (Int32)) :=
(if z_ob σ l0 9 then (zc (z_R σ l0 0) none (fun q2 => (if z_ar σ q2 0 then (if z_ix (5 : Int32) (z_ln σ q2) then (if (z_I σ q2 (5 : Int32).toNatClampNeg) ≤ l3 then
(zex (some l2))
else
(zb (f_X10_ofMessage σ l0 l3 (2 : Int32)) (fun r8 => (if r8 = l1 then
(zb (f_X10_ofMessage σ l0 l3 (4 : Int32)) (fun r10 => (if r10 = (-1 : Int32) then
(f_X10_queueOf_40 σ l0 l1 l3 (1 : Int32) l2)
else
(f_X10_queueOf_39 σ l0 l1 l3 l2))))
else
(f_X10_queueOf_39 σ l0 l1 l3 l2))))) else none) else none))) else none)
set_option maxRecDepth 100000 in
def f_X10_queueOf_4 (σ : zSt) (l0 : Nat) (l1 : Int32) (l2 : Int32) (l3 : Int32) : Option (Int32) := zloop (fun (t : Int32 × Int32) => b_X10_queueOf_4 σ l0 l1 t.1 t.2) zN (l2, l3)
set_option maxRecDepth 20000 in
set_option maxHeartbeats 4000000 in
theorem tb_X10_queueOf_4 (B : z_B p s m args meth c D cA bs RX10 cX10_queueOf 4 (some .int)) {r : Int32} {o1 : (Int32 × Int32) ⊕ (Int32)} {σ : zSt} {l0 : Nat} {l1 : Int32} {l2 : Int32} {l3 : Int32} (hf : b_X10_queueOf_4 σ l0 l1 l2 l3 = some o1) {H : Heap} {locs : List Loc} {ls : Array Slot} (hW : z_Ok D cA bs s σ H locs) (hl : lv_has ls 4 [(0, .ref l0), (1, .int l1), (2, .int l2), (3, .int l3)]) (hk1 : ∀ (l2 : Int32) (l3 : Int32), o1 = .inl (l2, l3) → ∀ {H : Heap} {locs : List Loc} {ls : Array Slot}, z_Ok D cA bs s σ H locs → lv_has ls 4 [(0, .ref l0), (1, .int l1), (2, .int l2), (3, .int l3)] → W p l e (zrm 2 0 0 43) s m args below meth c H locs 0 0 (MQ below (z_Qi D cA bs r σ) args s 0 0 (fun q => bs ≤ q)) (F0 m 4 ls [])) (hr1 : ∀ x, o1 = .inr x → x = r) : W p l e (zrm 2 0 0 43) s m args below meth c H locs 0 0 (MQ below (z_Qi D cA bs r σ) args s 0 0 (fun q => bs ≤ q)) (F0 m 4 ls []) := by
  have hx := B.1
  have hb := B.2.1
  have hown := B.2.2.2.1
  have hts := B.2.2.2.2.1
  unfold b_X10_queueOf_4 at hf
  refine lv_iload_n hx hb dX10_queueOf_4 rfl (lv_at hl 3 rfl) ?_
  refine lv_aload_n hx hb dX10_queueOf_5 rfl (lv_at hl 0 rfl) ?_
  obtain ⟨hg1, hf⟩ := z_g hf
  obtain ⟨q2, hv3, hf⟩ := z_nn hf
  refine z_getN B hW (Or.inr zf_X10_7) rfl hg1 hv3 dX10_queueOf_6 ?_
  refine lv_iconst (v := (5 : Int32)) hx hb dX10_queueOf_9 (by decide) ?_
  obtain ⟨hg4, hf⟩ := z_g hf
  obtain ⟨hg5, hf⟩ := z_g hf
  refine z_ald B hW hg4 hg5 dX10_queueOf_10 ?_
  refine lv_icmp_ge (tgt := 48) hx hb dX10_queueOf_11 (by decide) (fun hc11 => ?_) (fun hc11 => ?_)
  · replace hf := z_ip hc11 hf
    obtain ⟨w1, hf, ho6⟩ := z_x hf
    obtain rfl := hr1 _ ho6
    refine lv_iload_n hx hb dX10_queueOf_48 rfl (lv_at hl 2 rfl) ?_
    obtain rfl := z_e1 hf
    exact z_ri B hW dX10_queueOf_49 (Nat.le_of_ble_eq_true rfl) (Nat.le_of_ble_eq_true rfl)
  · replace hf := z_in hc11 hf
    refine lv_iload_n hx hb dX10_queueOf_14 rfl (lv_at hl 2 rfl) ?_
    refine lv_aload_n hx hb dX10_queueOf_15 rfl (lv_at hl 0 rfl) ?_
    refine lv_iload_n hx hb dX10_queueOf_16 rfl (lv_at hl 3 rfl) ?_
    refine lv_iconst (v := (2 : Int32)) hx hb dX10_queueOf_17 (by decide) ?_
    obtain ⟨r8, hq7, hf⟩ := z_b hf
    refine z_ci hW (z_runV (As := [.int l3, .int (2 : Int32)]) (rest := [.int l2]) B hW zv_X10_80 (K_X10_ofMessage hq7) hg1 rfl rfl rfl (Nat.le_of_ble_eq_true rfl) hl.1 ⟨Nat.le_of_ble_eq_true rfl, Nat.le_of_ble_eq_true rfl⟩ dX10_queueOf_18 ⟨Nat.le_of_ble_eq_true rfl, Nat.le_of_ble_eq_true rfl⟩) (fun H locs hW => ?_)
    refine lv_iload_n hx hb dX10_queueOf_21 rfl (lv_at hl 1 rfl) ?_
    refine lv_icmp_ne (tgt := 39) hx hb dX10_queueOf_22 (by decide) (fun hc22 => ?_) (fun hc22 => ?_)
    · replace hf := z_in hc22 hf
      exact t_X10_queueOf_39 B hf hW (lv_sub hl [0, 1, 3] rfl) hk1 hr1
    · replace hf := z_ip hc22 hf
      refine lv_aload_n hx hb dX10_queueOf_25 rfl (lv_at hl 0 rfl) ?_
      refine lv_iload_n hx hb dX10_queueOf_26 rfl (lv_at hl 3 rfl) ?_
      refine lv_iconst (v := (4 : Int32)) hx hb dX10_queueOf_27 (by decide) ?_
      obtain ⟨r10, hq9, hf⟩ := z_b hf
      refine z_ci hW (z_runV (As := [.int l3, .int (4 : Int32)]) (rest := [.int l2]) B hW zv_X10_80 (K_X10_ofMessage hq9) hg1 rfl rfl rfl (Nat.le_of_ble_eq_true rfl) hl.1 ⟨Nat.le_of_ble_eq_true rfl, Nat.le_of_ble_eq_true rfl⟩ dX10_queueOf_28 ⟨Nat.le_of_ble_eq_true rfl, Nat.le_of_ble_eq_true rfl⟩) (fun H locs hW => ?_)
      refine lv_iconst (v := (-1 : Int32)) hx hb dX10_queueOf_31 (by decide) ?_
      refine lv_icmp_ne (tgt := 39) hx hb dX10_queueOf_32 (by decide) (fun hc32 => ?_) (fun hc32 => ?_)
      · replace hf := z_in hc32 hf
        exact t_X10_queueOf_39 B hf hW (lv_sub hl [0, 1, 3] rfl) hk1 hr1
      · replace hf := z_ip hc32 hf
        refine lv_iconst (v := (1 : Int32)) hx hb dX10_queueOf_35 (by decide) ?_
        refine lv_goto (tgt := 40) hx hb dX10_queueOf_36 (by decide) ?_
        exact t_X10_queueOf_40 B hf hW (lv_sub hl [0, 1, 3] rfl) hk1 hr1
set_option maxRecDepth 20000 in
set_option maxHeartbeats 4000000 in
theorem t_X10_queueOf_4 (B : z_B p s m args meth c D cA bs RX10 cX10_queueOf 4 (some .int)) {r : Int32} {σ : zSt} {l0 : Nat} {l1 : Int32}  : ∀ (n : Nat) {l2 : Int32} {l3 : Int32}, zloop (fun (t : Int32 × Int32) => b_X10_queueOf_4 σ l0 l1 t.1 t.2) n (l2, l3) = some r → ∀ {H : Heap} {locs : List Loc} {ls : Array Slot}, z_Ok D cA bs s σ H locs → lv_has ls 4 [(0, .ref l0), (1, .int l1), (2, .int l2), (3, .int l3)] → W p l e (zrm 2 0 0 43) s m args below meth c H locs 0 0 (MQ below (z_Qi D cA bs r σ) args s 0 0 (fun q => bs ≤ q)) (F0 m 4 ls []) := by
  intro n
  induction n with
  | zero => intro l2 l3 hf; cases hf
  | succ n ih =>
    intro l2 l3 hf H locs ls hW hl
    obtain ⟨o1, hb1, hf⟩ := z_lp hf
    refine tb_X10_queueOf_4 B hb1 hW hl  (fun l2 l3 he H locs ls hW hl => ?_) (fun x he => ?_)
    · rcases hf with ⟨t, ht, hf⟩ | hf
      · rw [he] at ht
        cases ht
        exact ih hf hW hl
      · rw [he] at hf
        cases hf
    · rcases hf with ⟨t, ht, hf⟩ | hf
      · rw [he] at ht
        cases ht
      · rw [he] at hf
        exact Sum.inr.inj hf
set_option maxRecDepth 100000 in
def f_X10_queueOf (σ : zSt) (l0 : Nat) (l1 : Int32) : Option (Int32) :=
(f_X10_queueOf_4 σ l0 l1 (0 : Int32) (0 : Int32))
set_option maxRecDepth 20000 in
set_option maxHeartbeats 4000000 in
theorem K_X10_queueOf {σ : zSt} {l0 : Nat} {l1 : Int32} {r : Int32} (hf : f_X10_queueOf σ l0 l1 = some r) : z_M l D cA bs yX10_queueOf cX10_queueOf 4 (some .int) 2 43 0 0 [.ref l0, .int l1] σ (z_Qi D cA bs r σ) := by
  refine z_met (own := RX10) (lv := [(0, .ref l0), (1, .int l1)]) (by decide) rfl (Nat.le_of_ble_eq_true rfl) rfl (fun p e s m below meth c ls B hnm hW hl => ?_)
  have hx := B.1
  have hb := B.2.1
  have hown := B.2.2.2.1
  have hts := B.2.2.2.2.1
  unfold f_X10_queueOf at hf
  refine lv_iconst (v := (0 : Int32)) hx hb dX10_queueOf_0 (by decide) ?_
  refine lv_istore_n (lv' := [(2, .int (0 : Int32)), (0, .ref l0), (1, .int l1)]) hx hb dX10_queueOf_1 rfl hl (by decide) rfl (fun ls hl => ?_)
  refine lv_iconst (v := (0 : Int32)) hx hb dX10_queueOf_2 (by decide) ?_
  refine lv_istore_n (lv' := [(3, .int (0 : Int32)), (2, .int (0 : Int32)), (0, .ref l0), (1, .int l1)]) hx hb dX10_queueOf_3 rfl hl (by decide) rfl (fun ls hl => ?_)
  unfold f_X10_queueOf_4 at hf
  exact t_X10_queueOf_4 B  zN hf hW (lv_sub hl [2, 3, 1, 0] rfl)
set_option maxRecDepth 100000 in
def f_X10_stationOf_30 (σ : zSt) (s0 : Int32) : Option (Int32) :=
(some s0)
set_option maxRecDepth 20000 in
set_option maxHeartbeats 4000000 in
theorem t_X10_stationOf_30 (B : z_B p s m args meth c D cA bs RX10 cX10_stationOf 3 (some .int)) {r : Int32} {σ : zSt} {s0 : Int32} (hf : f_X10_stationOf_30 σ s0 = some r) {H : Heap} {locs : List Loc} {ls : Array Slot} (hW : z_Ok D cA bs s σ H locs) (hl : lv_has ls 3 [])  : W p l e (zrm 3 0 0 66) s m args below meth c H locs 0 0 (MQ below (z_Qi D cA bs r σ) args s 0 0 (fun q => bs ≤ q)) (F0 m 30 ls [.int s0]) := by
  have hx := B.1
  have hb := B.2.1
  have hown := B.2.2.2.1
  have hts := B.2.2.2.2.1
  unfold f_X10_stationOf_30 at hf
  obtain rfl := z_e1 hf
  exact z_ri B hW dX10_stationOf_30 (Nat.le_of_ble_eq_true rfl) (Nat.le_of_ble_eq_true rfl)
set_option maxRecDepth 100000 in
def f_X10_stationOf_27 (σ : zSt) (s0 : Int32) (s1 : Int32) (s2 : Option Nat) : Option (Int32) :=
(zc s2 none (fun a1 => (if z_ob σ a1 9 then (zb (f_X10_of σ a1 s1 s0) (fun r5 => (f_X10_stationOf_30 σ r5))) else none)))
set_option maxRecDepth 20000 in
set_option maxHeartbeats 4000000 in
theorem t_X10_stationOf_27 (B : z_B p s m args meth c D cA bs RX10 cX10_stationOf 3 (some .int)) {r : Int32} {σ : zSt} {s0 : Int32} {s1 : Int32} {s2 : Option Nat} (hf : f_X10_stationOf_27 σ s0 s1 s2 = some r) {H : Heap} {locs : List Loc} {ls : Array Slot} (hW : z_Ok D cA bs s σ H locs) (hl : lv_has ls 3 [])  : W p l e (zrm 3 0 0 66) s m args below meth c H locs 0 0 (MQ below (z_Qi D cA bs r σ) args s 0 0 (fun q => bs ≤ q)) (F0 m 27 ls [.int s0, .int s1, va_rf s2]) := by
  have hx := B.1
  have hb := B.2.1
  have hown := B.2.2.2.1
  have hts := B.2.2.2.2.1
  unfold f_X10_stationOf_27 at hf
  obtain ⟨a1, hn2, hf⟩ := z_nn hf
  subst hn2
  obtain ⟨hg3, hf⟩ := z_g hf
  obtain ⟨r5, hq4, hf⟩ := z_b hf
  refine z_ci hW (z_runV (As := [.int s1, .int s0]) (rest := []) B hW zv_X10_39 (K_X10_of hq4) hg3 rfl rfl rfl (Nat.le_of_ble_eq_true rfl) hl.1 ⟨Nat.le_of_ble_eq_true rfl, Nat.le_of_ble_eq_true rfl⟩ dX10_stationOf_27 ⟨Nat.le_of_ble_eq_true rfl, Nat.le_of_ble_eq_true rfl⟩) (fun H locs hW => ?_)
  exact t_X10_stationOf_30 B hf hW hl 
set_option maxRecDepth 100000 in
def f_X10_stationOf (σ : zSt) (l0 : Nat) (l1 : Int32) (l2 : Int32) : Option (Int32) :=
(if l2 = (4 : Int32) then
(if z_ob σ l0 9 then (zb (f_X10_queueOf σ l0 l1) (fun r3 => (f_X10_stationOf_30 σ r3))) else none)
else
(if (4 : Int32) ≤ l2 then
(f_X10_stationOf_27 σ l2 l1 (some l0))
else
(f_X10_stationOf_27 σ ((1 : Int32) + l2) l1 (some l0))))
set_option maxRecDepth 20000 in
set_option maxHeartbeats 4000000 in
theorem K_X10_stationOf {σ : zSt} {l0 : Nat} {l1 : Int32} {l2 : Int32} {r : Int32} (hf : f_X10_stationOf σ l0 l1 l2 = some r) : z_M l D cA bs yX10_stationOf cX10_stationOf 3 (some .int) 3 66 0 0 [.ref l0, .int l1, .int l2] σ (z_Qi D cA bs r σ) := by
  refine z_met (own := RX10) (lv := [(0, .ref l0), (1, .int l1), (2, .int l2)]) (by decide) rfl (Nat.le_of_ble_eq_true rfl) rfl (fun p e s m below meth c ls B hnm hW hl => ?_)
  have hx := B.1
  have hb := B.2.1
  have hown := B.2.2.2.1
  have hts := B.2.2.2.2.1
  unfold f_X10_stationOf at hf
  refine lv_iload_n hx hb dX10_stationOf_0 rfl (lv_at hl 2 rfl) ?_
  refine lv_iconst (v := (4 : Int32)) hx hb dX10_stationOf_1 (by decide) ?_
  refine lv_icmp_ne (tgt := 13) hx hb dX10_stationOf_2 (by decide) (fun hc2 => ?_) (fun hc2 => ?_)
  · replace hf := z_in hc2 hf
    refine lv_aload_n hx hb dX10_stationOf_13 rfl (lv_at hl 0 rfl) ?_
    refine lv_iload_n hx hb dX10_stationOf_14 rfl (lv_at hl 1 rfl) ?_
    refine lv_iload_n hx hb dX10_stationOf_15 rfl (lv_at hl 2 rfl) ?_
    refine lv_iconst (v := (4 : Int32)) hx hb dX10_stationOf_16 (by decide) ?_
    refine lv_icmp_ge (tgt := 26) hx hb dX10_stationOf_17 (by decide) (fun hc17 => ?_) (fun hc17 => ?_)
    · replace hf := z_ip hc17 hf
      refine lv_iload_n hx hb dX10_stationOf_26 rfl (lv_at hl 2 rfl) ?_
      exact t_X10_stationOf_27 B hf hW (lv_sub hl [] rfl) 
    · replace hf := z_in hc17 hf
      refine lv_iconst (v := (1 : Int32)) hx hb dX10_stationOf_20 (by decide) ?_
      refine lv_iload_n hx hb dX10_stationOf_21 rfl (lv_at hl 2 rfl) ?_
      refine lv_iadd hx hb dX10_stationOf_22 ?_
      refine lv_goto (tgt := 27) hx hb dX10_stationOf_23 (by decide) ?_
      exact t_X10_stationOf_27 B hf hW (lv_sub hl [] rfl) 
  · replace hf := z_ip hc2 hf
    refine lv_aload_n hx hb dX10_stationOf_5 rfl (lv_at hl 0 rfl) ?_
    refine lv_iload_n hx hb dX10_stationOf_6 rfl (lv_at hl 1 rfl) ?_
    obtain ⟨hg1, hf⟩ := z_g hf
    obtain ⟨r3, hq2, hf⟩ := z_b hf
    refine z_ci hW (z_runV (As := [.int l1]) (rest := []) B hW zv_X10_131 (K_X10_queueOf hq2) hg1 rfl rfl rfl (Nat.le_of_ble_eq_true rfl) hl.1 ⟨Nat.le_of_ble_eq_true rfl, Nat.le_of_ble_eq_true rfl⟩ dX10_stationOf_7 ⟨Nat.le_of_ble_eq_true rfl, Nat.le_of_ble_eq_true rfl⟩) (fun H locs hW => ?_)
    refine lv_goto (tgt := 30) hx hb dX10_stationOf_10 (by decide) ?_
    exact t_X10_stationOf_30 B hf hW (lv_sub hl [] rfl) 
set_option maxRecDepth 100000 in
def f_X10_station_32 (σ : zSt) (s0 : Int32) : Option (Int32 × zSt) :=
(some (s0, σ))
set_option maxRecDepth 20000 in
set_option maxHeartbeats 4000000 in
theorem t_X10_station_32 (B : z_B p s m args meth c D cA bs RX10 cX10_station 3 (some .int)) {r : Int32} {σ' : zSt} {σ : zSt} {s0 : Int32} (hf : f_X10_station_32 σ s0 = some (r, σ')) {H : Heap} {locs : List Loc} {ls : Array Slot} (hW : z_Ok D cA bs s σ H locs) (hl : lv_has ls 3 [])  : W p l e (zrm 4 0 0 88) s m args below meth c H locs 0 0 (MQ below (z_Qi D cA bs r σ') args s 0 0 (fun q => bs ≤ q)) (F0 m 32 ls [.int s0]) := by
  have hx := B.1
  have hb := B.2.1
  have hown := B.2.2.2.1
  have hts := B.2.2.2.2.1
  unfold f_X10_station_32 at hf
  obtain ⟨rfl, rfl⟩ := z_e2 hf
  exact z_ri B hW dX10_station_32 (Nat.le_of_ble_eq_true rfl) (Nat.le_of_ble_eq_true rfl)
set_option maxRecDepth 100000 in
def f_X10_station (σ : zSt) (l0 : Nat) (l1 : Int32) (l2 : Int32) : Option (Int32 × zSt) :=
(if z_ob σ l0 9 then (zb (f_X10_isStation σ l0 l1) (fun r3 => (zb (f_X10_in σ l2.toInt64 (0 : Int64) (6 : Int64)) (fun r5 => (zb2 (f_X10_goes σ l0 r3 r5 (1 : Int32)) (fun r7 σ8 => (if r7 = 0 then
(f_X10_station_32 σ8 (0 : Int32))
else
(if z_ob σ8 l0 9 then (zb (f_X10_stationOf σ8 l0 l1 l2) (fun r11 => (f_X10_station_32 σ8 r11))) else none)))))))) else none)
set_option maxRecDepth 20000 in
set_option maxHeartbeats 4000000 in
theorem K_X10_station {σ : zSt} {l0 : Nat} {l1 : Int32} {l2 : Int32} {r : Int32} {σ' : zSt} (hf : f_X10_station σ l0 l1 l2 = some (r, σ')) : z_M l D cA bs yX10_station cX10_station 3 (some .int) 4 88 0 0 [.ref l0, .int l1, .int l2] σ (z_Qi D cA bs r σ') := by
  refine z_met (own := RX10) (lv := [(0, .ref l0), (1, .int l1), (2, .int l2)]) (by decide) rfl (Nat.le_of_ble_eq_true rfl) rfl (fun p e s m below meth c ls B hnm hW hl => ?_)
  have hx := B.1
  have hb := B.2.1
  have hown := B.2.2.2.1
  have hts := B.2.2.2.2.1
  unfold f_X10_station at hf
  refine lv_aload_n hx hb dX10_station_0 rfl (lv_at hl 0 rfl) ?_
  refine lv_aload_n hx hb dX10_station_1 rfl (lv_at hl 0 rfl) ?_
  refine lv_iload_n hx hb dX10_station_2 rfl (lv_at hl 1 rfl) ?_
  obtain ⟨hg1, hf⟩ := z_g hf
  obtain ⟨r3, hq2, hf⟩ := z_b hf
  refine z_ci hW (z_runV (As := [.int l1]) (rest := [.ref l0]) B hW zv_X10_45 (K_X10_isStation hq2) hg1 rfl rfl rfl (Nat.le_of_ble_eq_true rfl) hl.1 ⟨Nat.le_of_ble_eq_true rfl, Nat.le_of_ble_eq_true rfl⟩ dX10_station_3 ⟨Nat.le_of_ble_eq_true rfl, Nat.le_of_ble_eq_true rfl⟩) (fun H locs hW => ?_)
  refine lv_iload_n hx hb dX10_station_6 rfl (lv_at hl 2 rfl) ?_
  refine lv_i2l (v := l2.toInt64) hx hb dX10_station_7 rfl ?_
  refine lv_lconst (v := (0 : Int64)) hx hb dX10_station_8 (by decide) ?_
  refine lv_ldc2 hx hb hown (hts _ zk_X10_134) dX10_station_9 ?_
  obtain ⟨r5, hq4, hf⟩ := z_b hf
  refine z_ci hW (z_runS (As := [.long l2.toInt64, .long (0 : Int64), .long (6 : Int64)]) (rest := [.int r3, .ref l0]) B hW zv_X10_35 (K_X10_in hq4) rfl rfl (Nat.le_of_ble_eq_true rfl) hl.1 ⟨Nat.le_of_ble_eq_true rfl, Nat.le_of_ble_eq_true rfl⟩ dX10_station_12 ⟨Nat.le_of_ble_eq_true rfl, Nat.le_of_ble_eq_true rfl⟩) (fun H locs hW => ?_)
  refine lv_iconst (v := (1 : Int32)) hx hb dX10_station_15 (by decide) ?_
  obtain ⟨r7, σ8, hq6, hf⟩ := z_b2 hf
  refine z_ci hW (z_runV (As := [.int r3, .int r5, .int (1 : Int32)]) (rest := []) B hW zv_X10_53 (K_X10_goes hq6) hg1 rfl rfl rfl (Nat.le_of_ble_eq_true rfl) hl.1 ⟨Nat.le_of_ble_eq_true rfl, Nat.le_of_ble_eq_true rfl⟩ dX10_station_16 ⟨Nat.le_of_ble_eq_true rfl, Nat.le_of_ble_eq_true rfl⟩) (fun H locs hW => ?_)
  refine lv_if_eq (tgt := 31) hx hb dX10_station_19 (by decide) (fun hc19 => ?_) (fun hc19 => ?_)
  · replace hf := z_ip hc19 hf
    refine lv_iconst (v := (0 : Int32)) hx hb dX10_station_31 (by decide) ?_
    exact t_X10_station_32 B hf hW (lv_sub hl [] rfl) 
  · replace hf := z_in hc19 hf
    refine lv_aload_n hx hb dX10_station_22 rfl (lv_at hl 0 rfl) ?_
    refine lv_iload_n hx hb dX10_station_23 rfl (lv_at hl 1 rfl) ?_
    refine lv_iload_n hx hb dX10_station_24 rfl (lv_at hl 2 rfl) ?_
    obtain ⟨hg9, hf⟩ := z_g hf
    obtain ⟨r11, hq10, hf⟩ := z_b hf
    refine z_ci hW (z_runV (As := [.int l1, .int l2]) (rest := []) B hW zv_X10_136 (K_X10_stationOf hq10) hg9 rfl rfl rfl (Nat.le_of_ble_eq_true rfl) hl.1 ⟨Nat.le_of_ble_eq_true rfl, Nat.le_of_ble_eq_true rfl⟩ dX10_station_25 ⟨Nat.le_of_ble_eq_true rfl, Nat.le_of_ble_eq_true rfl⟩) (fun H locs hW => ?_)
    refine lv_goto (tgt := 32) hx hb dX10_station_28 (by decide) ?_
    exact t_X10_station_32 B hf hW (lv_sub hl [] rfl) 
set_option maxRecDepth 100000 in
def f_X10_addressAt_41 (σ : zSt) (l0 : Nat) (l2 : Int32) (l3 : Int32) : Option ((Int32 × Int32) ⊕ (Int32 × zSt)) :=
(if z_ob σ l0 9 then (zb (f_X10_of σ l0 l2 (0 : Int32)) (fun r3 => (zl (l3 - r3) (fun x4 => (some (.inl ((l2 + (1 : Int32)), x4))))))) else none)
set_option maxRecDepth 20000 in
set_option maxHeartbeats 4000000 in
theorem t_X10_addressAt_41 (B : z_B p s m args meth c D cA bs RX10 cX10_addressAt 4 (some .int)) {r : Int32} {σ' : zSt} {o1 : (Int32 × Int32) ⊕ (Int32 × zSt)} {σ : zSt} {l0 : Nat} {l2 : Int32} {l3 : Int32} (hf : f_X10_addressAt_41 σ l0 l2 l3 = some o1) {H : Heap} {locs : List Loc} {ls : Array Slot} (hW : z_Ok D cA bs s σ H locs) (hl : lv_has ls 4 [(0, .ref l0), (2, .int l2), (3, .int l3)]) (hk1 : ∀ (l2 : Int32) (l3 : Int32), o1 = .inl (l2, l3) → ∀ {H : Heap} {locs : List Loc} {ls : Array Slot}, z_Ok D cA bs s σ H locs → lv_has ls 4 [(0, .ref l0), (2, .int l2), (3, .int l3)] → W p l e (zrm 3 0 0 65) s m args below meth c H locs 0 0 (MQ below (z_Qi D cA bs r σ') args s 0 0 (fun q => bs ≤ q)) (F0 m 28 ls [])) (hr1 : ∀ x, o1 = .inr x → x = (r, σ')) : W p l e (zrm 3 0 0 65) s m args below meth c H locs 0 0 (MQ below (z_Qi D cA bs r σ') args s 0 0 (fun q => bs ≤ q)) (F0 m 41 ls []) := by
  have hx := B.1
  have hb := B.2.1
  have hown := B.2.2.2.1
  have hts := B.2.2.2.2.1
  unfold f_X10_addressAt_41 at hf
  refine lv_iload_n hx hb dX10_addressAt_41 rfl (lv_at hl 2 rfl) ?_
  refine lv_aload_n hx hb dX10_addressAt_42 rfl (lv_at hl 0 rfl) ?_
  refine lv_iload_n hx hb dX10_addressAt_43 rfl (lv_at hl 1 rfl) ?_
  refine lv_iconst (v := (0 : Int32)) hx hb dX10_addressAt_44 (by decide) ?_
  obtain ⟨hg1, hf⟩ := z_g hf
  obtain ⟨r3, hq2, hf⟩ := z_b hf
  refine z_ci hW (z_runV (As := [.int l2, .int (0 : Int32)]) (rest := [.int l3]) B hW zv_X10_39 (K_X10_of hq2) hg1 rfl rfl rfl (Nat.le_of_ble_eq_true rfl) hl.1 ⟨Nat.le_of_ble_eq_true rfl, Nat.le_of_ble_eq_true rfl⟩ dX10_addressAt_45 ⟨Nat.le_of_ble_eq_true rfl, Nat.le_of_ble_eq_true rfl⟩) (fun H locs hW => ?_)
  refine lv_isub hx hb dX10_addressAt_48 ?_
  obtain ⟨x4, hx5, hf⟩ := z_l hf
  rw [hx5]
  refine lv_istore_n (lv' := [(3, .int x4), (0, .ref l0), (2, .int l2)]) hx hb dX10_addressAt_49 rfl hl (by decide) rfl (fun ls hl => ?_)
  refine lv_iinc (v := (l2 + (1 : Int32))) (lv' := [(2, .int (l2 + (1 : Int32))), (3, .int x4), (0, .ref l0)]) hx hb dX10_addressAt_50 hl (k := 2) rfl rfl (by decide) rfl (fun ls hl => ?_)
  refine lv_goto (tgt := 28) hx hb dX10_addressAt_53 (by decide) ?_
  exact hk1 _ _ (Option.some.inj hf).symm hW (lv_sub hl [2, 0, 1] rfl)
set_option maxRecDepth 100000 in
def b_X10_addressAt_28 (σ : zSt) (l0 : Nat) (l2 : Int32) (l3 : Int32) : Option ((Int32 × Int32) ⊕ (Int32 × zSt)) :=
(if 0 < l3 then
(f_X10_addressAt_41 σ l0 l2 l3)
else
(if z_ob σ l0 9 then (zb (f_X10_of σ l0 l2 (0 : Int32)) (fun r3 => (if r3 = 0 then
(f_X10_addressAt_41 σ l0 l2 l3)
else
(zex (some (l2, σ)))))) else none))
set_option maxRecDepth 100000 in
def f_X10_addressAt_28 (σ : zSt) (l0 : Nat) (l2 : Int32) (l3 : Int32) : Option (Int32 × zSt) := zloop (fun (t : Int32 × Int32) => b_X10_addressAt_28 σ l0 t.1 t.2) zN (l2, l3)
set_option maxRecDepth 20000 in
set_option maxHeartbeats 4000000 in
theorem tb_X10_addressAt_28 (B : z_B p s m args meth c D cA bs RX10 cX10_addressAt 4 (some .int)) {r : Int32} {σ' : zSt} {o1 : (Int32 × Int32) ⊕ (Int32 × zSt)} {σ : zSt} {l0 : Nat} {l2 : Int32} {l3 : Int32} (hf : b_X10_addressAt_28 σ l0 l2 l3 = some o1) {H : Heap} {locs : List Loc} {ls : Array Slot} (hW : z_Ok D cA bs s σ H locs) (hl : lv_has ls 4 [(0, .ref l0), (2, .int l2), (3, .int l3)]) (hk1 : ∀ (l2 : Int32) (l3 : Int32), o1 = .inl (l2, l3) → ∀ {H : Heap} {locs : List Loc} {ls : Array Slot}, z_Ok D cA bs s σ H locs → lv_has ls 4 [(0, .ref l0), (2, .int l2), (3, .int l3)] → W p l e (zrm 3 0 0 65) s m args below meth c H locs 0 0 (MQ below (z_Qi D cA bs r σ') args s 0 0 (fun q => bs ≤ q)) (F0 m 28 ls [])) (hr1 : ∀ x, o1 = .inr x → x = (r, σ')) : W p l e (zrm 3 0 0 65) s m args below meth c H locs 0 0 (MQ below (z_Qi D cA bs r σ') args s 0 0 (fun q => bs ≤ q)) (F0 m 28 ls []) := by
  have hx := B.1
  have hb := B.2.1
  have hown := B.2.2.2.1
  have hts := B.2.2.2.2.1
  unfold b_X10_addressAt_28 at hf
  refine lv_iload_n hx hb dX10_addressAt_28 rfl (lv_at hl 2 rfl) ?_
  refine lv_if_gt (tgt := 41) hx hb dX10_addressAt_29 (by decide) (fun hc29 => ?_) (fun hc29 => ?_)
  · replace hf := z_ip hc29 hf
    exact t_X10_addressAt_41 B hf hW hl hk1 hr1
  · replace hf := z_in hc29 hf
    refine lv_aload_n hx hb dX10_addressAt_32 rfl (lv_at hl 0 rfl) ?_
    refine lv_iload_n hx hb dX10_addressAt_33 rfl (lv_at hl 1 rfl) ?_
    refine lv_iconst (v := (0 : Int32)) hx hb dX10_addressAt_34 (by decide) ?_
    obtain ⟨hg1, hf⟩ := z_g hf
    obtain ⟨r3, hq2, hf⟩ := z_b hf
    refine z_ci hW (z_runV (As := [.int l2, .int (0 : Int32)]) (rest := []) B hW zv_X10_39 (K_X10_of hq2) hg1 rfl rfl rfl (Nat.le_of_ble_eq_true rfl) hl.1 ⟨Nat.le_of_ble_eq_true rfl, Nat.le_of_ble_eq_true rfl⟩ dX10_addressAt_35 ⟨Nat.le_of_ble_eq_true rfl, Nat.le_of_ble_eq_true rfl⟩) (fun H locs hW => ?_)
    refine lv_if_ne (tgt := 56) hx hb dX10_addressAt_38 (by decide) (fun hc38 => ?_) (fun hc38 => ?_)
    · replace hf := z_in hc38 hf
      obtain ⟨w1, hf, ho4⟩ := z_x hf
      obtain rfl := hr1 _ ho4
      refine lv_iload_n hx hb dX10_addressAt_56 rfl (lv_at hl 1 rfl) ?_
      obtain ⟨rfl, rfl⟩ := z_e2 hf
      exact z_ri B hW dX10_addressAt_57 (Nat.le_of_ble_eq_true rfl) (Nat.le_of_ble_eq_true rfl)
    · replace hf := z_ip hc38 hf
      exact t_X10_addressAt_41 B hf hW hl hk1 hr1
set_option maxRecDepth 20000 in
set_option maxHeartbeats 4000000 in
theorem t_X10_addressAt_28 (B : z_B p s m args meth c D cA bs RX10 cX10_addressAt 4 (some .int)) {r : Int32} {σ' : zSt} {σ : zSt} {l0 : Nat}  : ∀ (n : Nat) {l2 : Int32} {l3 : Int32}, zloop (fun (t : Int32 × Int32) => b_X10_addressAt_28 σ l0 t.1 t.2) n (l2, l3) = some (r, σ') → ∀ {H : Heap} {locs : List Loc} {ls : Array Slot}, z_Ok D cA bs s σ H locs → lv_has ls 4 [(0, .ref l0), (2, .int l2), (3, .int l3)] → W p l e (zrm 3 0 0 65) s m args below meth c H locs 0 0 (MQ below (z_Qi D cA bs r σ') args s 0 0 (fun q => bs ≤ q)) (F0 m 28 ls []) := by
  intro n
  induction n with
  | zero => intro l2 l3 hf; cases hf
  | succ n ih =>
    intro l2 l3 hf H locs ls hW hl
    obtain ⟨o1, hb1, hf⟩ := z_lp hf
    refine tb_X10_addressAt_28 B hb1 hW hl  (fun l2 l3 he H locs ls hW hl => ?_) (fun x he => ?_)
    · rcases hf with ⟨t, ht, hf⟩ | hf
      · rw [he] at ht
        cases ht
        exact ih hf hW hl
      · rw [he] at hf
        cases hf
    · rcases hf with ⟨t, ht, hf⟩ | hf
      · rw [he] at ht
        cases ht
      · rw [he] at hf
        exact Sum.inr.inj hf
set_option maxRecDepth 100000 in
def f_X10_addressAt (σ : zSt) (l0 : Nat) (l1 : Int32) : Option (Int32 × zSt) :=
(if z_ob σ l0 9 then (zb (f_X10_stations σ l0) (fun r3 => (zb (f_X10_in σ l1.toInt64 (0 : Int64) (r3.toInt64 - (1 : Int64))) (fun r5 => (zb2 (f_X10_goes σ l0 r5 (1 : Int32) (1 : Int32)) (fun r7 σ8 => (if r7 = 0 then
(some ((0 : Int32), σ8))
else
(f_X10_addressAt_28 σ8 l0 (0 : Int32) l1)))))))) else none)
set_option maxRecDepth 20000 in
set_option maxHeartbeats 4000000 in
theorem K_X10_addressAt {σ : zSt} {l0 : Nat} {l1 : Int32} {r : Int32} {σ' : zSt} (hf : f_X10_addressAt σ l0 l1 = some (r, σ')) : z_M l D cA bs yX10_addressAt cX10_addressAt 4 (some .int) 3 65 0 0 [.ref l0, .int l1] σ (z_Qi D cA bs r σ') := by
  refine z_met (own := RX10) (lv := [(0, .ref l0), (1, .int l1)]) (by decide) rfl (Nat.le_of_ble_eq_true rfl) rfl (fun p e s m below meth c ls B hnm hW hl => ?_)
  have hx := B.1
  have hb := B.2.1
  have hown := B.2.2.2.1
  have hts := B.2.2.2.2.1
  unfold f_X10_addressAt at hf
  refine lv_aload_n hx hb dX10_addressAt_0 rfl (lv_at hl 0 rfl) ?_
  refine lv_iload_n hx hb dX10_addressAt_1 rfl (lv_at hl 1 rfl) ?_
  refine lv_i2l (v := l1.toInt64) hx hb dX10_addressAt_2 rfl ?_
  refine lv_lconst (v := (0 : Int64)) hx hb dX10_addressAt_3 (by decide) ?_
  refine lv_aload_n hx hb dX10_addressAt_4 rfl (lv_at hl 0 rfl) ?_
  obtain ⟨hg1, hf⟩ := z_g hf
  obtain ⟨r3, hq2, hf⟩ := z_b hf
  refine z_ci hW (z_runV (As := []) (rest := [.long (0 : Int64), .long l1.toInt64, .ref l0]) B hW zv_X10_49 (K_X10_stations hq2) hg1 rfl rfl rfl (Nat.le_of_ble_eq_true rfl) hl.1 ⟨Nat.le_of_ble_eq_true rfl, Nat.le_of_ble_eq_true rfl⟩ dX10_addressAt_5 ⟨Nat.le_of_ble_eq_true rfl, Nat.le_of_ble_eq_true rfl⟩) (fun H locs hW => ?_)
  refine lv_i2l (v := r3.toInt64) hx hb dX10_addressAt_8 rfl ?_
  refine lv_lconst (v := (1 : Int64)) hx hb dX10_addressAt_9 (by decide) ?_
  refine lv_lsub hx hb dX10_addressAt_10 ?_
  obtain ⟨r5, hq4, hf⟩ := z_b hf
  refine z_ci hW (z_runS (As := [.long l1.toInt64, .long (0 : Int64), .long (r3.toInt64 - (1 : Int64))]) (rest := [.ref l0]) B hW zv_X10_35 (K_X10_in hq4) rfl rfl (Nat.le_of_ble_eq_true rfl) hl.1 ⟨Nat.le_of_ble_eq_true rfl, Nat.le_of_ble_eq_true rfl⟩ dX10_addressAt_11 ⟨Nat.le_of_ble_eq_true rfl, Nat.le_of_ble_eq_true rfl⟩) (fun H locs hW => ?_)
  refine lv_iconst (v := (1 : Int32)) hx hb dX10_addressAt_14 (by decide) ?_
  refine lv_iconst (v := (1 : Int32)) hx hb dX10_addressAt_15 (by decide) ?_
  obtain ⟨r7, σ8, hq6, hf⟩ := z_b2 hf
  refine z_ci hW (z_runV (As := [.int r5, .int (1 : Int32), .int (1 : Int32)]) (rest := []) B hW zv_X10_53 (K_X10_goes hq6) hg1 rfl rfl rfl (Nat.le_of_ble_eq_true rfl) hl.1 ⟨Nat.le_of_ble_eq_true rfl, Nat.le_of_ble_eq_true rfl⟩ dX10_addressAt_16 ⟨Nat.le_of_ble_eq_true rfl, Nat.le_of_ble_eq_true rfl⟩) (fun H locs hW => ?_)
  refine lv_if_ne (tgt := 24) hx hb dX10_addressAt_19 (by decide) (fun hc19 => ?_) (fun hc19 => ?_)
  · replace hf := z_in hc19 hf
    refine lv_iconst (v := (0 : Int32)) hx hb dX10_addressAt_24 (by decide) ?_
    refine lv_istore_n (lv' := [(2, .int (0 : Int32)), (0, .ref l0), (1, .int l1)]) hx hb dX10_addressAt_25 rfl hl (by decide) rfl (fun ls hl => ?_)
    refine lv_iload_n hx hb dX10_addressAt_26 rfl (lv_at hl 2 rfl) ?_
    refine lv_istore_n (lv' := [(3, .int l1), (2, .int (0 : Int32)), (0, .ref l0), (1, .int l1)]) hx hb dX10_addressAt_27 rfl hl (by decide) rfl (fun ls hl => ?_)
    unfold f_X10_addressAt_28 at hf
    exact t_X10_addressAt_28 B  zN hf hW (lv_sub hl [2, 1, 0] rfl)
  · replace hf := z_ip hc19 hf
    refine lv_iconst (v := (0 : Int32)) hx hb dX10_addressAt_22 (by decide) ?_
    obtain ⟨rfl, rfl⟩ := z_e2 hf
    exact z_ri B hW dX10_addressAt_23 (Nat.le_of_ble_eq_true rfl) (Nat.le_of_ble_eq_true rfl)
set_option maxRecDepth 100000 in
def b_X10_queued_54 (σ : zSt) (l0 : Nat) (l1 : Int32) (l2 : Int32) (l4 : Int32) (l5 : Int32) : Option ((Int32 × Int32) ⊕ (Int32 × zSt)) :=
(if l2 ≤ l5 then
(zex (some (l4, σ)))
else
(if z_ob σ l0 9 then (zb (f_X10_nextOf σ l0 l1 l4) (fun r4 => (some (.inl (r4, (l5 + (1 : Int32))))))) else none))
set_option maxRecDepth 100000 in
def f_X10_queued_54 (σ : zSt) (l0 : Nat) (l1 : Int32) (l2 : Int32) (l4 : Int32) (l5 : Int32) : Option (Int32 × zSt) := zloop (fun (t : Int32 × Int32) => b_X10_queued_54 σ l0 l1 l2 t.1 t.2) zN (l4, l5)
set_option maxRecDepth 20000 in
set_option maxHeartbeats 4000000 in
theorem tb_X10_queued_54 (B : z_B p s m args meth c D cA bs RX10 cX10_queued 6 (some .int)) {r : Int32} {σ' : zSt} {o1 : (Int32 × Int32) ⊕ (Int32 × zSt)} {σ : zSt} {l0 : Nat} {l1 : Int32} {l2 : Int32} {l4 : Int32} {l5 : Int32} (hf : b_X10_queued_54 σ l0 l1 l2 l4 l5 = some o1) {H : Heap} {locs : List Loc} {ls : Array Slot} (hW : z_Ok D cA bs s σ H locs) (hl : lv_has ls 6 [(0, .ref l0), (1, .int l1), (2, .int l2), (4, .int l4), (5, .int l5)]) (hk1 : ∀ (l4 : Int32) (l5 : Int32), o1 = .inl (l4, l5) → ∀ {H : Heap} {locs : List Loc} {ls : Array Slot}, z_Ok D cA bs s σ H locs → lv_has ls 6 [(0, .ref l0), (1, .int l1), (2, .int l2), (4, .int l4), (5, .int l5)] → W p l e (zrm 3 0 0 69) s m args below meth c H locs 0 0 (MQ below (z_Qi D cA bs r σ') args s 0 0 (fun q => bs ≤ q)) (F0 m 54 ls [])) (hr1 : ∀ x, o1 = .inr x → x = (r, σ')) : W p l e (zrm 3 0 0 69) s m args below meth c H locs 0 0 (MQ below (z_Qi D cA bs r σ') args s 0 0 (fun q => bs ≤ q)) (F0 m 54 ls []) := by
  have hx := B.1
  have hb := B.2.1
  have hown := B.2.2.2.1
  have hts := B.2.2.2.2.1
  unfold b_X10_queued_54 at hf
  refine lv_iload hx hb dX10_queued_54 (lv_at hl 4 rfl) ?_
  refine lv_iload_n hx hb dX10_queued_56 rfl (lv_at hl 2 rfl) ?_
  refine lv_icmp_ge (tgt := 75) hx hb dX10_queued_57 (by decide) (fun hc57 => ?_) (fun hc57 => ?_)
  · replace hf := z_ip hc57 hf
    obtain ⟨w1, hf, ho1⟩ := z_x hf
    obtain rfl := hr1 _ ho1
    refine lv_iload hx hb dX10_queued_75 (lv_at hl 3 rfl) ?_
    obtain ⟨rfl, rfl⟩ := z_e2 hf
    exact z_ri B hW dX10_queued_77 (Nat.le_of_ble_eq_true rfl) (Nat.le_of_ble_eq_true rfl)
  · replace hf := z_in hc57 hf
    refine lv_aload_n hx hb dX10_queued_60 rfl (lv_at hl 0 rfl) ?_
    refine lv_iload_n hx hb dX10_queued_61 rfl (lv_at hl 1 rfl) ?_
    refine lv_iload hx hb dX10_queued_62 (lv_at hl 3 rfl) ?_
    obtain ⟨hg2, hf⟩ := z_g hf
    obtain ⟨r4, hq3, hf⟩ := z_b hf
    refine z_ci hW (z_runV (As := [.int l1, .int l4]) (rest := []) B hW zv_X10_86 (K_X10_nextOf hq3) hg2 rfl rfl rfl (Nat.le_of_ble_eq_true rfl) hl.1 ⟨Nat.le_of_ble_eq_true rfl, Nat.le_of_ble_eq_true rfl⟩ dX10_queued_64 ⟨Nat.le_of_ble_eq_true rfl, Nat.le_of_ble_eq_true rfl⟩) (fun H locs hW => ?_)
    refine lv_istore (lv' := [(4, .int r4), (0, .ref l0), (1, .int l1), (2, .int l2), (5, .int l5)]) hx hb dX10_queued_67 hl (by decide) rfl (fun ls hl => ?_)
    refine lv_iinc (v := (l5 + (1 : Int32))) (lv' := [(5, .int (l5 + (1 : Int32))), (4, .int r4), (0, .ref l0), (1, .int l1), (2, .int l2)]) hx hb dX10_queued_69 hl (k := 4) rfl rfl (by decide) rfl (fun ls hl => ?_)
    refine lv_goto (tgt := 54) hx hb dX10_queued_72 (by decide) ?_
    exact hk1 _ _ (Option.some.inj hf).symm hW (lv_sub hl [2, 3, 4, 1, 0] rfl)
set_option maxRecDepth 20000 in
set_option maxHeartbeats 4000000 in
theorem t_X10_queued_54 (B : z_B p s m args meth c D cA bs RX10 cX10_queued 6 (some .int)) {r : Int32} {σ' : zSt} {σ : zSt} {l0 : Nat} {l1 : Int32} {l2 : Int32}  : ∀ (n : Nat) {l4 : Int32} {l5 : Int32}, zloop (fun (t : Int32 × Int32) => b_X10_queued_54 σ l0 l1 l2 t.1 t.2) n (l4, l5) = some (r, σ') → ∀ {H : Heap} {locs : List Loc} {ls : Array Slot}, z_Ok D cA bs s σ H locs → lv_has ls 6 [(0, .ref l0), (1, .int l1), (2, .int l2), (4, .int l4), (5, .int l5)] → W p l e (zrm 3 0 0 69) s m args below meth c H locs 0 0 (MQ below (z_Qi D cA bs r σ') args s 0 0 (fun q => bs ≤ q)) (F0 m 54 ls []) := by
  intro n
  induction n with
  | zero => intro l4 l5 hf; cases hf
  | succ n ih =>
    intro l4 l5 hf H locs ls hW hl
    obtain ⟨o1, hb1, hf⟩ := z_lp hf
    refine tb_X10_queued_54 B hb1 hW hl  (fun l4 l5 he H locs ls hW hl => ?_) (fun x he => ?_)
    · rcases hf with ⟨t, ht, hf⟩ | hf
      · rw [he] at ht
        cases ht
        exact ih hf hW hl
      · rw [he] at hf
        cases hf
    · rcases hf with ⟨t, ht, hf⟩ | hf
      · rw [he] at ht
        cases ht
      · rw [he] at hf
        exact Sum.inr.inj hf
set_option maxRecDepth 100000 in
def f_X10_queued_34 (σ : zSt) (l0 : Nat) (l1 : Int32) (l2 : Int32) (s0 : Int32) (s1 : Int32) (s2 : Option Nat) : Option (Int32 × zSt) :=
(zc s2 none (fun a1 => (if z_ob σ a1 9 then (zb2 (f_X10_goes σ a1 s1 s0 (1 : Int32)) (fun r5 σ6 => (if r5 = 0 then
(some ((0 : Int32), σ6))
else
(if z_ob σ6 l0 9 then (zb (f_X10_nextOf σ6 l0 l1 (-1 : Int32)) (fun r9 => (f_X10_queued_54 σ6 l0 l1 l2 r9 (0 : Int32)))) else none)))) else none)))
set_option maxRecDepth 20000 in
set_option maxHeartbeats 4000000 in
theorem t_X10_queued_34 (B : z_B p s m args meth c D cA bs RX10 cX10_queued 6 (some .int)) {r : Int32} {σ' : zSt} {σ : zSt} {l0 : Nat} {l1 : Int32} {l2 : Int32} {s0 : Int32} {s1 : Int32} {s2 : Option Nat} (hf : f_X10_queued_34 σ l0 l1 l2 s0 s1 s2 = some (r, σ')) {H : Heap} {locs : List Loc} {ls : Array Slot} (hW : z_Ok D cA bs s σ H locs) (hl : lv_has ls 6 [(0, .ref l0), (1, .int l1), (2, .int l2)])  : W p l e (zrm 3 0 0 69) s m args below meth c H locs 0 0 (MQ below (z_Qi D cA bs r σ') args s 0 0 (fun q => bs ≤ q)) (F0 m 34 ls [.int s0, .int s1, va_rf s2]) := by
  have hx := B.1
  have hb := B.2.1
  have hown := B.2.2.2.1
  have hts := B.2.2.2.2.1
  unfold f_X10_queued_34 at hf
  refine lv_iconst (v := (1 : Int32)) hx hb dX10_queued_34 (by decide) ?_
  obtain ⟨a1, hn2, hf⟩ := z_nn hf
  subst hn2
  obtain ⟨hg3, hf⟩ := z_g hf
  obtain ⟨r5, σ6, hq4, hf⟩ := z_b2 hf
  refine z_ci hW (z_runV (As := [.int s1, .int s0, .int (1 : Int32)]) (rest := []) B hW zv_X10_53 (K_X10_goes hq4) hg3 rfl rfl rfl (Nat.le_of_ble_eq_true rfl) hl.1 ⟨Nat.le_of_ble_eq_true rfl, Nat.le_of_ble_eq_true rfl⟩ dX10_queued_35 ⟨Nat.le_of_ble_eq_true rfl, Nat.le_of_ble_eq_true rfl⟩) (fun H locs hW => ?_)
  refine lv_if_ne (tgt := 43) hx hb dX10_queued_38 (by decide) (fun hc38 => ?_) (fun hc38 => ?_)
  · replace hf := z_in hc38 hf
    refine lv_aload_n hx hb dX10_queued_43 rfl (lv_at hl 0 rfl) ?_
    refine lv_iload_n hx hb dX10_queued_44 rfl (lv_at hl 1 rfl) ?_
    refine lv_iconst (v := (-1 : Int32)) hx hb dX10_queued_45 (by decide) ?_
    obtain ⟨hg7, hf⟩ := z_g hf
    obtain ⟨r9, hq8, hf⟩ := z_b hf
    refine z_ci hW (z_runV (As := [.int l1, .int (-1 : Int32)]) (rest := []) B hW zv_X10_86 (K_X10_nextOf hq8) hg7 rfl rfl rfl (Nat.le_of_ble_eq_true rfl) hl.1 ⟨Nat.le_of_ble_eq_true rfl, Nat.le_of_ble_eq_true rfl⟩ dX10_queued_46 ⟨Nat.le_of_ble_eq_true rfl, Nat.le_of_ble_eq_true rfl⟩) (fun H locs hW => ?_)
    refine lv_istore (lv' := [(4, .int r9), (0, .ref l0), (1, .int l1), (2, .int l2)]) hx hb dX10_queued_49 hl (by decide) rfl (fun ls hl => ?_)
    refine lv_iconst (v := (0 : Int32)) hx hb dX10_queued_51 (by decide) ?_
    refine lv_istore (lv' := [(5, .int (0 : Int32)), (4, .int r9), (0, .ref l0), (1, .int l1), (2, .int l2)]) hx hb dX10_queued_52 hl (by decide) rfl (fun ls hl => ?_)
    unfold f_X10_queued_54 at hf
    exact t_X10_queued_54 B  zN hf hW (lv_sub hl [2, 3, 4, 1, 0] rfl)
  · replace hf := z_ip hc38 hf
    refine lv_iconst (v := (0 : Int32)) hx hb dX10_queued_41 (by decide) ?_
    obtain ⟨rfl, rfl⟩ := z_e2 hf
    exact z_ri B hW dX10_queued_42 (Nat.le_of_ble_eq_true rfl) (Nat.le_of_ble_eq_true rfl)
set_option maxRecDepth 100000 in
def f_X10_queued_33 (σ : zSt) (l0 : Nat) (l1 : Int32) (l2 : Int32) (s0 : Int32) (s1 : Option Nat) : Option (Int32 × zSt) :=
(f_X10_queued_34 σ l0 l1 l2 (0 : Int32) s0 s1)
set_option maxRecDepth 20000 in
set_option maxHeartbeats 4000000 in
theorem t_X10_queued_33 (B : z_B p s m args meth c D cA bs RX10 cX10_queued 6 (some .int)) {r : Int32} {σ' : zSt} {σ : zSt} {l0 : Nat} {l1 : Int32} {l2 : Int32} {s0 : Int32} {s1 : Option Nat} (hf : f_X10_queued_33 σ l0 l1 l2 s0 s1 = some (r, σ')) {H : Heap} {locs : List Loc} {ls : Array Slot} (hW : z_Ok D cA bs s σ H locs) (hl : lv_has ls 6 [(0, .ref l0), (1, .int l1), (2, .int l2)])  : W p l e (zrm 3 0 0 69) s m args below meth c H locs 0 0 (MQ below (z_Qi D cA bs r σ') args s 0 0 (fun q => bs ≤ q)) (F0 m 33 ls [.int s0, va_rf s1]) := by
  have hx := B.1
  have hb := B.2.1
  have hown := B.2.2.2.1
  have hts := B.2.2.2.2.1
  unfold f_X10_queued_33 at hf
  refine lv_iconst (v := (0 : Int32)) hx hb dX10_queued_33 (by decide) ?_
  exact t_X10_queued_34 B hf hW hl 
set_option maxRecDepth 100000 in
def f_X10_queued (σ : zSt) (l0 : Nat) (l1 : Int32) (l2 : Int32) : Option (Int32 × zSt) :=
(if z_ob σ l0 9 then (zb (f_X10_isStation σ l0 l1) (fun r3 => (if r3 = 0 then
(f_X10_queued_33 σ l0 l1 l2 r3 (some l0))
else
(zb (f_X10_queueOf σ l0 l1) (fun r5 => (zb (f_X10_in σ l2.toInt64 (0 : Int64) (r5.toInt64 - (1 : Int64))) (fun r7 => (if r7 = 0 then
(f_X10_queued_33 σ l0 l1 l2 r3 (some l0))
else
(f_X10_queued_34 σ l0 l1 l2 (1 : Int32) r3 (some l0)))))))))) else none)
set_option maxRecDepth 20000 in
set_option maxHeartbeats 4000000 in
theorem K_X10_queued {σ : zSt} {l0 : Nat} {l1 : Int32} {l2 : Int32} {r : Int32} {σ' : zSt} (hf : f_X10_queued σ l0 l1 l2 = some (r, σ')) : z_M l D cA bs yX10_queued cX10_queued 6 (some .int) 3 69 0 0 [.ref l0, .int l1, .int l2] σ (z_Qi D cA bs r σ') := by
  refine z_met (own := RX10) (lv := [(0, .ref l0), (1, .int l1), (2, .int l2)]) (by decide) rfl (Nat.le_of_ble_eq_true rfl) rfl (fun p e s m below meth c ls B hnm hW hl => ?_)
  have hx := B.1
  have hb := B.2.1
  have hown := B.2.2.2.1
  have hts := B.2.2.2.2.1
  unfold f_X10_queued at hf
  refine lv_aload_n hx hb dX10_queued_0 rfl (lv_at hl 0 rfl) ?_
  refine lv_iload_n hx hb dX10_queued_1 rfl (lv_at hl 1 rfl) ?_
  obtain ⟨hg1, hf⟩ := z_g hf
  obtain ⟨r3, hq2, hf⟩ := z_b hf
  refine z_ci hW (z_runV (As := [.int l1]) (rest := []) B hW zv_X10_45 (K_X10_isStation hq2) hg1 rfl rfl rfl (Nat.le_of_ble_eq_true rfl) hl.1 ⟨Nat.le_of_ble_eq_true rfl, Nat.le_of_ble_eq_true rfl⟩ dX10_queued_2 ⟨Nat.le_of_ble_eq_true rfl, Nat.le_of_ble_eq_true rfl⟩) (fun H locs hW => ?_)
  refine lv_istore_n (lv' := [(3, .int r3), (0, .ref l0), (1, .int l1), (2, .int l2)]) hx hb dX10_queued_5 rfl hl (by decide) rfl (fun ls hl => ?_)
  refine lv_aload_n hx hb dX10_queued_6 rfl (lv_at hl 1 rfl) ?_
  refine lv_iload_n hx hb dX10_queued_7 rfl (lv_at hl 0 rfl) ?_
  refine lv_iload_n hx hb dX10_queued_8 rfl (lv_at hl 0 rfl) ?_
  refine lv_if_eq (tgt := 33) hx hb dX10_queued_9 (by decide) (fun hc9 => ?_) (fun hc9 => ?_)
  · replace hf := z_ip hc9 hf
    exact t_X10_queued_33 B hf hW (lv_sub hl [1, 2, 3] rfl) 
  · replace hf := z_in hc9 hf
    refine lv_iload_n hx hb dX10_queued_12 rfl (lv_at hl 3 rfl) ?_
    refine lv_i2l (v := l2.toInt64) hx hb dX10_queued_13 rfl ?_
    refine lv_lconst (v := (0 : Int64)) hx hb dX10_queued_14 (by decide) ?_
    refine lv_aload_n hx hb dX10_queued_15 rfl (lv_at hl 1 rfl) ?_
    refine lv_iload_n hx hb dX10_queued_16 rfl (lv_at hl 2 rfl) ?_
    obtain ⟨r5, hq4, hf⟩ := z_b hf
    refine z_ci hW (z_runV (As := [.int l1]) (rest := [.long (0 : Int64), .long l2.toInt64, .int r3, .ref l0]) B hW zv_X10_131 (K_X10_queueOf hq4) hg1 rfl rfl rfl (Nat.le_of_ble_eq_true rfl) hl.1 ⟨Nat.le_of_ble_eq_true rfl, Nat.le_of_ble_eq_true rfl⟩ dX10_queued_17 ⟨Nat.le_of_ble_eq_true rfl, Nat.le_of_ble_eq_true rfl⟩) (fun H locs hW => ?_)
    refine lv_i2l (v := r5.toInt64) hx hb dX10_queued_20 rfl ?_
    refine lv_lconst (v := (1 : Int64)) hx hb dX10_queued_21 (by decide) ?_
    refine lv_lsub hx hb dX10_queued_22 ?_
    obtain ⟨r7, hq6, hf⟩ := z_b hf
    refine z_ci hW (z_runS (As := [.long l2.toInt64, .long (0 : Int64), .long (r5.toInt64 - (1 : Int64))]) (rest := [.int r3, .ref l0]) B hW zv_X10_35 (K_X10_in hq6) rfl rfl (Nat.le_of_ble_eq_true rfl) hl.1 ⟨Nat.le_of_ble_eq_true rfl, Nat.le_of_ble_eq_true rfl⟩ dX10_queued_23 ⟨Nat.le_of_ble_eq_true rfl, Nat.le_of_ble_eq_true rfl⟩) (fun H locs hW => ?_)
    refine lv_if_eq (tgt := 33) hx hb dX10_queued_26 (by decide) (fun hc26 => ?_) (fun hc26 => ?_)
    · replace hf := z_ip hc26 hf
      exact t_X10_queued_33 B hf hW (lv_sub hl [1, 2, 3] rfl) 
    · replace hf := z_in hc26 hf
      refine lv_iconst (v := (1 : Int32)) hx hb dX10_queued_29 (by decide) ?_
      refine lv_goto (tgt := 34) hx hb dX10_queued_30 (by decide) ?_
      exact t_X10_queued_34 B hf hW (lv_sub hl [1, 2, 3] rfl) 
set_option maxRecDepth 100000 in
def f_X10_message_42 (σ : zSt) (s0 : Int32) : Option (Int32 × zSt) :=
(some (s0, σ))
set_option maxRecDepth 20000 in
set_option maxHeartbeats 4000000 in
theorem t_X10_message_42 (B : z_B p s m args meth c D cA bs RX10 cX10_message 3 (some .int)) {r : Int32} {σ' : zSt} {σ : zSt} {s0 : Int32} (hf : f_X10_message_42 σ s0 = some (r, σ')) {H : Heap} {locs : List Loc} {ls : Array Slot} (hW : z_Ok D cA bs s σ H locs) (hl : lv_has ls 3 [])  : W p l e (zrm 2 0 0 43) s m args below meth c H locs 0 0 (MQ below (z_Qi D cA bs r σ') args s 0 0 (fun q => bs ≤ q)) (F0 m 42 ls [.int s0]) := by
  have hx := B.1
  have hb := B.2.1
  have hown := B.2.2.2.1
  have hts := B.2.2.2.2.1
  unfold f_X10_message_42 at hf
  obtain ⟨rfl, rfl⟩ := z_e2 hf
  exact z_ri B hW dX10_message_42 (Nat.le_of_ble_eq_true rfl) (Nat.le_of_ble_eq_true rfl)
set_option maxRecDepth 100000 in
def f_X10_message (σ : zSt) (l0 : Nat) (l1 : Int32) (l2 : Int32) : Option (Int32 × zSt) :=
(if z_ob σ l0 9 then (zc (z_R σ l0 0) none (fun q2 => (if z_ar σ q2 0 then (if z_ix (5 : Int32) (z_ln σ q2) then (zb (f_X10_in σ l1.toInt64 (0 : Int64) ((z_I σ q2 (5 : Int32).toNatClampNeg).toInt64 - (1 : Int64))) (fun r7 => (zb (f_X10_in σ l2.toInt64 (0 : Int64) (4 : Int64)) (fun r9 => (zb2 (f_X10_goes σ l0 r7 r9 (1 : Int32)) (fun r11 σ12 => (if r11 = 0 then
(f_X10_message_42 σ12 (0 : Int32))
else
(if z_ob σ12 l0 9 then (zb (f_X10_ofMessage σ12 l0 l1 l2) (fun r15 => (f_X10_message_42 σ12 r15))) else none)))))))) else none) else none))) else none)
set_option maxRecDepth 20000 in
set_option maxHeartbeats 4000000 in
theorem K_X10_message {σ : zSt} {l0 : Nat} {l1 : Int32} {l2 : Int32} {r : Int32} {σ' : zSt} (hf : f_X10_message σ l0 l1 l2 = some (r, σ')) : z_M l D cA bs yX10_message cX10_message 3 (some .int) 2 43 0 0 [.ref l0, .int l1, .int l2] σ (z_Qi D cA bs r σ') := by
  refine z_met (own := RX10) (lv := [(0, .ref l0), (1, .int l1), (2, .int l2)]) (by decide) rfl (Nat.le_of_ble_eq_true rfl) rfl (fun p e s m below meth c ls B hnm hW hl => ?_)
  have hx := B.1
  have hb := B.2.1
  have hown := B.2.2.2.1
  have hts := B.2.2.2.2.1
  unfold f_X10_message at hf
  refine lv_aload_n hx hb dX10_message_0 rfl (lv_at hl 0 rfl) ?_
  refine lv_iload_n hx hb dX10_message_1 rfl (lv_at hl 1 rfl) ?_
  refine lv_i2l (v := l1.toInt64) hx hb dX10_message_2 rfl ?_
  refine lv_lconst (v := (0 : Int64)) hx hb dX10_message_3 (by decide) ?_
  refine lv_aload_n hx hb dX10_message_4 rfl (lv_at hl 0 rfl) ?_
  obtain ⟨hg1, hf⟩ := z_g hf
  obtain ⟨q2, hv3, hf⟩ := z_nn hf
  refine z_getN B hW (Or.inr zf_X10_7) rfl hg1 hv3 dX10_message_5 ?_
  refine lv_iconst (v := (5 : Int32)) hx hb dX10_message_8 (by decide) ?_
  obtain ⟨hg4, hf⟩ := z_g hf
  obtain ⟨hg5, hf⟩ := z_g hf
  refine z_ald B hW hg4 hg5 dX10_message_9 ?_
  refine lv_i2l (v := (z_I σ q2 (5 : Int32).toNatClampNeg).toInt64) hx hb dX10_message_10 rfl ?_
  refine lv_lconst (v := (1 : Int64)) hx hb dX10_message_11 (by decide) ?_
  refine lv_lsub hx hb dX10_message_12 ?_
  obtain ⟨r7, hq6, hf⟩ := z_b hf
  refine z_ci hW (z_runS (As := [.long l1.toInt64, .long (0 : Int64), .long ((z_I σ q2 (5 : Int32).toNatClampNeg).toInt64 - (1 : Int64))]) (rest := [.ref l0]) B hW zv_X10_35 (K_X10_in hq6) rfl rfl (Nat.le_of_ble_eq_true rfl) hl.1 ⟨Nat.le_of_ble_eq_true rfl, Nat.le_of_ble_eq_true rfl⟩ dX10_message_13 ⟨Nat.le_of_ble_eq_true rfl, Nat.le_of_ble_eq_true rfl⟩) (fun H locs hW => ?_)
  refine lv_iload_n hx hb dX10_message_16 rfl (lv_at hl 2 rfl) ?_
  refine lv_i2l (v := l2.toInt64) hx hb dX10_message_17 rfl ?_
  refine lv_lconst (v := (0 : Int64)) hx hb dX10_message_18 (by decide) ?_
  refine lv_ldc2 hx hb hown (hts _ zk_X10_139) dX10_message_19 ?_
  obtain ⟨r9, hq8, hf⟩ := z_b hf
  refine z_ci hW (z_runS (As := [.long l2.toInt64, .long (0 : Int64), .long (4 : Int64)]) (rest := [.int r7, .ref l0]) B hW zv_X10_35 (K_X10_in hq8) rfl rfl (Nat.le_of_ble_eq_true rfl) hl.1 ⟨Nat.le_of_ble_eq_true rfl, Nat.le_of_ble_eq_true rfl⟩ dX10_message_22 ⟨Nat.le_of_ble_eq_true rfl, Nat.le_of_ble_eq_true rfl⟩) (fun H locs hW => ?_)
  refine lv_iconst (v := (1 : Int32)) hx hb dX10_message_25 (by decide) ?_
  obtain ⟨r11, σ12, hq10, hf⟩ := z_b2 hf
  refine z_ci hW (z_runV (As := [.int r7, .int r9, .int (1 : Int32)]) (rest := []) B hW zv_X10_53 (K_X10_goes hq10) hg1 rfl rfl rfl (Nat.le_of_ble_eq_true rfl) hl.1 ⟨Nat.le_of_ble_eq_true rfl, Nat.le_of_ble_eq_true rfl⟩ dX10_message_26 ⟨Nat.le_of_ble_eq_true rfl, Nat.le_of_ble_eq_true rfl⟩) (fun H locs hW => ?_)
  refine lv_if_eq (tgt := 41) hx hb dX10_message_29 (by decide) (fun hc29 => ?_) (fun hc29 => ?_)
  · replace hf := z_ip hc29 hf
    refine lv_iconst (v := (0 : Int32)) hx hb dX10_message_41 (by decide) ?_
    exact t_X10_message_42 B hf hW (lv_sub hl [] rfl) 
  · replace hf := z_in hc29 hf
    refine lv_aload_n hx hb dX10_message_32 rfl (lv_at hl 0 rfl) ?_
    refine lv_iload_n hx hb dX10_message_33 rfl (lv_at hl 1 rfl) ?_
    refine lv_iload_n hx hb dX10_message_34 rfl (lv_at hl 2 rfl) ?_
    obtain ⟨hg13, hf⟩ := z_g hf
    obtain ⟨r15, hq14, hf⟩ := z_b hf
    refine z_ci hW (z_runV (As := [.int l1, .int l2]) (rest := []) B hW zv_X10_80 (K_X10_ofMessage hq14) hg13 rfl rfl rfl (Nat.le_of_ble_eq_true rfl) hl.1 ⟨Nat.le_of_ble_eq_true rfl, Nat.le_of_ble_eq_true rfl⟩ dX10_message_35 ⟨Nat.le_of_ble_eq_true rfl, Nat.le_of_ble_eq_true rfl⟩) (fun H locs hW => ?_)
    refine lv_goto (tgt := 42) hx hb dX10_message_38 (by decide) ?_
    exact t_X10_message_42 B hf hW (lv_sub hl [] rfl) 
set_option maxRecDepth 100000 in
def f_X10_count_31 (σ : zSt) (s0 : Int32) : Option (Int32 × zSt) :=
(some (s0, σ))
set_option maxRecDepth 20000 in
set_option maxHeartbeats 4000000 in
theorem t_X10_count_31 (B : z_B p s m args meth c D cA bs RX10 cX10_count 2 (some .int)) {r : Int32} {σ' : zSt} {σ : zSt} {s0 : Int32} (hf : f_X10_count_31 σ s0 = some (r, σ')) {H : Heap} {locs : List Loc} {ls : Array Slot} (hW : z_Ok D cA bs s σ H locs) (hl : lv_has ls 2 [])  : W p l e (zrm 1 0 0 25) s m args below meth c H locs 0 0 (MQ below (z_Qi D cA bs r σ') args s 0 0 (fun q => bs ≤ q)) (F0 m 31 ls [.int s0]) := by
  have hx := B.1
  have hb := B.2.1
  have hown := B.2.2.2.1
  have hts := B.2.2.2.2.1
  unfold f_X10_count_31 at hf
  obtain ⟨rfl, rfl⟩ := z_e2 hf
  exact z_ri B hW dX10_count_31 (Nat.le_of_ble_eq_true rfl) (Nat.le_of_ble_eq_true rfl)
set_option maxRecDepth 100000 in
def f_X10_count (σ : zSt) (l0 : Nat) (l1 : Int32) : Option (Int32 × zSt) :=
(zb (f_X10_in σ l1.toInt64 (0 : Int64) (6 : Int64)) (fun r2 => (if z_ob σ l0 9 then (zb2 (f_X10_goes σ l0 r2 (1 : Int32) (1 : Int32)) (fun r5 σ6 => (if r5 = 0 then
(f_X10_count_31 σ6 (0 : Int32))
else
(if z_ob σ6 l0 9 then (zc (z_R σ6 l0 0) none (fun q8 => (if z_ar σ6 q8 0 then (if z_ix ((9 : Int32) + l1) (z_ln σ6 q8) then (f_X10_count_31 σ6 (z_I σ6 q8 ((9 : Int32) + l1).toNatClampNeg)) else none) else none))) else none)))) else none)))
set_option maxRecDepth 20000 in
set_option maxHeartbeats 4000000 in
theorem K_X10_count {σ : zSt} {l0 : Nat} {l1 : Int32} {r : Int32} {σ' : zSt} (hf : f_X10_count σ l0 l1 = some (r, σ')) : z_M l D cA bs yX10_count cX10_count 2 (some .int) 1 25 0 0 [.ref l0, .int l1] σ (z_Qi D cA bs r σ') := by
  refine z_met (own := RX10) (lv := [(0, .ref l0), (1, .int l1)]) (by decide) rfl (Nat.le_of_ble_eq_true rfl) rfl (fun p e s m below meth c ls B hnm hW hl => ?_)
  have hx := B.1
  have hb := B.2.1
  have hown := B.2.2.2.1
  have hts := B.2.2.2.2.1
  unfold f_X10_count at hf
  refine lv_aload_n hx hb dX10_count_0 rfl (lv_at hl 0 rfl) ?_
  refine lv_iload_n hx hb dX10_count_1 rfl (lv_at hl 1 rfl) ?_
  refine lv_i2l (v := l1.toInt64) hx hb dX10_count_2 rfl ?_
  refine lv_lconst (v := (0 : Int64)) hx hb dX10_count_3 (by decide) ?_
  refine lv_ldc2 hx hb hown (hts _ zk_X10_134) dX10_count_4 ?_
  obtain ⟨r2, hq1, hf⟩ := z_b hf
  refine z_ci hW (z_runS (As := [.long l1.toInt64, .long (0 : Int64), .long (6 : Int64)]) (rest := [.ref l0]) B hW zv_X10_35 (K_X10_in hq1) rfl rfl (Nat.le_of_ble_eq_true rfl) hl.1 ⟨Nat.le_of_ble_eq_true rfl, Nat.le_of_ble_eq_true rfl⟩ dX10_count_7 ⟨Nat.le_of_ble_eq_true rfl, Nat.le_of_ble_eq_true rfl⟩) (fun H locs hW => ?_)
  refine lv_iconst (v := (1 : Int32)) hx hb dX10_count_10 (by decide) ?_
  refine lv_iconst (v := (1 : Int32)) hx hb dX10_count_11 (by decide) ?_
  obtain ⟨hg3, hf⟩ := z_g hf
  obtain ⟨r5, σ6, hq4, hf⟩ := z_b2 hf
  refine z_ci hW (z_runV (As := [.int r2, .int (1 : Int32), .int (1 : Int32)]) (rest := []) B hW zv_X10_53 (K_X10_goes hq4) hg3 rfl rfl rfl (Nat.le_of_ble_eq_true rfl) hl.1 ⟨Nat.le_of_ble_eq_true rfl, Nat.le_of_ble_eq_true rfl⟩ dX10_count_12 ⟨Nat.le_of_ble_eq_true rfl, Nat.le_of_ble_eq_true rfl⟩) (fun H locs hW => ?_)
  refine lv_if_eq (tgt := 30) hx hb dX10_count_15 (by decide) (fun hc15 => ?_) (fun hc15 => ?_)
  · replace hf := z_ip hc15 hf
    refine lv_iconst (v := (0 : Int32)) hx hb dX10_count_30 (by decide) ?_
    exact t_X10_count_31 B hf hW (lv_sub hl [] rfl) 
  · replace hf := z_in hc15 hf
    refine lv_aload_n hx hb dX10_count_18 rfl (lv_at hl 0 rfl) ?_
    obtain ⟨hg7, hf⟩ := z_g hf
    obtain ⟨q8, hv9, hf⟩ := z_nn hf
    refine z_getN B hW (Or.inr zf_X10_7) rfl hg7 hv9 dX10_count_19 ?_
    refine lv_bipush (v := (9 : Int32)) hx hb dX10_count_22 (by decide) ?_
    refine lv_iload_n hx hb dX10_count_24 rfl (lv_at hl 1 rfl) ?_
    refine lv_iadd hx hb dX10_count_25 ?_
    obtain ⟨hg10, hf⟩ := z_g hf
    obtain ⟨hg11, hf⟩ := z_g hf
    refine z_ald B hW hg10 hg11 dX10_count_26 ?_
    refine lv_goto (tgt := 31) hx hb dX10_count_27 (by decide) ?_
    exact t_X10_count_31 B hf hW (lv_sub hl [] rfl) 
set_option maxRecDepth 100000 in
def f_X10_isNoisy_32 (σ : zSt) (s0 : Int32) : Option (Int32 × zSt) :=
(if z_bl s0 then (some (s0, σ)) else none)
set_option maxRecDepth 20000 in
set_option maxHeartbeats 4000000 in
theorem t_X10_isNoisy_32 (B : z_B p s m args meth c D cA bs RX10 cX10_isNoisy 2 (some .boolean)) {r : Int32} {σ' : zSt} {σ : zSt} {s0 : Int32} (hf : f_X10_isNoisy_32 σ s0 = some (r, σ')) {H : Heap} {locs : List Loc} {ls : Array Slot} (hW : z_Ok D cA bs s σ H locs) (hl : lv_has ls 2 [])  : W p l e (zrm 1 0 0 25) s m args below meth c H locs 0 0 (MQ below (z_Qi D cA bs r σ') args s 0 0 (fun q => bs ≤ q)) (F0 m 32 ls [.int s0]) := by
  have hx := B.1
  have hb := B.2.1
  have hown := B.2.2.2.1
  have hts := B.2.2.2.2.1
  unfold f_X10_isNoisy_32 at hf
  obtain ⟨hg1, hf⟩ := z_g hf
  obtain ⟨rfl, rfl⟩ := z_e2 hf
  exact z_rz hg1 B hW dX10_isNoisy_32 (Nat.le_of_ble_eq_true rfl) (Nat.le_of_ble_eq_true rfl)
set_option maxRecDepth 100000 in
def f_X10_isNoisy_31 (σ : zSt) : Option (Int32 × zSt) :=
(f_X10_isNoisy_32 σ (0 : Int32))
set_option maxRecDepth 20000 in
set_option maxHeartbeats 4000000 in
theorem t_X10_isNoisy_31 (B : z_B p s m args meth c D cA bs RX10 cX10_isNoisy 2 (some .boolean)) {r : Int32} {σ' : zSt} {σ : zSt} (hf : f_X10_isNoisy_31 σ = some (r, σ')) {H : Heap} {locs : List Loc} {ls : Array Slot} (hW : z_Ok D cA bs s σ H locs) (hl : lv_has ls 2 [])  : W p l e (zrm 1 0 0 25) s m args below meth c H locs 0 0 (MQ below (z_Qi D cA bs r σ') args s 0 0 (fun q => bs ≤ q)) (F0 m 31 ls []) := by
  have hx := B.1
  have hb := B.2.1
  have hown := B.2.2.2.1
  have hts := B.2.2.2.2.1
  unfold f_X10_isNoisy_31 at hf
  refine lv_iconst (v := (0 : Int32)) hx hb dX10_isNoisy_31 (by decide) ?_
  exact t_X10_isNoisy_32 B hf hW hl 
set_option maxRecDepth 100000 in
def f_X10_isNoisy (σ : zSt) (l0 : Nat) (l1 : Int32) : Option (Int32 × zSt) :=
(zb (f_X10_in σ l1.toInt64 (0 : Int64) (1000000 : Int64)) (fun r2 => (if z_ob σ l0 9 then (zb2 (f_X10_goes σ l0 r2 (1 : Int32) (1 : Int32)) (fun r5 σ6 => (if r5 = 0 then
(f_X10_isNoisy_31 σ6)
else
(if z_ob σ6 l0 9 then (zb (f_X10_isLoud σ6 l0 l1 l1) (fun r9 => (if r9 = 0 then
(f_X10_isNoisy_31 σ6)
else
(f_X10_isNoisy_32 σ6 (1 : Int32))))) else none)))) else none)))
set_option maxRecDepth 20000 in
set_option maxHeartbeats 4000000 in
theorem K_X10_isNoisy {σ : zSt} {l0 : Nat} {l1 : Int32} {r : Int32} {σ' : zSt} (hf : f_X10_isNoisy σ l0 l1 = some (r, σ')) : z_M l D cA bs yX10_isNoisy cX10_isNoisy 2 (some .boolean) 1 25 0 0 [.ref l0, .int l1] σ (z_Qi D cA bs r σ') := by
  refine z_met (own := RX10) (lv := [(0, .ref l0), (1, .int l1)]) (by decide) rfl (Nat.le_of_ble_eq_true rfl) rfl (fun p e s m below meth c ls B hnm hW hl => ?_)
  have hx := B.1
  have hb := B.2.1
  have hown := B.2.2.2.1
  have hts := B.2.2.2.2.1
  unfold f_X10_isNoisy at hf
  refine lv_aload_n hx hb dX10_isNoisy_0 rfl (lv_at hl 0 rfl) ?_
  refine lv_iload_n hx hb dX10_isNoisy_1 rfl (lv_at hl 1 rfl) ?_
  refine lv_i2l (v := l1.toInt64) hx hb dX10_isNoisy_2 rfl ?_
  refine lv_lconst (v := (0 : Int64)) hx hb dX10_isNoisy_3 (by decide) ?_
  refine lv_ldc2 hx hb hown (hts _ zk_X10_74) dX10_isNoisy_4 ?_
  obtain ⟨r2, hq1, hf⟩ := z_b hf
  refine z_ci hW (z_runS (As := [.long l1.toInt64, .long (0 : Int64), .long (1000000 : Int64)]) (rest := [.ref l0]) B hW zv_X10_35 (K_X10_in hq1) rfl rfl (Nat.le_of_ble_eq_true rfl) hl.1 ⟨Nat.le_of_ble_eq_true rfl, Nat.le_of_ble_eq_true rfl⟩ dX10_isNoisy_7 ⟨Nat.le_of_ble_eq_true rfl, Nat.le_of_ble_eq_true rfl⟩) (fun H locs hW => ?_)
  refine lv_iconst (v := (1 : Int32)) hx hb dX10_isNoisy_10 (by decide) ?_
  refine lv_iconst (v := (1 : Int32)) hx hb dX10_isNoisy_11 (by decide) ?_
  obtain ⟨hg3, hf⟩ := z_g hf
  obtain ⟨r5, σ6, hq4, hf⟩ := z_b2 hf
  refine z_ci hW (z_runV (As := [.int r2, .int (1 : Int32), .int (1 : Int32)]) (rest := []) B hW zv_X10_53 (K_X10_goes hq4) hg3 rfl rfl rfl (Nat.le_of_ble_eq_true rfl) hl.1 ⟨Nat.le_of_ble_eq_true rfl, Nat.le_of_ble_eq_true rfl⟩ dX10_isNoisy_12 ⟨Nat.le_of_ble_eq_true rfl, Nat.le_of_ble_eq_true rfl⟩) (fun H locs hW => ?_)
  refine lv_if_eq (tgt := 31) hx hb dX10_isNoisy_15 (by decide) (fun hc15 => ?_) (fun hc15 => ?_)
  · replace hf := z_ip hc15 hf
    exact t_X10_isNoisy_31 B hf hW (lv_sub hl [] rfl) 
  · replace hf := z_in hc15 hf
    refine lv_aload_n hx hb dX10_isNoisy_18 rfl (lv_at hl 0 rfl) ?_
    refine lv_iload_n hx hb dX10_isNoisy_19 rfl (lv_at hl 1 rfl) ?_
    refine lv_iload_n hx hb dX10_isNoisy_20 rfl (lv_at hl 1 rfl) ?_
    obtain ⟨hg7, hf⟩ := z_g hf
    obtain ⟨r9, hq8, hf⟩ := z_b hf
    refine z_ci hW (z_runV (As := [.int l1, .int l1]) (rest := []) B hW zv_X10_76 (K_X10_isLoud hq8) hg7 rfl rfl rfl (Nat.le_of_ble_eq_true rfl) hl.1 ⟨Nat.le_of_ble_eq_true rfl, Nat.le_of_ble_eq_true rfl⟩ dX10_isNoisy_21 ⟨Nat.le_of_ble_eq_true rfl, Nat.le_of_ble_eq_true rfl⟩) (fun H locs hW => ?_)
    refine lv_if_eq (tgt := 31) hx hb dX10_isNoisy_24 (by decide) (fun hc24 => ?_) (fun hc24 => ?_)
    · replace hf := z_ip hc24 hf
      exact t_X10_isNoisy_31 B hf hW (lv_sub hl [] rfl) 
    · replace hf := z_in hc24 hf
      refine lv_iconst (v := (1 : Int32)) hx hb dX10_isNoisy_27 (by decide) ?_
      refine lv_goto (tgt := 32) hx hb dX10_isNoisy_28 (by decide) ?_
      exact t_X10_isNoisy_32 B hf hW (lv_sub hl [] rfl) 
set_option maxRecDepth 100000 in
def f_X10_logged (σ : zSt) (l0 : Nat) : Option (Int32 × zSt) :=
(if z_ob σ l0 9 then (zl (z_pI σ l0 4 (0 : Int32)) (fun σ2 => (if z_ob σ2 l0 9 then (zc (z_R σ2 l0 0) none (fun q5 => (if z_ar σ2 q5 0 then (if z_ix (7 : Int32) (z_ln σ2 q5) then (some ((z_I σ2 q5 (7 : Int32).toNatClampNeg), σ2)) else none) else none))) else none))) else none)
set_option maxRecDepth 20000 in
set_option maxHeartbeats 4000000 in
theorem K_X10_logged {σ : zSt} {l0 : Nat} {r : Int32} {σ' : zSt} (hf : f_X10_logged σ l0 = some (r, σ')) : z_M l D cA bs yX10_logged cX10_logged 1 (some .int) 0 0 0 0 [.ref l0] σ (z_Qi D cA bs r σ') := by
  refine z_met (own := RX10) (lv := [(0, .ref l0)]) (by decide) rfl (Nat.le_of_ble_eq_true rfl) rfl (fun p e s m below meth c ls B hnm hW hl => ?_)
  have hx := B.1
  have hb := B.2.1
  have hown := B.2.2.2.1
  have hts := B.2.2.2.2.1
  unfold f_X10_logged at hf
  refine lv_aload_n hx hb dX10_logged_0 rfl (lv_at hl 0 rfl) ?_
  refine lv_iconst (v := (0 : Int32)) hx hb dX10_logged_1 (by decide) ?_
  obtain ⟨hg1, hf⟩ := z_g hf
  obtain ⟨σ2, hs3, hf⟩ := z_l hf
  refine z_putI B hW zf_X10_22 hg1 rfl hs3 dX10_logged_2 (fun H locs hW => ?_)
  refine lv_aload_n hx hb dX10_logged_5 rfl (lv_at hl 0 rfl) ?_
  obtain ⟨hg4, hf⟩ := z_g hf
  obtain ⟨q5, hv6, hf⟩ := z_nn hf
  refine z_getN B hW (Or.inr zf_X10_7) rfl hg4 hv6 dX10_logged_6 ?_
  refine lv_bipush (v := (7 : Int32)) hx hb dX10_logged_9 (by decide) ?_
  obtain ⟨hg7, hf⟩ := z_g hf
  obtain ⟨hg8, hf⟩ := z_g hf
  refine z_ald B hW hg7 hg8 dX10_logged_11 ?_
  obtain ⟨rfl, rfl⟩ := z_e2 hf
  exact z_ri B hW dX10_logged_12 (Nat.le_of_ble_eq_true rfl) (Nat.le_of_ble_eq_true rfl)
end GEN
