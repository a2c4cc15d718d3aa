section GEN
variable {p : Program} {l : Launch} {e : Env} {s : State} {m : MethodId} {args : Array Value} {below : List Frame} {meth : Method} {c : Code} {D : va_G} {cA : Nat → ClassId} {bs : Nat} {b L : Nat} {xs : Nat → Int32}
set_option maxRecDepth 100000 in
def f_L_cell_20 (xs : Nat → Int32) (L : Nat) (σ : zSt) (s0 : Int32) : Option (Int32) :=
(some s0)
set_option maxRecDepth 20000 in
set_option maxHeartbeats 4000000 in
theorem t_L_cell_20 (B : z_B p s m args meth c D cA bs RL cL_cell 2 (some .int)) (HL : z_L s bs b L xs) {r : Int32} {σ : zSt} {s0 : Int32} (hf : f_L_cell_20 xs L σ s0 = some r) {H : Heap} {locs : List Loc} {ls : Array Slot} (hW : z_Ok D cA bs s σ H locs) (hl : lv_has ls 2 [])  : W p l e (zrm 0 0 0 0) s m args below meth c H locs 0 0 (MQ below (z_Qi D cA bs r σ) args s 0 0 (fun q => bs ≤ q)) (F0 m 20 ls [.int s0]) := by
  have hx := B.1
  have hb := B.2.1
  have hown := B.2.2.2.1
  have hts := B.2.2.2.2.1
  unfold f_L_cell_20 at hf
  obtain rfl := z_e1 hf
  exact z_ri B hW dL_cell_20 (Nat.le_of_ble_eq_true rfl) (Nat.le_of_ble_eq_true rfl)
set_option maxRecDepth 100000 in
def f_L_cell (xs : Nat → Int32) (L : Nat) (σ : zSt) (l1 : Int32) : Option (Int32) :=
(if (Int32.ofNat L) ≤ l1 then
(f_L_cell_20 xs L σ ((1759714724 : Int32) * (l1 + (491 : Int32))))
else
(if z_ix l1 L then (f_L_cell_20 xs L σ (xs l1.toNatClampNeg)) else none))
set_option maxRecDepth 20000 in
set_option maxHeartbeats 4000000 in
theorem K_L_cell {σ : zSt} {l1 : Int32} {r : Int32} (hf : f_L_cell xs L σ l1 = some r) : z_ML l D cA bs yL_cell cL_cell 2 (some .int) 0 0 0 0 [.ref b, .int l1] σ (z_Qi D cA bs r σ) b L xs := by
  refine z_metL (own := RL) (lv := [(0, .ref b), (1, .int l1)]) (by decide) rfl (Nat.le_of_ble_eq_true rfl) rfl (fun p e s m below meth c ls B HL hW hl => ?_)
  have hx := B.1
  have hb := B.2.1
  have hown := B.2.2.2.1
  have hts := B.2.2.2.2.1
  unfold f_L_cell at hf
  refine lv_iload_n hx hb dL_cell_0 rfl (lv_at hl 1 rfl) ?_
  refine lv_aload_n hx hb dL_cell_1 rfl (lv_at hl 0 rfl) ?_
  refine z_slen B hW HL dL_cell_2 ?_
  refine lv_icmp_ge (tgt := 12) hx hb dL_cell_3 (by decide) (fun hc3 => ?_) (fun hc3 => ?_)
  · replace hf := z_ip hc3 hf
    refine lv_ldc hx hb hown (hts _ zk_L_7) dL_cell_12 ?_
    refine lv_iload_n hx hb dL_cell_14 rfl (lv_at hl 1 rfl) ?_
    refine lv_sipush (v := (491 : Int32)) hx hb dL_cell_15 (by decide) ?_
    refine lv_iadd hx hb dL_cell_18 ?_
    refine lv_imul hx hb dL_cell_19 ?_
    exact t_L_cell_20 B HL hf hW (lv_sub hl [] rfl) 
  · replace hf := z_in hc3 hf
    refine lv_aload_n hx hb dL_cell_6 rfl (lv_at hl 0 rfl) ?_
    refine lv_iload_n hx hb dL_cell_7 rfl (lv_at hl 1 rfl) ?_
    obtain ⟨hg1, hf⟩ := z_g hf
    refine z_sld B hW HL hg1 dL_cell_8 ?_
    refine lv_goto (tgt := 20) hx hb dL_cell_9 (by decide) ?_
    exact t_L_cell_20 B HL hf hW (lv_sub hl [] rfl) 
set_option maxRecDepth 100000 in
def f_L_up (σ : zSt) (l0 : Int32) (l1 : Int32) : Option (Int32) :=
(if ¬ l1 = 0 then (some ((l0 &&& (2147483647 : Int32)) - (l0 &&& (2147483647 : Int32)) / l1 * l1)) else none)
set_option maxRecDepth 20000 in
set_option maxHeartbeats 4000000 in
theorem K_L_up {σ : zSt} {l0 : Int32} {l1 : Int32} {r : Int32} (hf : f_L_up σ l0 l1 = some r) : z_M l D cA bs yL_up cL_up 2 (some .int) 0 0 0 0 [.int l0, .int l1] σ (z_Qi D cA bs r σ) := by
  refine z_met (own := RL) (lv := [(0, .int l0), (1, .int l1)]) (by decide) rfl (Nat.le_of_ble_eq_true rfl) rfl (fun p e s m below meth c ls B hnm hW hl => ?_)
  have hx := B.1
  have hb := B.2.1
  have hown := B.2.2.2.1
  have hts := B.2.2.2.2.1
  unfold f_L_up at hf
  refine lv_iload_n hx hb dL_up_0 rfl (lv_at hl 0 rfl) ?_
  refine lv_ldc hx hb hown (hts _ zk_L_8) dL_up_1 ?_
  refine lv_iand hx hb dL_up_3 ?_
  refine lv_iload_n hx hb dL_up_4 rfl (lv_at hl 1 rfl) ?_
  obtain ⟨hg1, hf⟩ := z_gp hf
  refine lv_irem hx hb dL_up_5 hg1 ?_
  obtain rfl := z_e1 hf
  exact z_ri B hW dL_up_6 (Nat.le_of_ble_eq_true rfl) (Nat.le_of_ble_eq_true rfl)
set_option maxRecDepth 100000 in
def f_L_adds_204 (xs : Nat → Int32) (L : Nat) (σ : zSt) (s0 : Int32) : Option (Int32 × zSt) :=
(if z_bl s0 then (some (s0, σ)) else none)
set_option maxRecDepth 20000 in
set_option maxHeartbeats 4000000 in
theorem t_L_adds_204 (B : z_B p s m args meth c D cA bs RL cL_adds 8 (some .boolean)) (HL : z_L s bs b L xs) {r : Int32} {σ' : zSt} {σ : zSt} {s0 : Int32} (hf : f_L_adds_204 xs L σ s0 = some (r, σ')) {H : Heap} {locs : List Loc} {ls : Array Slot} (hW : z_Ok D cA bs s σ H locs) (hl : lv_has ls 8 [])  : W p l e (zrm 6 0 0 172) s m args below meth c H locs 0 0 (MQ below (z_Qi D cA bs r σ') args s 0 0 (fun q => bs ≤ q)) (F0 m 204 ls [.int s0]) := by
  have hx := B.1
  have hb := B.2.1
  have hown := B.2.2.2.1
  have hts := B.2.2.2.2.1
  unfold f_L_adds_204 at hf
  obtain ⟨hg1, hf⟩ := z_g hf
  obtain ⟨rfl, rfl⟩ := z_e2 hf
  exact z_rz hg1 B hW dL_adds_204 (Nat.le_of_ble_eq_true rfl) (Nat.le_of_ble_eq_true rfl)
set_option maxRecDepth 100000 in
def f_L_adds_203 (xs : Nat → Int32) (L : Nat) (σ : zSt) : Option (Int32 × zSt) :=
(f_L_adds_204 xs L σ (0 : Int32))
set_option maxRecDepth 20000 in
set_option maxHeartbeats 4000000 in
theorem t_L_adds_203 (B : z_B p s m args meth c D cA bs RL cL_adds 8 (some .boolean)) (HL : z_L s bs b L xs) {r : Int32} {σ' : zSt} {σ : zSt} (hf : f_L_adds_203 xs L σ = some (r, σ')) {H : Heap} {locs : List Loc} {ls : Array Slot} (hW : z_Ok D cA bs s σ H locs) (hl : lv_has ls 8 [])  : W p l e (zrm 6 0 0 172) s m args below meth c H locs 0 0 (MQ below (z_Qi D cA bs r σ') args s 0 0 (fun q => bs ≤ q)) (F0 m 203 ls []) := by
  have hx := B.1
  have hb := B.2.1
  have hown := B.2.2.2.1
  have hts := B.2.2.2.2.1
  unfold f_L_adds_203 at hf
  refine lv_iconst (v := (0 : Int32)) hx hb dL_adds_203 (by decide) ?_
  exact t_L_adds_204 B HL hf hW hl 
set_option maxRecDepth 100000 in
def f_L_adds_94 (xs : Nat → Int32) (L : Nat) (σ : zSt) (l0 : Nat) (l1 : Nat) (l3 : Int32) (l4 : Int32) (l5 : Int32) (l6 : Int32) : Option ((zSt × Int32 × Int32 × Int32) ⊕ (Int32 × zSt)) :=
(some (.inl (σ, l4, l5, (l6 + (1 : Int32)))))
set_option maxRecDepth 20000 in
set_option maxHeartbeats 4000000 in
theorem t_L_adds_94 (B : z_B p s m args meth c D cA bs RL cL_adds 8 (some .boolean)) (HL : z_L s bs b L xs) {r : Int32} {σ' : zSt} {o1 : (zSt × Int32 × Int32 × Int32) ⊕ (Int32 × zSt)} {σ : zSt} {l0 : Nat} {l1 : Nat} {l3 : Int32} {l4 : Int32} {l5 : Int32} {l6 : Int32} (hf : f_L_adds_94 xs L σ l0 l1 l3 l4 l5 l6 = some o1) {H : Heap} {locs : List Loc} {ls : Array Slot} (hW : z_Ok D cA bs s σ H locs) (hl : lv_has ls 8 [(0, .ref l0), (1, .ref l1), (2, .ref b), (3, .int l3), (4, .int l4), (5, .int l5), (6, .int l6)]) (hk1 : ∀ (σ : zSt) (l4 : Int32) (l5 : Int32) (l6 : Int32), o1 = .inl (σ, l4, l5, l6) → ∀ {H : Heap} {locs : List Loc} {ls : Array Slot}, z_Ok D cA bs s σ H locs → lv_has ls 8 [(0, .ref l0), (1, .ref l1), (2, .ref b), (3, .int l3), (4, .int l4), (5, .int l5), (6, .int l6)] → W p l e (zrm 6 0 0 172) s m args below meth c H locs 0 0 (MQ below (z_Qi D cA bs r σ') args s 0 0 (fun q => bs ≤ q)) (F0 m 27 ls [])) (hr1 : ∀ x, o1 = .inr x → x = (r, σ')) : W p l e (zrm 6 0 0 172) s m args below meth c H locs 0 0 (MQ below (z_Qi D cA bs r σ') args s 0 0 (fun q => bs ≤ q)) (F0 m 94 ls []) := by
  have hx := B.1
  have hb := B.2.1
  have hown := B.2.2.2.1
  have hts := B.2.2.2.2.1
  unfold f_L_adds_94 at hf
  refine lv_iinc (v := (l6 + (1 : Int32))) (lv' := [(6, .int (l6 + (1 : Int32))), (0, .ref l0), (1, .ref l1), (2, .ref b), (3, .int l3), (4, .int l4), (5, .int l5)]) hx hb dL_adds_94 hl (k := 6) rfl rfl (by decide) rfl (fun ls hl => ?_)
  refine lv_goto (tgt := 27) hx hb dL_adds_97 (by decide) ?_
  exact hk1 _ _ _ _ (Option.some.inj hf).symm hW (lv_sub hl [1, 2, 3, 4, 5, 6, 0] rfl)
set_option maxRecDepth 100000 in
def f_L_adds_92 (xs : Nat → Int32) (L : Nat) (σ : zSt) (l0 : Nat) (l1 : Nat) (l3 : Int32) (l4 : Int32) (l6 : Int32) (s0 : Int32) : Option ((zSt × Int32 × Int32 × Int32) ⊕ (Int32 × zSt)) :=
(f_L_adds_94 xs L σ l0 l1 l3 l4 s0 l6)
set_option maxRecDepth 20000 in
set_option maxHeartbeats 4000000 in
theorem t_L_adds_92 (B : z_B p s m args meth c D cA bs RL cL_adds 8 (some .boolean)) (HL : z_L s bs b L xs) {r : Int32} {σ' : zSt} {o1 : (zSt × Int32 × Int32 × Int32) ⊕ (Int32 × zSt)} {σ : zSt} {l0 : Nat} {l1 : Nat} {l3 : Int32} {l4 : Int32} {l6 : Int32} {s0 : Int32} (hf : f_L_adds_92 xs L σ l0 l1 l3 l4 l6 s0 = some o1) {H : Heap} {locs : List Loc} {ls : Array Slot} (hW : z_Ok D cA bs s σ H locs) (hl : lv_has ls 8 [(0, .ref l0), (1, .ref l1), (2, .ref b), (3, .int l3), (4, .int l4), (6, .int l6)]) (hk1 : ∀ (σ : zSt) (l4 : Int32) (l5 : Int32) (l6 : Int32), o1 = .inl (σ, l4, l5, l6) → ∀ {H : Heap} {locs : List Loc} {ls : Array Slot}, z_Ok D cA bs s σ H locs → lv_has ls 8 [(0, .ref l0), (1, .ref l1), (2, .ref b), (3, .int l3), (4, .int l4), (5, .int l5), (6, .int l6)] → W p l e (zrm 6 0 0 172) s m args below meth c H locs 0 0 (MQ below (z_Qi D cA bs r σ') args s 0 0 (fun q => bs ≤ q)) (F0 m 27 ls [])) (hr1 : ∀ x, o1 = .inr x → x = (r, σ')) : W p l e (zrm 6 0 0 172) s m args below meth c H locs 0 0 (MQ below (z_Qi D cA bs r σ') args s 0 0 (fun q => bs ≤ q)) (F0 m 92 ls [.int s0]) := by
  have hx := B.1
  have hb := B.2.1
  have hown := B.2.2.2.1
  have hts := B.2.2.2.2.1
  unfold f_L_adds_92 at hf
  refine lv_istore (lv' := [(5, .int s0), (0, .ref l0), (1, .ref l1), (2, .ref b), (3, .int l3), (4, .int l4), (6, .int l6)]) hx hb dL_adds_92 hl (by decide) rfl (fun ls hl => ?_)
  exact t_L_adds_94 B HL hf hW (lv_sub hl [1, 2, 3, 4, 5, 0, 6] rfl) hk1 hr1
set_option maxRecDepth 100000 in
def f_L_adds_91 (xs : Nat → Int32) (L : Nat) (σ : zSt) (l0 : Nat) (l1 : Nat) (l3 : Int32) (l4 : Int32) (l6 : Int32) : Option ((zSt × Int32 × Int32 × Int32) ⊕ (Int32 × zSt)) :=
(f_L_adds_92 xs L σ l0 l1 l3 l4 l6 (0 : Int32))
set_option maxRecDepth 20000 in
set_option maxHeartbeats 4000000 in
theorem t_L_adds_91 (B : z_B p s m args meth c D cA bs RL cL_adds 8 (some .boolean)) (HL : z_L s bs b L xs) {r : Int32} {σ' : zSt} {o1 : (zSt × Int32 × Int32 × Int32) ⊕ (Int32 × zSt)} {σ : zSt} {l0 : Nat} {l1 : Nat} {l3 : Int32} {l4 : Int32} {l6 : Int32} (hf : f_L_adds_91 xs L σ l0 l1 l3 l4 l6 = some o1) {H : Heap} {locs : List Loc} {ls : Array Slot} (hW : z_Ok D cA bs s σ H locs) (hl : lv_has ls 8 [(0, .ref l0), (1, .ref l1), (2, .ref b), (3, .int l3), (4, .int l4), (6, .int l6)]) (hk1 : ∀ (σ : zSt) (l4 : Int32) (l5 : Int32) (l6 : Int32), o1 = .inl (σ, l4, l5, l6) → ∀ {H : Heap} {locs : List Loc} {ls : Array Slot}, z_Ok D cA bs s σ H locs → lv_has ls 8 [(0, .ref l0), (1, .ref l1), (2, .ref b), (3, .int l3), (4, .int l4), (5, .int l5), (6, .int l6)] → W p l e (zrm 6 0 0 172) s m args below meth c H locs 0 0 (MQ below (z_Qi D cA bs r σ') args s 0 0 (fun q => bs ≤ q)) (F0 m 27 ls [])) (hr1 : ∀ x, o1 = .inr x → x = (r, σ')) : W p l e (zrm 6 0 0 172) s m args below meth c H locs 0 0 (MQ below (z_Qi D cA bs r σ') args s 0 0 (fun q => bs ≤ q)) (F0 m 91 ls []) := by
  have hx := B.1
  have hb := B.2.1
  have hown := B.2.2.2.1
  have hts := B.2.2.2.2.1
  unfold f_L_adds_91 at hf
  refine lv_iconst (v := (0 : Int32)) hx hb dL_adds_91 (by decide) ?_
  exact t_L_adds_92 B HL hf hW hl hk1 hr1
set_option maxRecDepth 100000 in
def b_L_adds_27 (xs : Nat → Int32) (L : Nat) (l0 : Nat) (l1 : Nat) (l3 : Int32) (σ : zSt) (l4 : Int32) (l5 : Int32) (l6 : Int32) : Option ((zSt × Int32 × Int32 × Int32) ⊕ (Int32 × zSt)) :=
(if (8 : Int32) ≤ l6 then
(zex (zb (f_L_cell xs L σ (9 : Int32)) (fun r2 => (if l5 = 0 then
(f_L_adds_203 xs L σ)
else
(zb (f_L_up σ r2 (300 : Int32)) (fun r4 => (zb (f_L_up σ (r2 >>> ((9 : Int32) &&& 31)) (20 : Int32)) (fun r6 => (zb (f_L_up σ (r2 >>> ((14 : Int32) &&& 31)) (6 : Int32)) (fun r8 => (if z_ob σ l0 8 then (zb2 (f_X9_setTimes σ l0 ((1 : Int32) + r4) ((1 : Int32) + r6) ((1 : Int32) + r8)) (fun r11 σ12 => (if r11 = (60 : Int32) then
(zb (f_L_up σ12 r2 (300 : Int32)) (fun r14 => (zb (f_L_up σ12 (r2 >>> ((9 : Int32) &&& 31)) (20 : Int32)) (fun r16 => (zb (f_L_up σ12 (r2 >>> ((14 : Int32) &&& 31)) (6 : Int32)) (fun r18 => (if z_ob σ12 l1 8 then (zb2 (f_X9_setTimes σ12 l1 ((1 : Int32) + r14) ((1 : Int32) + r16) ((1 : Int32) + r18)) (fun r21 σ22 => (if r21 = (60 : Int32) then
(f_L_adds_204 xs L σ22 (1 : Int32))
else
(f_L_adds_203 xs L σ22)))) else none)))))))
else
(f_L_adds_203 xs L σ12)))) else none)))))))))))
else
(zb (f_L_cell xs L σ ((1 : Int32) + l6)) (fun r25 => (zb (f_L_up σ r25 l3) (fun r27 => (if ((l4 >>> (r27 &&& 31)) &&& (1 : Int32)) = 0 then
(zl (l4 ||| ((1 : Int32) <<< (r27 &&& 31))) (fun x28 => (if l5 = 0 then
(f_L_adds_91 xs L σ l0 l1 l3 x28 l6)
else
(if z_ob σ l0 8 then (zb2 (f_X9_addStation σ l0 r27) (fun r32 σ33 => (if z_ob σ33 l1 8 then (zb2 (f_X9_addStation σ33 l1 r27) (fun r36 σ37 => (if r32 = r36 then
(f_L_adds_92 xs L σ37 l0 l1 l3 x28 l6 (1 : Int32))
else
(f_L_adds_91 xs L σ37 l0 l1 l3 x28 l6)))) else none))) else none))))
else
(f_L_adds_94 xs L σ l0 l1 l3 l4 l5 l6)))))))
set_option maxRecDepth 100000 in
def f_L_adds_27 (xs : Nat → Int32) (L : Nat) (l0 : Nat) (l1 : Nat) (l3 : Int32) (σ : zSt) (l4 : Int32) (l5 : Int32) (l6 : Int32) : Option (Int32 × zSt) := zloop (fun (t : zSt × Int32 × Int32 × Int32) => b_L_adds_27 xs L l0 l1 l3 t.1 t.2.1 t.2.2.1 t.2.2.2) zN (σ, l4, l5, l6)
set_option maxRecDepth 20000 in
set_option maxHeartbeats 4000000 in
theorem tb_L_adds_27 (B : z_B p s m args meth c D cA bs RL cL_adds 8 (some .boolean)) (HL : z_L s bs b L xs) {r : Int32} {σ' : zSt} {o1 : (zSt × Int32 × Int32 × Int32) ⊕ (Int32 × zSt)} {l0 : Nat} {l1 : Nat} {l3 : Int32} {σ : zSt} {l4 : Int32} {l5 : Int32} {l6 : Int32} (hf : b_L_adds_27 xs L l0 l1 l3 σ l4 l5 l6 = some o1) {H : Heap} {locs : List Loc} {ls : Array Slot} (hW : z_Ok D cA bs s σ H locs) (hl : lv_has ls 8 [(0, .ref l0), (1, .ref l1), (2, .ref b), (3, .int l3), (4, .int l4), (5, .int l5), (6, .int l6)]) (hk1 : ∀ (σ : zSt) (l4 : Int32) (l5 : Int32) (l6 : Int32), o1 = .inl (σ, l4, l5, l6) → ∀ {H : Heap} {locs : List Loc} {ls : Array Slot}, z_Ok D cA bs s σ H locs → lv_has ls 8 [(0, .ref l0), (1, .ref l1), (2, .ref b), (3, .int l3), (4, .int l4), (5, .int l5), (6, .int l6)] → W p l e (zrm 6 0 0 172) s m args below meth c H locs 0 0 (MQ below (z_Qi D cA bs r σ') args s 0 0 (fun q => bs ≤ q)) (F0 m 27 ls [])) (hr1 : ∀ x, o1 = .inr x → x = (r, σ')) : W p l e (zrm 6 0 0 172) s m args below meth c H locs 0 0 (MQ below (z_Qi D cA bs r σ') args s 0 0 (fun q => bs ≤ q)) (F0 m 27 ls []) := by
  have hx := B.1
  have hb := B.2.1
  have hown := B.2.2.2.1
  have hts := B.2.2.2.2.1
  unfold b_L_adds_27 at hf
  refine lv_iload hx hb dL_adds_27 (lv_at hl 6 rfl) ?_
  refine lv_bipush (v := (8 : Int32)) hx hb dL_adds_29 (by decide) ?_
  refine lv_icmp_ge (tgt := 100) hx hb dL_adds_31 (by decide) (fun hc31 => ?_) (fun hc31 => ?_)
  · replace hf := z_ip hc31 hf
    obtain ⟨w1, hf, ho23⟩ := z_x hf
    obtain rfl := hr1 _ ho23
    refine lv_aload_n hx hb dL_adds_100 rfl (lv_at hl 2 rfl) ?_
    refine lv_bipush (v := (9 : Int32)) hx hb dL_adds_101 (by decide) ?_
    obtain ⟨r2, hq1, hf⟩ := z_b hf
    refine z_ci hW (z_runSL (As := [.ref b, .int (9 : Int32)]) (rest := []) B hW HL zv_L_9 (K_L_cell hq1) rfl rfl (Nat.le_of_ble_eq_true rfl) hl.1 ⟨Nat.le_of_ble_eq_true rfl, Nat.le_of_ble_eq_true rfl⟩ dL_adds_103 ⟨Nat.le_of_ble_eq_true rfl, Nat.le_of_ble_eq_true rfl⟩) (fun H locs hW => ?_)
    refine lv_istore (lv' := [(6, .int r2), (0, .ref l0), (1, .ref l1), (2, .ref b), (3, .int l3), (4, .int l4), (5, .int l5)]) hx hb dL_adds_106 hl (by decide) rfl (fun ls hl => ?_)
    refine lv_iload hx hb dL_adds_108 (lv_at hl 6 rfl) ?_
    refine lv_if_eq (tgt := 203) hx hb dL_adds_110 (by decide) (fun hc110 => ?_) (fun hc110 => ?_)
    · replace hf := z_ip hc110 hf
      exact t_L_adds_203 B HL hf hW (lv_sub hl [] rfl) 
    · replace hf := z_in hc110 hf
      refine lv_aload_n hx hb dL_adds_113 rfl (lv_at hl 1 rfl) ?_
      refine lv_iconst (v := (1 : Int32)) hx hb dL_adds_114 (by decide) ?_
      refine lv_iload hx hb dL_adds_115 (lv_at hl 0 rfl) ?_
      refine lv_sipush (v := (300 : Int32)) hx hb dL_adds_117 (by decide) ?_
      obtain ⟨r4, hq3, hf⟩ := z_b hf
      refine z_ci hW (z_runS (As := [.int r2, .int (300 : Int32)]) (rest := [.int (1 : Int32), .ref l0]) B hW zv_L_15 (K_L_up hq3) rfl rfl (Nat.le_of_ble_eq_true rfl) hl.1 ⟨Nat.le_of_ble_eq_true rfl, Nat.le_of_ble_eq_true rfl⟩ dL_adds_120 ⟨Nat.le_of_ble_eq_true rfl, Nat.le_of_ble_eq_true rfl⟩) (fun H locs hW => ?_)
      refine lv_iadd hx hb dL_adds_123 ?_
      refine lv_iconst (v := (1 : Int32)) hx hb dL_adds_124 (by decide) ?_
      refine lv_iload hx hb dL_adds_125 (lv_at hl 0 rfl) ?_
      refine lv_bipush (v := (9 : Int32)) hx hb dL_adds_127 (by decide) ?_
      refine lv_ishr hx hb dL_adds_129 ?_
      refine lv_bipush (v := (20 : Int32)) hx hb dL_adds_130 (by decide) ?_
      obtain ⟨r6, hq5, hf⟩ := z_b hf
      refine z_ci hW (z_runS (As := [.int (r2 >>> ((9 : Int32) &&& 31)), .int (20 : Int32)]) (rest := [.int (1 : Int32), .int ((1 : Int32) + r4), .ref l0]) B hW zv_L_15 (K_L_up hq5) rfl rfl (Nat.le_of_ble_eq_true rfl) hl.1 ⟨Nat.le_of_ble_eq_true rfl, Nat.le_of_ble_eq_true rfl⟩ dL_adds_132 ⟨Nat.le_of_ble_eq_true rfl, Nat.le_of_ble_eq_true rfl⟩) (fun H locs hW => ?_)
      refine lv_iadd hx hb dL_adds_135 ?_
      refine lv_iconst (v := (1 : Int32)) hx hb dL_adds_136 (by decide) ?_
      refine lv_iload hx hb dL_adds_137 (lv_at hl 0 rfl) ?_
      refine lv_bipush (v := (14 : Int32)) hx hb dL_adds_139 (by decide) ?_
      refine lv_ishr hx hb dL_adds_141 ?_
      refine lv_bipush (v := (6 : Int32)) hx hb dL_adds_142 (by decide) ?_
      obtain ⟨r8, hq7, hf⟩ := z_b hf
      refine z_ci hW (z_runS (As := [.int (r2 >>> ((14 : Int32) &&& 31)), .int (6 : Int32)]) (rest := [.int (1 : Int32), .int ((1 : Int32) + r6), .int ((1 : Int32) + r4), .ref l0]) B hW zv_L_15 (K_L_up hq7) rfl rfl (Nat.le_of_ble_eq_true rfl) hl.1 ⟨Nat.le_of_ble_eq_true rfl, Nat.le_of_ble_eq_true rfl⟩ dL_adds_144 ⟨Nat.le_of_ble_eq_true rfl, Nat.le_of_ble_eq_true rfl⟩) (fun H locs hW => ?_)
      refine lv_iadd hx hb dL_adds_147 ?_
      obtain ⟨hg9, hf⟩ := z_g hf
      obtain ⟨r11, σ12, hq10, hf⟩ := z_b2 hf
      refine z_ci hW (z_runV (As := [.int ((1 : Int32) + r4), .int ((1 : Int32) + r6), .int ((1 : Int32) + r8)]) (rest := []) B hW zv_L_25 (K_X9_setTimes hq10) hg9 rfl rfl rfl (Nat.le_of_ble_eq_true rfl) hl.1 ⟨Nat.le_of_ble_eq_true rfl, Nat.le_of_ble_eq_true rfl⟩ dL_adds_148 ⟨Nat.le_of_ble_eq_true rfl, Nat.le_of_ble_eq_true rfl⟩) (fun H locs hW => ?_)
      refine lv_bipush (v := (60 : Int32)) hx hb dL_adds_151 (by decide) ?_
      refine lv_icmp_ne (tgt := 203) hx hb dL_adds_153 (by decide) (fun hc153 => ?_) (fun hc153 => ?_)
      · replace hf := z_in hc153 hf
        exact t_L_adds_203 B HL hf hW (lv_sub hl [] rfl) 
      · replace hf := z_ip hc153 hf
        refine lv_aload_n hx hb dL_adds_156 rfl (lv_at hl 2 rfl) ?_
        refine lv_iconst (v := (1 : Int32)) hx hb dL_adds_157 (by decide) ?_
        refine lv_iload hx hb dL_adds_158 (lv_at hl 0 rfl) ?_
        refine lv_sipush (v := (300 : Int32)) hx hb dL_adds_160 (by decide) ?_
        obtain ⟨r14, hq13, hf⟩ := z_b hf
        refine z_ci hW (z_runS (As := [.int r2, .int (300 : Int32)]) (rest := [.int (1 : Int32), .ref l1]) B hW zv_L_15 (K_L_up hq13) rfl rfl (Nat.le_of_ble_eq_true rfl) hl.1 ⟨Nat.le_of_ble_eq_true rfl, Nat.le_of_ble_eq_true rfl⟩ dL_adds_163 ⟨Nat.le_of_ble_eq_true rfl, Nat.le_of_ble_eq_true rfl⟩) (fun H locs hW => ?_)
        refine lv_iadd hx hb dL_adds_166 ?_
        refine lv_iconst (v := (1 : Int32)) hx hb dL_adds_167 (by decide) ?_
        refine lv_iload hx hb dL_adds_168 (lv_at hl 0 rfl) ?_
        refine lv_bipush (v := (9 : Int32)) hx hb dL_adds_170 (by decide) ?_
        refine lv_ishr hx hb dL_adds_172 ?_
        refine lv_bipush (v := (20 : Int32)) hx hb dL_adds_173 (by decide) ?_
        obtain ⟨r16, hq15, hf⟩ := z_b hf
        refine z_ci hW (z_runS (As := [.int (r2 >>> ((9 : Int32) &&& 31)), .int (20 : Int32)]) (rest := [.int (1 : Int32), .int ((1 : Int32) + r14), .ref l1]) B hW zv_L_15 (K_L_up hq15) rfl rfl (Nat.le_of_ble_eq_true rfl) hl.1 ⟨Nat.le_of_ble_eq_true rfl, Nat.le_of_ble_eq_true rfl⟩ dL_adds_175 ⟨Nat.le_of_ble_eq_true rfl, Nat.le_of_ble_eq_true rfl⟩) (fun H locs hW => ?_)
        refine lv_iadd hx hb dL_adds_178 ?_
        refine lv_iconst (v := (1 : Int32)) hx hb dL_adds_179 (by decide) ?_
        refine lv_iload hx hb dL_adds_180 (lv_at hl 0 rfl) ?_
        refine lv_bipush (v := (14 : Int32)) hx hb dL_adds_182 (by decide) ?_
        refine lv_ishr hx hb dL_adds_184 ?_
        refine lv_bipush (v := (6 : Int32)) hx hb dL_adds_185 (by decide) ?_
        obtain ⟨r18, hq17, hf⟩ := z_b hf
        refine z_ci hW (z_runS (As := [.int (r2 >>> ((14 : Int32) &&& 31)), .int (6 : Int32)]) (rest := [.int (1 : Int32), .int ((1 : Int32) + r16), .int ((1 : Int32) + r14), .ref l1]) B hW zv_L_15 (K_L_up hq17) rfl rfl (Nat.le_of_ble_eq_true rfl) hl.1 ⟨Nat.le_of_ble_eq_true rfl, Nat.le_of_ble_eq_true rfl⟩ dL_adds_187 ⟨Nat.le_of_ble_eq_true rfl, Nat.le_of_ble_eq_true rfl⟩) (fun H locs hW => ?_)
        refine lv_iadd hx hb dL_adds_190 ?_
        obtain ⟨hg19, hf⟩ := z_g hf
        obtain ⟨r21, σ22, hq20, hf⟩ := z_b2 hf
        refine z_ci hW (z_runV (As := [.int ((1 : Int32) + r14), .int ((1 : Int32) + r16), .int ((1 : Int32) + r18)]) (rest := []) B hW zv_L_25 (K_X9_setTimes hq20) hg19 rfl rfl rfl (Nat.le_of_ble_eq_true rfl) hl.1 ⟨Nat.le_of_ble_eq_true rfl, Nat.le_of_ble_eq_true rfl⟩ dL_adds_191 ⟨Nat.le_of_ble_eq_true rfl, Nat.le_of_ble_eq_true rfl⟩) (fun H locs hW => ?_)
        refine lv_bipush (v := (60 : Int32)) hx hb dL_adds_194 (by decide) ?_
        refine lv_icmp_ne (tgt := 203) hx hb dL_adds_196 (by decide) (fun hc196 => ?_) (fun hc196 => ?_)
        · replace hf := z_in hc196 hf
          exact t_L_adds_203 B HL hf hW (lv_sub hl [] rfl) 
        · replace hf := z_ip hc196 hf
          refine lv_iconst (v := (1 : Int32)) hx hb dL_adds_199 (by decide) ?_
          refine lv_goto (tgt := 204) hx hb dL_adds_200 (by decide) ?_
          exact t_L_adds_204 B HL hf hW (lv_sub hl [] rfl) 
  · replace hf := z_in hc31 hf
    refine lv_aload_n hx hb dL_adds_34 rfl (lv_at hl 2 rfl) ?_
    refine lv_iconst (v := (1 : Int32)) hx hb dL_adds_35 (by decide) ?_
    refine lv_iload hx hb dL_adds_36 (lv_at hl 6 rfl) ?_
    refine lv_iadd hx hb dL_adds_38 ?_
    obtain ⟨r25, hq24, hf⟩ := z_b hf
    refine z_ci hW (z_runSL (As := [.ref b, .int ((1 : Int32) + l6)]) (rest := []) B hW HL zv_L_9 (K_L_cell hq24) rfl rfl (Nat.le_of_ble_eq_true rfl) hl.1 ⟨Nat.le_of_ble_eq_true rfl, Nat.le_of_ble_eq_true rfl⟩ dL_adds_39 ⟨Nat.le_of_ble_eq_true rfl, Nat.le_of_ble_eq_true rfl⟩) (fun H locs hW => ?_)
    refine lv_iload_n hx hb dL_adds_42 rfl (lv_at hl 3 rfl) ?_
    obtain ⟨r27, hq26, hf⟩ := z_b hf
    refine z_ci hW (z_runS (As := [.int r25, .int l3]) (rest := []) B hW zv_L_15 (K_L_up hq26) rfl rfl (Nat.le_of_ble_eq_true rfl) hl.1 ⟨Nat.le_of_ble_eq_true rfl, Nat.le_of_ble_eq_true rfl⟩ dL_adds_43 ⟨Nat.le_of_ble_eq_true rfl, Nat.le_of_ble_eq_true rfl⟩) (fun H locs hW => ?_)
    refine lv_istore (lv' := [(7, .int r27), (0, .ref l0), (1, .ref l1), (2, .ref b), (3, .int l3), (4, .int l4), (5, .int l5), (6, .int l6)]) hx hb dL_adds_46 hl (by decide) rfl (fun ls hl => ?_)
    refine lv_iload hx hb dL_adds_48 (lv_at hl 5 rfl) ?_
    refine lv_iload hx hb dL_adds_50 (lv_at hl 0 rfl) ?_
    refine lv_ishr hx hb dL_adds_52 ?_
    refine lv_iconst (v := (1 : Int32)) hx hb dL_adds_53 (by decide) ?_
    refine lv_iand hx hb dL_adds_54 ?_
    refine lv_if_ne (tgt := 94) hx hb dL_adds_55 (by decide) (fun hc55 => ?_) (fun hc55 => ?_)
    · replace hf := z_in hc55 hf
      exact t_L_adds_94 B HL hf hW (lv_sub hl [1, 2, 3, 4, 5, 6, 7] rfl) hk1 hr1
    · replace hf := z_ip hc55 hf
      refine lv_iload hx hb dL_adds_58 (lv_at hl 5 rfl) ?_
      refine lv_iconst (v := (1 : Int32)) hx hb dL_adds_60 (by decide) ?_
      refine lv_iload hx hb dL_adds_61 (lv_at hl 0 rfl) ?_
      refine lv_ishl hx hb dL_adds_63 ?_
      refine lv_ior hx hb dL_adds_64 ?_
      obtain ⟨x28, hx29, hf⟩ := z_l hf
      rw [hx29]
      refine lv_istore (lv' := [(4, .int x28), (7, .int r27), (0, .ref l0), (1, .ref l1), (2, .ref b), (3, .int l3), (5, .int l5), (6, .int l6)]) hx hb dL_adds_65 hl (by decide) rfl (fun ls hl => ?_)
      refine lv_iload hx hb dL_adds_67 (lv_at hl 6 rfl) ?_
      refine lv_if_eq (tgt := 91) hx hb dL_adds_69 (by decide) (fun hc69 => ?_) (fun hc69 => ?_)
      · replace hf := z_ip hc69 hf
        exact t_L_adds_91 B HL hf hW (lv_sub hl [2, 3, 4, 5, 0, 7] rfl) hk1 hr1
      · replace hf := z_in hc69 hf
        refine lv_aload_n hx hb dL_adds_72 rfl (lv_at hl 2 rfl) ?_
        refine lv_iload hx hb dL_adds_73 (lv_at hl 1 rfl) ?_
        obtain ⟨hg30, hf⟩ := z_g hf
        obtain ⟨r32, σ33, hq31, hf⟩ := z_b2 hf
        refine z_ci hW (z_runV (As := [.int r27]) (rest := []) B hW zv_L_19 (K_X9_addStation hq31) hg30 rfl rfl rfl (Nat.le_of_ble_eq_true rfl) hl.1 ⟨Nat.le_of_ble_eq_true rfl, Nat.le_of_ble_eq_true rfl⟩ dL_adds_75 ⟨Nat.le_of_ble_eq_true rfl, Nat.le_of_ble_eq_true rfl⟩) (fun H locs hW => ?_)
        refine lv_aload_n hx hb dL_adds_78 rfl (lv_at hl 3 rfl) ?_
        refine lv_iload hx hb dL_adds_79 (lv_at hl 1 rfl) ?_
        obtain ⟨hg34, hf⟩ := z_g hf
        obtain ⟨r36, σ37, hq35, hf⟩ := z_b2 hf
        refine z_ci hW (z_runV (As := [.int r27]) (rest := [.int r32]) B hW zv_L_19 (K_X9_addStation hq35) hg34 rfl rfl rfl (Nat.le_of_ble_eq_true rfl) hl.1 ⟨Nat.le_of_ble_eq_true rfl, Nat.le_of_ble_eq_true rfl⟩ dL_adds_81 ⟨Nat.le_of_ble_eq_true rfl, Nat.le_of_ble_eq_true rfl⟩) (fun H locs hW => ?_)
        refine lv_icmp_ne (tgt := 91) hx hb dL_adds_84 (by decide) (fun hc84 => ?_) (fun hc84 => ?_)
        · replace hf := z_in hc84 hf
          exact t_L_adds_91 B HL hf hW (lv_sub hl [2, 3, 4, 5, 0, 7] rfl) hk1 hr1
        · replace hf := z_ip hc84 hf
          refine lv_iconst (v := (1 : Int32)) hx hb dL_adds_87 (by decide) ?_
          refine lv_goto (tgt := 92) hx hb dL_adds_88 (by decide) ?_
          exact t_L_adds_92 B HL hf hW (lv_sub hl [2, 3, 4, 5, 0, 7] rfl) hk1 hr1
set_option maxRecDepth 20000 in
set_option maxHeartbeats 4000000 in
theorem t_L_adds_27 (B : z_B p s m args meth c D cA bs RL cL_adds 8 (some .boolean)) (HL : z_L s bs b L xs) {r : Int32} {σ' : zSt} {l0 : Nat} {l1 : Nat} {l3 : Int32}  : ∀ (n : Nat) {σ : zSt} {l4 : Int32} {l5 : Int32} {l6 : Int32}, zloop (fun (t : zSt × Int32 × Int32 × Int32) => b_L_adds_27 xs L l0 l1 l3 t.1 t.2.1 t.2.2.1 t.2.2.2) n (σ, l4, l5, l6) = some (r, σ') → ∀ {H : Heap} {locs : List Loc} {ls : Array Slot}, z_Ok D cA bs s σ H locs → lv_has ls 8 [(0, .ref l0), (1, .ref l1), (2, .ref b), (3, .int l3), (4, .int l4), (5, .int l5), (6, .int l6)] → W p l e (zrm 6 0 0 172) s m args below meth c H locs 0 0 (MQ below (z_Qi D cA bs r σ') args s 0 0 (fun q => bs ≤ q)) (F0 m 27 ls []) := by
  intro n
  induction n with
  | zero => intro σ l4 l5 l6 hf; cases hf
  | succ n ih =>
    intro σ l4 l5 l6 hf H locs ls hW hl
    obtain ⟨o1, hb1, hf⟩ := z_lp hf
    refine tb_L_adds_27 B HL hb1 hW hl  (fun σ l4 l5 l6 he H locs ls hW hl => ?_) (fun x he => ?_)
    · rcases hf with ⟨t, ht, hf⟩ | hf
      · rw [he] at ht
        cases ht
        exact ih hf hW hl
      · rw [he] at hf
        cases hf
    · rcases hf with ⟨t, ht, hf⟩ | hf
      · rw [he] at ht
        cases ht
      · rw [he] at hf
        exact Sum.inr.inj hf
set_option maxRecDepth 100000 in
def f_L_adds_17 (xs : Nat → Int32) (L : Nat) (σ : zSt) (l0 : Nat) (l1 : Nat) (s0 : Int32) : Option (Int32 × zSt) :=
(f_L_adds_27 xs L l0 l1 s0 σ (0 : Int32) (1 : Int32) (0 : Int32))
set_option maxRecDepth 20000 in
set_option maxHeartbeats 4000000 in
theorem t_L_adds_17 (B : z_B p s m args meth c D cA bs RL cL_adds 8 (some .boolean)) (HL : z_L s bs b L xs) {r : Int32} {σ' : zSt} {σ : zSt} {l0 : Nat} {l1 : Nat} {s0 : Int32} (hf : f_L_adds_17 xs L σ l0 l1 s0 = some (r, σ')) {H : Heap} {locs : List Loc} {ls : Array Slot} (hW : z_Ok D cA bs s σ H locs) (hl : lv_has ls 8 [(0, .ref l0), (1, .ref l1), (2, .ref b)])  : W p l e (zrm 6 0 0 172) s m args below meth c H locs 0 0 (MQ below (z_Qi D cA bs r σ') args s 0 0 (fun q => bs ≤ q)) (F0 m 17 ls [.int s0]) := by
  have hx := B.1
  have hb := B.2.1
  have hown := B.2.2.2.1
  have hts := B.2.2.2.2.1
  unfold f_L_adds_17 at hf
  refine lv_istore_n (lv' := [(3, .int s0), (0, .ref l0), (1, .ref l1), (2, .ref b)]) hx hb dL_adds_17 rfl hl (by decide) rfl (fun ls hl => ?_)
  refine lv_iconst (v := (0 : Int32)) hx hb dL_adds_18 (by decide) ?_
  refine lv_istore (lv' := [(4, .int (0 : Int32)), (3, .int s0), (0, .ref l0), (1, .ref l1), (2, .ref b)]) hx hb dL_adds_19 hl (by decide) rfl (fun ls hl => ?_)
  refine lv_iconst (v := (1 : Int32)) hx hb dL_adds_21 (by decide) ?_
  refine lv_istore (lv' := [(5, .int (1 : Int32)), (4, .int (0 : Int32)), (3, .int s0), (0, .ref l0), (1, .ref l1), (2, .ref b)]) hx hb dL_adds_22 hl (by decide) rfl (fun ls hl => ?_)
  refine lv_iconst (v := (0 : Int32)) hx hb dL_adds_24 (by decide) ?_
  refine lv_istore (lv' := [(6, .int (0 : Int32)), (5, .int (1 : Int32)), (4, .int (0 : Int32)), (3, .int s0), (0, .ref l0), (1, .ref l1), (2, .ref b)]) hx hb dL_adds_25 hl (by decide) rfl (fun ls hl => ?_)
  unfold f_L_adds_27 at hf
  exact t_L_adds_27 B HL  zN hf hW (lv_sub hl [4, 5, 6, 3, 2, 1, 0] rfl)
set_option maxRecDepth 100000 in
def f_L_adds (xs : Nat → Int32) (L : Nat) (σ : zSt) (l0 : Nat) (l1 : Nat) : Option (Int32 × zSt) :=
(zb (f_L_cell xs L σ (0 : Int32)) (fun r2 => (if (r2 &&& (1 : Int32)) = 0 then
(f_L_adds_17 xs L σ l0 l1 (32 : Int32))
else
(f_L_adds_17 xs L σ l0 l1 (10 : Int32)))))
set_option maxRecDepth 20000 in
set_option maxHeartbeats 4000000 in
theorem K_L_adds {σ : zSt} {l0 : Nat} {l1 : Nat} {r : Int32} {σ' : zSt} (hf : f_L_adds xs L σ l0 l1 = some (r, σ')) : z_ML l D cA bs yL_adds cL_adds 8 (some .boolean) 6 172 0 0 [.ref l0, .ref l1, .ref b] σ (z_Qi D cA bs r σ') b L xs := by
  refine z_metL (own := RL) (lv := [(0, .ref l0), (1, .ref l1), (2, .ref b)]) (by decide) rfl (Nat.le_of_ble_eq_true rfl) rfl (fun p e s m below meth c ls B HL hW hl => ?_)
  have hx := B.1
  have hb := B.2.1
  have hown := B.2.2.2.1
  have hts := B.2.2.2.2.1
  unfold f_L_adds at hf
  refine lv_aload_n hx hb dL_adds_0 rfl (lv_at hl 2 rfl) ?_
  refine lv_iconst (v := (0 : Int32)) hx hb dL_adds_1 (by decide) ?_
  obtain ⟨r2, hq1, hf⟩ := z_b hf
  refine z_ci hW (z_runSL (As := [.ref b, .int (0 : Int32)]) (rest := []) B hW HL zv_L_9 (K_L_cell hq1) rfl rfl (Nat.le_of_ble_eq_true rfl) hl.1 ⟨Nat.le_of_ble_eq_true rfl, Nat.le_of_ble_eq_true rfl⟩ dL_adds_2 ⟨Nat.le_of_ble_eq_true rfl, Nat.le_of_ble_eq_true rfl⟩) (fun H locs hW => ?_)
  refine lv_iconst (v := (1 : Int32)) hx hb dL_adds_5 (by decide) ?_
  refine lv_iand hx hb dL_adds_6 ?_
  refine lv_if_ne (tgt := 15) hx hb dL_adds_7 (by decide) (fun hc7 => ?_) (fun hc7 => ?_)
  · replace hf := z_in hc7 hf
    refine lv_bipush (v := (10 : Int32)) hx hb dL_adds_15 (by decide) ?_
    exact t_L_adds_17 B HL hf hW hl 
  · replace hf := z_ip hc7 hf
    refine lv_bipush (v := (32 : Int32)) hx hb dL_adds_10 (by decide) ?_
    refine lv_goto (tgt := 17) hx hb dL_adds_12 (by decide) ?_
    exact t_L_adds_17 B HL hf hW hl 
end GEN
