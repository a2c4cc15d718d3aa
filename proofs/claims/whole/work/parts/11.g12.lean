section GEN
variable {p : Program} {l : Launch} {e : Env} {s : State} {m : MethodId} {args : Array Value} {below : List Frame} {meth : Method} {c : Code} {D : va_G} {cA : Nat → ClassId} {bs : Nat}
set_option maxRecDepth 100000 in
def f_X10_init (σ : zSt) (l0 : Nat) : Option (zSt) :=
(zl (z_nw σ (.inr (0, 942))) (fun σ1 => (if z_ob σ1 l0 9 then (zl (z_pR σ1 l0 0 (some (z_nx σ))) (fun σ4 => (zl (z_nw σ4 (.inr (0, 3768))) (fun σ6 => (if z_ob σ6 l0 9 then (zl (z_pR σ6 l0 1 (some (z_nx σ4))) (fun σ9 => (zl (z_nw σ9 (.inr (0, 942))) (fun σ11 => (if z_ob σ11 l0 9 then (zl (z_pR σ11 l0 2 (some (z_nx σ9))) (fun σ14 => (zl (z_nw σ14 (.inr (0, 120))) (fun σ16 => (if z_ob σ16 l0 9 then (zl (z_pR σ16 l0 5 (some (z_nx σ14))) (fun σ19 => (if z_ob σ19 l0 9 then (zc (z_R σ19 l0 0) none (fun q22 => (if z_ar σ19 q22 0 then (if z_ix (0 : Int32) (z_ln σ19 q22) then (zl (z_pI σ19 q22 (0 : Int32).toNatClampNeg (60 : Int32)) (fun σ26 => (if z_ob σ26 l0 9 then (zc (z_R σ26 l0 0) none (fun q29 => (if z_ar σ26 q29 0 then (if z_ix (1 : Int32) (z_ln σ26 q29) then (zl (z_pI σ26 q29 (1 : Int32).toNatClampNeg (4 : Int32)) (fun σ33 => (if z_ob σ33 l0 9 then (zc (z_R σ33 l0 0) none (fun q36 => (if z_ar σ33 q36 0 then (if z_ix (2 : Int32) (z_ln σ33 q36) then (zl (z_pI σ33 q36 (2 : Int32).toNatClampNeg (3 : Int32)) (fun σ40 => (if z_ob σ40 l0 9 then (zc (z_R σ40 l0 0) none (fun q43 => (if z_ar σ40 q43 0 then (if z_ix (4 : Int32) (z_ln σ40 q43) then (zl (z_pI σ40 q43 (4 : Int32).toNatClampNeg (-1 : Int32)) (fun σ47 => (some σ47))) else none) else none))) else none))) else none) else none))) else none))) else none) else none))) else none))) else none) else none))) else none))) else none))))) else none))))) else none))))) else none)))
set_option maxRecDepth 20000 in
set_option maxHeartbeats 4000000 in
theorem K_X10_init {σ : zSt} {l0 : Nat}  {σ' : zSt} (hf : f_X10_init σ l0 = some σ') : z_M l D cA bs yX10_init cX10_init 1 none 1 25 4 5772 [.ref l0] σ (z_Qv D cA bs σ') := by
  refine z_met (own := RX10) (lv := [(0, .ref l0)]) (by decide) rfl (Nat.le_of_ble_eq_true rfl) rfl (fun p e s m below meth c ls B hnm hW hl => ?_)
  have hx := B.1
  have hb := B.2.1
  have hown := B.2.2.2.1
  have hts := B.2.2.2.2.1
  unfold f_X10_init at hf
  refine lv_aload_n hx hb dX10_init_0 rfl (lv_at hl 0 rfl) ?_
  refine W.objInit hx hb hown (hts _ zoi_X10_1) (hts _ zoi_a) (hts _ zoi_b) rfl (by rw [B.2.2.1]; exact hl.1) rfl dX10_init_1 (Nat.le_of_ble_eq_true rfl) (Nat.le_of_ble_eq_true rfl) ?_
  refine W.eq (g2 := F0 m 4 ls []) rfl ?_
  refine lv_aload_n hx hb dX10_init_4 rfl (lv_at hl 0 rfl) ?_
  refine lv_sipush (v := (942 : Int32)) hx hb dX10_init_5 (by decide) ?_
  obtain ⟨σ1, hs2, hf⟩ := z_l hf
  refine z_newA (atype := .int) B hW (by decide) zac_int (N := 942) (by decide) (by decide) (by decide) hs2 (Nat.le_of_ble_eq_true rfl) (Nat.le_of_ble_eq_true rfl) dX10_init_8 (fun H hW => ?_)
  obtain ⟨hg3, hf⟩ := z_g hf
  obtain ⟨σ4, hs5, hf⟩ := z_l hf
  refine z_putRF B hnm hW zf_X10_7 (fun C T h => by cases h; rfl) rfl hg3 (v := (some (z_nx σ))) hs5 dX10_init_10 (fun H locs hW => ?_)
  refine lv_aload_n hx hb dX10_init_13 rfl (lv_at hl 0 rfl) ?_
  refine lv_sipush (v := (3768 : Int32)) hx hb dX10_init_14 (by decide) ?_
  obtain ⟨σ6, hs7, hf⟩ := z_l hf
  refine z_newA (atype := .int) B hW (by decide) zac_int (N := 3768) (by decide) (by decide) (by decide) hs7 (Nat.le_of_ble_eq_true rfl) (Nat.le_of_ble_eq_true rfl) dX10_init_17 (fun H hW => ?_)
  obtain ⟨hg8, hf⟩ := z_g hf
  obtain ⟨σ9, hs10, hf⟩ := z_l hf
  refine z_putRF B hnm hW zf_X10_13 (fun C T h => by cases h; rfl) rfl hg8 (v := (some (z_nx σ4))) hs10 dX10_init_19 (fun H locs hW => ?_)
  refine lv_aload_n hx hb dX10_init_22 rfl (lv_at hl 0 rfl) ?_
  refine lv_sipush (v := (942 : Int32)) hx hb dX10_init_23 (by decide) ?_
  obtain ⟨σ11, hs12, hf⟩ := z_l hf
  refine z_newA (atype := .int) B hW (by decide) zac_int (N := 942) (by decide) (by decide) (by decide) hs12 (Nat.le_of_ble_eq_true rfl) (Nat.le_of_ble_eq_true rfl) dX10_init_26 (fun H hW => ?_)
  obtain ⟨hg13, hf⟩ := z_g hf
  obtain ⟨σ14, hs15, hf⟩ := z_l hf
  refine z_putRF B hnm hW zf_X10_16 (fun C T h => by cases h; rfl) rfl hg13 (v := (some (z_nx σ9))) hs15 dX10_init_28 (fun H locs hW => ?_)
  refine lv_aload_n hx hb dX10_init_31 rfl (lv_at hl 0 rfl) ?_
  refine lv_bipush (v := (120 : Int32)) hx hb dX10_init_32 (by decide) ?_
  obtain ⟨σ16, hs17, hf⟩ := z_l hf
  refine z_newA (atype := .int) B hW (by decide) zac_int (N := 120) (by decide) (by decide) (by decide) hs17 (Nat.le_of_ble_eq_true rfl) (Nat.le_of_ble_eq_true rfl) dX10_init_34 (fun H hW => ?_)
  obtain ⟨hg18, hf⟩ := z_g hf
  obtain ⟨σ19, hs20, hf⟩ := z_l hf
  refine z_putRF B hnm hW zf_X10_19 (fun C T h => by cases h; rfl) rfl hg18 (v := (some (z_nx σ14))) hs20 dX10_init_36 (fun H locs hW => ?_)
  refine lv_aload_n hx hb dX10_init_39 rfl (lv_at hl 0 rfl) ?_
  obtain ⟨hg21, hf⟩ := z_g hf
  obtain ⟨q22, hv23, hf⟩ := z_nn hf
  refine z_getN B hW (Or.inr zf_X10_7) rfl hg21 hv23 dX10_init_40 ?_
  refine lv_iconst (v := (0 : Int32)) hx hb dX10_init_43 (by decide) ?_
  refine lv_bipush (v := (60 : Int32)) hx hb dX10_init_44 (by decide) ?_
  obtain ⟨hg24, hf⟩ := z_g hf
  obtain ⟨hg25, hf⟩ := z_g hf
  obtain ⟨σ26, hs27, hf⟩ := z_l hf
  refine z_ast B hW hg24 hg25 hs27 dX10_init_46 (fun H locs hW => ?_)
  refine lv_aload_n hx hb dX10_init_47 rfl (lv_at hl 0 rfl) ?_
  obtain ⟨hg28, hf⟩ := z_g hf
  obtain ⟨q29, hv30, hf⟩ := z_nn hf
  refine z_getN B hW (Or.inr zf_X10_7) rfl hg28 hv30 dX10_init_48 ?_
  refine lv_iconst (v := (1 : Int32)) hx hb dX10_init_51 (by decide) ?_
  refine lv_iconst (v := (4 : Int32)) hx hb dX10_init_52 (by decide) ?_
  obtain ⟨hg31, hf⟩ := z_g hf
  obtain ⟨hg32, hf⟩ := z_g hf
  obtain ⟨σ33, hs34, hf⟩ := z_l hf
  refine z_ast B hW hg31 hg32 hs34 dX10_init_53 (fun H locs hW => ?_)
  refine lv_aload_n hx hb dX10_init_54 rfl (lv_at hl 0 rfl) ?_
  obtain ⟨hg35, hf⟩ := z_g hf
  obtain ⟨q36, hv37, hf⟩ := z_nn hf
  refine z_getN B hW (Or.inr zf_X10_7) rfl hg35 hv37 dX10_init_55 ?_
  refine lv_iconst (v := (2 : Int32)) hx hb dX10_init_58 (by decide) ?_
  refine lv_iconst (v := (3 : Int32)) hx hb dX10_init_59 (by decide) ?_
  obtain ⟨hg38, hf⟩ := z_g hf
  obtain ⟨hg39, hf⟩ := z_g hf
  obtain ⟨σ40, hs41, hf⟩ := z_l hf
  refine z_ast B hW hg38 hg39 hs41 dX10_init_60 (fun H locs hW => ?_)
  refine lv_aload_n hx hb dX10_init_61 rfl (lv_at hl 0 rfl) ?_
  obtain ⟨hg42, hf⟩ := z_g hf
  obtain ⟨q43, hv44, hf⟩ := z_nn hf
  refine z_getN B hW (Or.inr zf_X10_7) rfl hg42 hv44 dX10_init_62 ?_
  refine lv_iconst (v := (4 : Int32)) hx hb dX10_init_65 (by decide) ?_
  refine lv_iconst (v := (-1 : Int32)) hx hb dX10_init_66 (by decide) ?_
  obtain ⟨hg45, hf⟩ := z_g hf
  obtain ⟨hg46, hf⟩ := z_g hf
  obtain ⟨σ47, hs48, hf⟩ := z_l hf
  refine z_ast B hW hg45 hg46 hs48 dX10_init_67 (fun H locs hW => ?_)
  obtain rfl := z_e1 hf
  exact z_rv B hW dX10_init_68 (Nat.le_of_ble_eq_true rfl) (Nat.le_of_ble_eq_true rfl)
set_option maxRecDepth 100000 in
def f_X10_thrown (σ : zSt) (l0 : Nat) : Option (Int32) :=
(if z_ob σ l0 9 then (some (z_I σ l0 4)) else none)
set_option maxRecDepth 20000 in
set_option maxHeartbeats 4000000 in
theorem K_X10_thrown {σ : zSt} {l0 : Nat} {r : Int32} (hf : f_X10_thrown σ l0 = some r) : z_M l D cA bs yX10_thrown cX10_thrown 1 (some .int) 0 0 0 0 [.ref l0] σ (z_Qi D cA bs r σ) := by
  refine z_met (own := RX10) (lv := [(0, .ref l0)]) (by decide) rfl (Nat.le_of_ble_eq_true rfl) rfl (fun p e s m below meth c ls B hnm hW hl => ?_)
  have hx := B.1
  have hb := B.2.1
  have hown := B.2.2.2.1
  have hts := B.2.2.2.2.1
  unfold f_X10_thrown at hf
  refine lv_aload_n hx hb dX10_thrown_0 rfl (lv_at hl 0 rfl) ?_
  obtain ⟨hg1, hf⟩ := z_g hf
  refine z_getI B hW (Or.inl zf_X10_22) rfl hg1 dX10_thrown_1 ?_
  obtain rfl := z_e1 hf
  exact z_ri B hW dX10_thrown_4 (Nat.le_of_ble_eq_true rfl) (Nat.le_of_ble_eq_true rfl)
set_option maxRecDepth 100000 in
def f_X10_in_18 (σ : zSt) (s0 : Int32) : Option (Int32) :=
(if z_bl s0 then (some s0) else none)
set_option maxRecDepth 20000 in
set_option maxHeartbeats 4000000 in
theorem t_X10_in_18 (B : z_B p s m args meth c D cA bs RX10 cX10_in 6 (some .boolean)) {r : Int32} {σ : zSt} {s0 : Int32} (hf : f_X10_in_18 σ s0 = some r) {H : Heap} {locs : List Loc} {ls : Array Slot} (hW : z_Ok D cA bs s σ H locs) (hl : lv_has ls 6 [])  : W p l e (zrm 0 0 0 0) s m args below meth c H locs 0 0 (MQ below (z_Qi D cA bs r σ) args s 0 0 (fun q => bs ≤ q)) (F0 m 18 ls [.int s0]) := by
  have hx := B.1
  have hb := B.2.1
  have hown := B.2.2.2.1
  have hts := B.2.2.2.2.1
  unfold f_X10_in_18 at hf
  obtain ⟨hg1, hf⟩ := z_g hf
  obtain rfl := z_e1 hf
  exact z_rz hg1 B hW dX10_in_18 (Nat.le_of_ble_eq_true rfl) (Nat.le_of_ble_eq_true rfl)
set_option maxRecDepth 100000 in
def f_X10_in_17 (σ : zSt) : Option (Int32) :=
(f_X10_in_18 σ (0 : Int32))
set_option maxRecDepth 20000 in
set_option maxHeartbeats 4000000 in
theorem t_X10_in_17 (B : z_B p s m args meth c D cA bs RX10 cX10_in 6 (some .boolean)) {r : Int32} {σ : zSt} (hf : f_X10_in_17 σ = some r) {H : Heap} {locs : List Loc} {ls : Array Slot} (hW : z_Ok D cA bs s σ H locs) (hl : lv_has ls 6 [])  : W p l e (zrm 0 0 0 0) s m args below meth c H locs 0 0 (MQ below (z_Qi D cA bs r σ) args s 0 0 (fun q => bs ≤ q)) (F0 m 17 ls []) := by
  have hx := B.1
  have hb := B.2.1
  have hown := B.2.2.2.1
  have hts := B.2.2.2.2.1
  unfold f_X10_in_17 at hf
  refine lv_iconst (v := (0 : Int32)) hx hb dX10_in_17 (by decide) ?_
  exact t_X10_in_18 B hf hW hl 
set_option maxRecDepth 100000 in
def f_X10_in (σ : zSt) (l0 : Int64) (l2 : Int64) (l4 : Int64) : Option (Int32) :=
(if (lg_cmp l0 l2) < 0 then
(f_X10_in_17 σ)
else
(if 0 < (lg_cmp l0 l4) then
(f_X10_in_17 σ)
else
(f_X10_in_18 σ (1 : Int32))))
set_option maxRecDepth 20000 in
set_option maxHeartbeats 4000000 in
theorem K_X10_in {σ : zSt} {l0 : Int64} {l2 : Int64} {l4 : Int64} {r : Int32} (hf : f_X10_in σ l0 l2 l4 = some r) : z_M l D cA bs yX10_in cX10_in 6 (some .boolean) 0 0 0 0 [.long l0, .long l2, .long l4] σ (z_Qi D cA bs r σ) := by
  refine z_met (own := RX10) (lv := [(0, .long l0), (2, .long l2), (4, .long l4)]) (by decide) rfl (Nat.le_of_ble_eq_true rfl) rfl (fun p e s m below meth c ls B hnm hW hl => ?_)
  have hx := B.1
  have hb := B.2.1
  have hown := B.2.2.2.1
  have hts := B.2.2.2.2.1
  unfold f_X10_in at hf
  refine lv_lload_n hx hb dX10_in_0 rfl (lv_at hl 0 rfl) ?_
  refine lv_lload_n hx hb dX10_in_1 rfl (lv_at hl 1 rfl) ?_
  refine W.lcmp hx hb dX10_in_2 ?_
  refine lv_if_lt (tgt := 17) hx hb dX10_in_3 (by decide) (fun hc3 => ?_) (fun hc3 => ?_)
  · replace hf := z_ip hc3 hf
    exact t_X10_in_17 B hf hW (lv_sub hl [] rfl) 
  · replace hf := z_in hc3 hf
    refine lv_lload_n hx hb dX10_in_6 rfl (lv_at hl 0 rfl) ?_
    refine lv_lload hx hb dX10_in_7 (lv_at hl 2 rfl) ?_
    refine W.lcmp hx hb dX10_in_9 ?_
    refine lv_if_gt (tgt := 17) hx hb dX10_in_10 (by decide) (fun hc10 => ?_) (fun hc10 => ?_)
    · replace hf := z_ip hc10 hf
      exact t_X10_in_17 B hf hW (lv_sub hl [] rfl) 
    · replace hf := z_in hc10 hf
      refine lv_iconst (v := (1 : Int32)) hx hb dX10_in_13 (by decide) ?_
      refine lv_goto (tgt := 18) hx hb dX10_in_14 (by decide) ?_
      exact t_X10_in_18 B hf hW (lv_sub hl [] rfl) 
set_option maxRecDepth 100000 in
def f_X10_goes_41 (σ : zSt) (s0 : Int32) : Option (Int32 × zSt) :=
(if z_bl s0 then (some (s0, σ)) else none)
set_option maxRecDepth 20000 in
set_option maxHeartbeats 4000000 in
theorem t_X10_goes_41 (B : z_B p s m args meth c D cA bs RX10 cX10_goes 4 (some .boolean)) {r : Int32} {σ' : zSt} {σ : zSt} {s0 : Int32} (hf : f_X10_goes_41 σ s0 = some (r, σ')) {H : Heap} {locs : List Loc} {ls : Array Slot} (hW : z_Ok D cA bs s σ H locs) (hl : lv_has ls 4 [])  : W p l e (zrm 0 0 0 0) s m args below meth c H locs 0 0 (MQ below (z_Qi D cA bs r σ') args s 0 0 (fun q => bs ≤ q)) (F0 m 41 ls [.int s0]) := by
  have hx := B.1
  have hb := B.2.1
  have hown := B.2.2.2.1
  have hts := B.2.2.2.2.1
  unfold f_X10_goes_41 at hf
  obtain ⟨hg1, hf⟩ := z_g hf
  obtain ⟨rfl, rfl⟩ := z_e2 hf
  exact z_rz hg1 B hW dX10_goes_41 (Nat.le_of_ble_eq_true rfl) (Nat.le_of_ble_eq_true rfl)
set_option maxRecDepth 100000 in
def f_X10_goes_26 (σ : zSt) (l0 : Nat) (s0 : Int32) (s1 : Option Nat) : Option (Int32 × zSt) :=
(zc s1 none (fun a1 => (if z_ob σ a1 9 then (zl (z_pI σ a1 4 s0) (fun σ4 => (if z_ob σ4 l0 9 then (if (z_I σ4 l0 4) = 0 then
(f_X10_goes_41 σ4 (1 : Int32))
else
(f_X10_goes_41 σ4 (0 : Int32))) else none))) else none)))
set_option maxRecDepth 20000 in
set_option maxHeartbeats 4000000 in
theorem t_X10_goes_26 (B : z_B p s m args meth c D cA bs RX10 cX10_goes 4 (some .boolean)) {r : Int32} {σ' : zSt} {σ : zSt} {l0 : Nat} {s0 : Int32} {s1 : Option Nat} (hf : f_X10_goes_26 σ l0 s0 s1 = some (r, σ')) {H : Heap} {locs : List Loc} {ls : Array Slot} (hW : z_Ok D cA bs s σ H locs) (hl : lv_has ls 4 [(0, .ref l0)])  : W p l e (zrm 0 0 0 0) s m args below meth c H locs 0 0 (MQ below (z_Qi D cA bs r σ') args s 0 0 (fun q => bs ≤ q)) (F0 m 26 ls [.int s0, va_rf s1]) := by
  have hx := B.1
  have hb := B.2.1
  have hown := B.2.2.2.1
  have hts := B.2.2.2.2.1
  unfold f_X10_goes_26 at hf
  obtain ⟨a1, hn2, hf⟩ := z_nn hf
  subst hn2
  obtain ⟨hg3, hf⟩ := z_g hf
  obtain ⟨σ4, hs5, hf⟩ := z_l hf
  refine z_putI B hW zf_X10_22 hg3 rfl hs5 dX10_goes_26 (fun H locs hW => ?_)
  refine lv_aload_n hx hb dX10_goes_29 rfl (lv_at hl 0 rfl) ?_
  obtain ⟨hg6, hf⟩ := z_g hf
  refine z_getI B hW (Or.inl zf_X10_22) rfl hg6 dX10_goes_30 ?_
  refine lv_if_ne (tgt := 40) hx hb dX10_goes_33 (by decide) (fun hc33 => ?_) (fun hc33 => ?_)
  · replace hf := z_in hc33 hf
    refine lv_iconst (v := (0 : Int32)) hx hb dX10_goes_40 (by decide) ?_
    exact t_X10_goes_41 B hf hW (lv_sub hl [] rfl) 
  · replace hf := z_ip hc33 hf
    refine lv_iconst (v := (1 : Int32)) hx hb dX10_goes_36 (by decide) ?_
    refine lv_goto (tgt := 41) hx hb dX10_goes_37 (by decide) ?_
    exact t_X10_goes_41 B hf hW (lv_sub hl [] rfl) 
set_option maxRecDepth 100000 in
def f_X10_goes (σ : zSt) (l0 : Nat) (l1 : Int32) (l2 : Int32) (l3 : Int32) : Option (Int32 × zSt) :=
(if l1 = 0 then
(f_X10_goes_26 σ l0 (1 : Int32) (some l0))
else
(if l2 = 0 then
(f_X10_goes_26 σ l0 (2 : Int32) (some l0))
else
(if l3 = 0 then
(f_X10_goes_26 σ l0 (3 : Int32) (some l0))
else
(f_X10_goes_26 σ l0 (0 : Int32) (some l0)))))
set_option maxRecDepth 20000 in
set_option maxHeartbeats 4000000 in
theorem K_X10_goes {σ : zSt} {l0 : Nat} {l1 : Int32} {l2 : Int32} {l3 : Int32} {r : Int32} {σ' : zSt} (hf : f_X10_goes σ l0 l1 l2 l3 = some (r, σ')) : z_M l D cA bs yX10_goes cX10_goes 4 (some .boolean) 0 0 0 0 [.ref l0, .int l1, .int l2, .int l3] σ (z_Qi D cA bs r σ') := by
  refine z_met (own := RX10) (lv := [(0, .ref l0), (1, .int l1), (2, .int l2), (3, .int l3)]) (by decide) rfl (Nat.le_of_ble_eq_true rfl) rfl (fun p e s m below meth c ls B hnm hW hl => ?_)
  have hx := B.1
  have hb := B.2.1
  have hown := B.2.2.2.1
  have hts := B.2.2.2.2.1
  unfold f_X10_goes at hf
  refine lv_aload_n hx hb dX10_goes_0 rfl (lv_at hl 0 rfl) ?_
  refine lv_iload_n hx hb dX10_goes_1 rfl (lv_at hl 1 rfl) ?_
  refine lv_if_ne (tgt := 9) hx hb dX10_goes_2 (by decide) (fun hc2 => ?_) (fun hc2 => ?_)
  · replace hf := z_in hc2 hf
    refine lv_iload_n hx hb dX10_goes_9 rfl (lv_at hl 2 rfl) ?_
    refine lv_if_ne (tgt := 17) hx hb dX10_goes_10 (by decide) (fun hc10 => ?_) (fun hc10 => ?_)
    · replace hf := z_in hc10 hf
      refine lv_iload_n hx hb dX10_goes_17 rfl (lv_at hl 3 rfl) ?_
      refine lv_if_ne (tgt := 25) hx hb dX10_goes_18 (by decide) (fun hc18 => ?_) (fun hc18 => ?_)
      · replace hf := z_in hc18 hf
        refine lv_iconst (v := (0 : Int32)) hx hb dX10_goes_25 (by decide) ?_
        exact t_X10_goes_26 B hf hW (lv_sub hl [0] rfl) 
      · replace hf := z_ip hc18 hf
        refine lv_iconst (v := (3 : Int32)) hx hb dX10_goes_21 (by decide) ?_
        refine lv_goto (tgt := 26) hx hb dX10_goes_22 (by decide) ?_
        exact t_X10_goes_26 B hf hW (lv_sub hl [0] rfl) 
    · replace hf := z_ip hc10 hf
      refine lv_iconst (v := (2 : Int32)) hx hb dX10_goes_13 (by decide) ?_
      refine lv_goto (tgt := 26) hx hb dX10_goes_14 (by decide) ?_
      exact t_X10_goes_26 B hf hW (lv_sub hl [0] rfl) 
  · replace hf := z_ip hc2 hf
    refine lv_iconst (v := (1 : Int32)) hx hb dX10_goes_5 (by decide) ?_
    refine lv_goto (tgt := 26) hx hb dX10_goes_6 (by decide) ?_
    exact t_X10_goes_26 B hf hW (lv_sub hl [0] rfl) 
set_option maxRecDepth 100000 in
def b_X10_save_51 (l0 : Nat) (σ : zSt) (l1 : Int32) : Option ((zSt × Int32) ⊕ (zSt)) :=
(if (942 : Int32) ≤ l1 then
(zex (if z_ob σ l0 9 then (zl (z_pI σ l0 3 ((z_I σ l0 3) + (1 : Int32))) (fun σ2 => (some σ2))) else none))
else
(if z_ob σ l0 9 then (zc (z_R σ l0 1) none (fun q6 => (zc (z_R σ l0 0) none (fun q8 => (if z_ar σ q8 0 then (if z_ix l1 (z_ln σ q8) then (if z_ar σ q6 0 then (if z_ix (((942 : Int32) * (z_I σ l0 3)) + l1) (z_ln σ q6) then (zl (z_pI σ q6 (((942 : Int32) * (z_I σ l0 3)) + l1).toNatClampNeg (z_I σ q8 l1.toNatClampNeg)) (fun σ14 => (some (.inl (σ14, (l1 + (1 : Int32))))))) else none) else none) else none) else none))))) else none))
set_option maxRecDepth 100000 in
def f_X10_save_51 (l0 : Nat) (σ : zSt) (l1 : Int32) : Option (zSt) := zloop (fun (t : zSt × Int32) => b_X10_save_51 l0 t.1 t.2) zN (σ, l1)
set_option maxRecDepth 20000 in
set_option maxHeartbeats 4000000 in
theorem tb_X10_save_51 (B : z_B p s m args meth c D cA bs RX10 cX10_save 2 none)  {σ' : zSt} {o1 : (zSt × Int32) ⊕ (zSt)} {l0 : Nat} {σ : zSt} {l1 : Int32} (hf : b_X10_save_51 l0 σ l1 = some o1) {H : Heap} {locs : List Loc} {ls : Array Slot} (hW : z_Ok D cA bs s σ H locs) (hl : lv_has ls 2 [(0, .ref l0), (1, .int l1)]) (hk1 : ∀ (σ : zSt) (l1 : Int32), o1 = .inl (σ, l1) → ∀ {H : Heap} {locs : List Loc} {ls : Array Slot}, z_Ok D cA bs s σ H locs → lv_has ls 2 [(0, .ref l0), (1, .int l1)] → W p l e (zrm 0 0 0 0) s m args below meth c H locs 0 0 (MQ below (z_Qv D cA bs σ') args s 0 0 (fun q => bs ≤ q)) (F0 m 51 ls [])) (hr1 : ∀ x, o1 = .inr x → x = σ') : W p l e (zrm 0 0 0 0) s m args below meth c H locs 0 0 (MQ below (z_Qv D cA bs σ') args s 0 0 (fun q => bs ≤ q)) (F0 m 51 ls []) := by
  have hx := B.1
  have hb := B.2.1
  have hown := B.2.2.2.1
  have hts := B.2.2.2.2.1
  unfold b_X10_save_51 at hf
  refine lv_iload_n hx hb dX10_save_51 rfl (lv_at hl 1 rfl) ?_
  refine lv_sipush (v := (942 : Int32)) hx hb dX10_save_52 (by decide) ?_
  refine lv_icmp_ge (tgt := 85) hx hb dX10_save_55 (by decide) (fun hc55 => ?_) (fun hc55 => ?_)
  · replace hf := z_ip hc55 hf
    obtain ⟨w1, hf, ho4⟩ := z_x hf
    obtain rfl := hr1 _ ho4
    refine lv_aload_n hx hb dX10_save_85 rfl (lv_at hl 0 rfl) ?_
    refine lv_dup hx hb dX10_save_86 rfl ?_
    obtain ⟨hg1, hf⟩ := z_g hf
    refine z_getI B hW (Or.inl zf_X10_26) rfl hg1 dX10_save_87 ?_
    refine lv_iconst (v := (1 : Int32)) hx hb dX10_save_90 (by decide) ?_
    refine lv_iadd hx hb dX10_save_91 ?_
    obtain ⟨σ2, hs3, hf⟩ := z_l hf
    refine z_putI B hW zf_X10_26 hg1 rfl hs3 dX10_save_92 (fun H locs hW => ?_)
    obtain rfl := z_e1 hf
    exact z_rv B hW dX10_save_95 (Nat.le_of_ble_eq_true rfl) (Nat.le_of_ble_eq_true rfl)
  · replace hf := z_in hc55 hf
    refine lv_aload_n hx hb dX10_save_58 rfl (lv_at hl 0 rfl) ?_
    obtain ⟨hg5, hf⟩ := z_g hf
    obtain ⟨q6, hv7, hf⟩ := z_nn hf
    refine z_getN B hW (Or.inr zf_X10_13) rfl hg5 hv7 dX10_save_59 ?_
    refine lv_sipush (v := (942 : Int32)) hx hb dX10_save_62 (by decide) ?_
    refine lv_aload_n hx hb dX10_save_65 rfl (lv_at hl 0 rfl) ?_
    refine z_getI B hW (Or.inl zf_X10_26) rfl hg5 dX10_save_66 ?_
    refine lv_imul hx hb dX10_save_69 ?_
    refine lv_iload_n hx hb dX10_save_70 rfl (lv_at hl 1 rfl) ?_
    refine lv_iadd hx hb dX10_save_71 ?_
    refine lv_aload_n hx hb dX10_save_72 rfl (lv_at hl 0 rfl) ?_
    obtain ⟨q8, hv9, hf⟩ := z_nn hf
    refine z_getN B hW (Or.inr zf_X10_7) rfl hg5 hv9 dX10_save_73 ?_
    refine lv_iload_n hx hb dX10_save_76 rfl (lv_at hl 1 rfl) ?_
    obtain ⟨hg10, hf⟩ := z_g hf
    obtain ⟨hg11, hf⟩ := z_g hf
    refine z_ald B hW hg10 hg11 dX10_save_77 ?_
    obtain ⟨hg12, hf⟩ := z_g hf
    obtain ⟨hg13, hf⟩ := z_g hf
    obtain ⟨σ14, hs15, hf⟩ := z_l hf
    refine z_ast B hW hg12 hg13 hs15 dX10_save_78 (fun H locs hW => ?_)
    refine lv_iinc (v := (l1 + (1 : Int32))) (lv' := [(1, .int (l1 + (1 : Int32))), (0, .ref l0)]) hx hb dX10_save_79 hl (k := 1) rfl rfl (by decide) rfl (fun ls hl => ?_)
    refine lv_goto (tgt := 51) hx hb dX10_save_82 (by decide) ?_
    exact hk1 _ _ (Option.some.inj hf).symm hW (lv_sub hl [1, 0] rfl)
set_option maxRecDepth 20000 in
set_option maxHeartbeats 4000000 in
theorem t_X10_save_51 (B : z_B p s m args meth c D cA bs RX10 cX10_save 2 none)  {σ' : zSt} {l0 : Nat}  : ∀ (n : Nat) {σ : zSt} {l1 : Int32}, zloop (fun (t : zSt × Int32) => b_X10_save_51 l0 t.1 t.2) n (σ, l1) = some σ' → ∀ {H : Heap} {locs : List Loc} {ls : Array Slot}, z_Ok D cA bs s σ H locs → lv_has ls 2 [(0, .ref l0), (1, .int l1)] → W p l e (zrm 0 0 0 0) s m args below meth c H locs 0 0 (MQ below (z_Qv D cA bs σ') args s 0 0 (fun q => bs ≤ q)) (F0 m 51 ls []) := by
  intro n
  induction n with
  | zero => intro σ l1 hf; cases hf
  | succ n ih =>
    intro σ l1 hf H locs ls hW hl
    obtain ⟨o1, hb1, hf⟩ := z_lp hf
    refine tb_X10_save_51 B hb1 hW hl  (fun σ l1 he H locs ls hW hl => ?_) (fun x he => ?_)
    · rcases hf with ⟨t, ht, hf⟩ | hf
      · rw [he] at ht
        cases ht
        exact ih hf hW hl
      · rw [he] at hf
        cases hf
    · rcases hf with ⟨t, ht, hf⟩ | hf
      · rw [he] at ht
        cases ht
      · rw [he] at hf
        exact Sum.inr.inj hf
set_option maxRecDepth 100000 in
def f_X10_save_49 (σ : zSt) (l0 : Nat) : Option (zSt) :=
(f_X10_save_51 l0 σ (0 : Int32))
set_option maxRecDepth 20000 in
set_option maxHeartbeats 4000000 in
theorem t_X10_save_49 (B : z_B p s m args meth c D cA bs RX10 cX10_save 2 none)  {σ' : zSt} {σ : zSt} {l0 : Nat} (hf : f_X10_save_49 σ l0 = some σ') {H : Heap} {locs : List Loc} {ls : Array Slot} (hW : z_Ok D cA bs s σ H locs) (hl : lv_has ls 2 [(0, .ref l0)])  : W p l e (zrm 0 0 0 0) s m args below meth c H locs 0 0 (MQ below (z_Qv D cA bs σ') args s 0 0 (fun q => bs ≤ q)) (F0 m 49 ls []) := by
  have hx := B.1
  have hb := B.2.1
  have hown := B.2.2.2.1
  have hts := B.2.2.2.2.1
  unfold f_X10_save_49 at hf
  refine lv_iconst (v := (0 : Int32)) hx hb dX10_save_49 (by decide) ?_
  refine lv_istore_n (lv' := [(1, .int (0 : Int32)), (0, .ref l0)]) hx hb dX10_save_50 rfl hl (by decide) rfl (fun ls hl => ?_)
  unfold f_X10_save_51 at hf
  exact t_X10_save_51 B  zN hf hW (lv_sub hl [1, 0] rfl)
set_option maxRecDepth 100000 in
def b_X10_save_10 (l0 : Nat) (σ : zSt) (l1 : Int32) : Option ((zSt × Int32) ⊕ (zSt)) :=
(if (2826 : Int32) ≤ l1 then
(zex (if z_ob σ l0 9 then (zl (z_pI σ l0 3 ((z_I σ l0 3) - (1 : Int32))) (fun σ2 => (f_X10_save_49 σ2 l0))) else none))
else
(if z_ob σ l0 9 then (zc (z_R σ l0 1) none (fun q6 => (zc (z_R σ l0 1) none (fun q8 => (if z_ar σ q8 0 then (if z_ix (l1 + (942 : Int32)) (z_ln σ q8) then (if z_ar σ q6 0 then (if z_ix l1 (z_ln σ q6) then (zl (z_pI σ q6 l1.toNatClampNeg (z_I σ q8 (l1 + (942 : Int32)).toNatClampNeg)) (fun σ14 => (some (.inl (σ14, (l1 + (1 : Int32))))))) else none) else none) else none) else none))))) else none))
set_option maxRecDepth 100000 in
def f_X10_save_10 (l0 : Nat) (σ : zSt) (l1 : Int32) : Option (zSt) := zloop (fun (t : zSt × Int32) => b_X10_save_10 l0 t.1 t.2) zN (σ, l1)
set_option maxRecDepth 20000 in
set_option maxHeartbeats 4000000 in
theorem tb_X10_save_10 (B : z_B p s m args meth c D cA bs RX10 cX10_save 2 none)  {σ' : zSt} {o1 : (zSt × Int32) ⊕ (zSt)} {l0 : Nat} {σ : zSt} {l1 : Int32} (hf : b_X10_save_10 l0 σ l1 = some o1) {H : Heap} {locs : List Loc} {ls : Array Slot} (hW : z_Ok D cA bs s σ H locs) (hl : lv_has ls 2 [(0, .ref l0), (1, .int l1)]) (hk1 : ∀ (σ : zSt) (l1 : Int32), o1 = .inl (σ, l1) → ∀ {H : Heap} {locs : List Loc} {ls : Array Slot}, z_Ok D cA bs s σ H locs → lv_has ls 2 [(0, .ref l0), (1, .int l1)] → W p l e (zrm 0 0 0 0) s m args below meth c H locs 0 0 (MQ below (z_Qv D cA bs σ') args s 0 0 (fun q => bs ≤ q)) (F0 m 10 ls [])) (hr1 : ∀ x, o1 = .inr x → x = σ') : W p l e (zrm 0 0 0 0) s m args below meth c H locs 0 0 (MQ below (z_Qv D cA bs σ') args s 0 0 (fun q => bs ≤ q)) (F0 m 10 ls []) := by
  have hx := B.1
  have hb := B.2.1
  have hown := B.2.2.2.1
  have hts := B.2.2.2.2.1
  unfold b_X10_save_10 at hf
  refine lv_iload_n hx hb dX10_save_10 rfl (lv_at hl 1 rfl) ?_
  refine lv_sipush (v := (2826 : Int32)) hx hb dX10_save_11 (by decide) ?_
  refine lv_icmp_ge (tgt := 39) hx hb dX10_save_14 (by decide) (fun hc14 => ?_) (fun hc14 => ?_)
  · replace hf := z_ip hc14 hf
    obtain ⟨w1, hf, ho4⟩ := z_x hf
    obtain rfl := hr1 _ ho4
    refine lv_aload_n hx hb dX10_save_39 rfl (lv_at hl 0 rfl) ?_
    refine lv_dup hx hb dX10_save_40 rfl ?_
    obtain ⟨hg1, hf⟩ := z_g hf
    refine z_getI B hW (Or.inl zf_X10_26) rfl hg1 dX10_save_41 ?_
    refine lv_iconst (v := (1 : Int32)) hx hb dX10_save_44 (by decide) ?_
    refine lv_isub hx hb dX10_save_45 ?_
    obtain ⟨σ2, hs3, hf⟩ := z_l hf
    refine z_putI B hW zf_X10_26 hg1 rfl hs3 dX10_save_46 (fun H locs hW => ?_)
    exact t_X10_save_49 B hf hW (lv_sub hl [0] rfl) 
  · replace hf := z_in hc14 hf
    refine lv_aload_n hx hb dX10_save_17 rfl (lv_at hl 0 rfl) ?_
    obtain ⟨hg5, hf⟩ := z_g hf
    obtain ⟨q6, hv7, hf⟩ := z_nn hf
    refine z_getN B hW (Or.inr zf_X10_13) rfl hg5 hv7 dX10_save_18 ?_
    refine lv_iload_n hx hb dX10_save_21 rfl (lv_at hl 1 rfl) ?_
    refine lv_aload_n hx hb dX10_save_22 rfl (lv_at hl 0 rfl) ?_
    obtain ⟨q8, hv9, hf⟩ := z_nn hf
    refine z_getN B hW (Or.inr zf_X10_13) rfl hg5 hv9 dX10_save_23 ?_
    refine lv_iload_n hx hb dX10_save_26 rfl (lv_at hl 1 rfl) ?_
    refine lv_sipush (v := (942 : Int32)) hx hb dX10_save_27 (by decide) ?_
    refine lv_iadd hx hb dX10_save_30 ?_
    obtain ⟨hg10, hf⟩ := z_g hf
    obtain ⟨hg11, hf⟩ := z_g hf
    refine z_ald B hW hg10 hg11 dX10_save_31 ?_
    obtain ⟨hg12, hf⟩ := z_g hf
    obtain ⟨hg13, hf⟩ := z_g hf
    obtain ⟨σ14, hs15, hf⟩ := z_l hf
    refine z_ast B hW hg12 hg13 hs15 dX10_save_32 (fun H locs hW => ?_)
    refine lv_iinc (v := (l1 + (1 : Int32))) (lv' := [(1, .int (l1 + (1 : Int32))), (0, .ref l0)]) hx hb dX10_save_33 hl (k := 1) rfl rfl (by decide) rfl (fun ls hl => ?_)
    refine lv_goto (tgt := 10) hx hb dX10_save_36 (by decide) ?_
    exact hk1 _ _ (Option.some.inj hf).symm hW (lv_sub hl [1, 0] rfl)
set_option maxRecDepth 20000 in
set_option maxHeartbeats 4000000 in
theorem t_X10_save_10 (B : z_B p s m args meth c D cA bs RX10 cX10_save 2 none)  {σ' : zSt} {l0 : Nat}  : ∀ (n : Nat) {σ : zSt} {l1 : Int32}, zloop (fun (t : zSt × Int32) => b_X10_save_10 l0 t.1 t.2) n (σ, l1) = some σ' → ∀ {H : Heap} {locs : List Loc} {ls : Array Slot}, z_Ok D cA bs s σ H locs → lv_has ls 2 [(0, .ref l0), (1, .int l1)] → W p l e (zrm 0 0 0 0) s m args below meth c H locs 0 0 (MQ below (z_Qv D cA bs σ') args s 0 0 (fun q => bs ≤ q)) (F0 m 10 ls []) := by
  intro n
  induction n with
  | zero => intro σ l1 hf; cases hf
  | succ n ih =>
    intro σ l1 hf H locs ls hW hl
    obtain ⟨o1, hb1, hf⟩ := z_lp hf
    refine tb_X10_save_10 B hb1 hW hl  (fun σ l1 he H locs ls hW hl => ?_) (fun x he => ?_)
    · rcases hf with ⟨t, ht, hf⟩ | hf
      · rw [he] at ht
        cases ht
        exact ih hf hW hl
      · rw [he] at hf
        cases hf
    · rcases hf with ⟨t, ht, hf⟩ | hf
      · rw [he] at ht
        cases ht
      · rw [he] at hf
        exact Sum.inr.inj hf
set_option maxRecDepth 100000 in
def f_X10_save (σ : zSt) (l0 : Nat) : Option (zSt) :=
(if z_ob σ l0 9 then (if (z_I σ l0 3) = (4 : Int32) then
(f_X10_save_10 l0 σ (0 : Int32))
else
(f_X10_save_49 σ l0)) else none)
set_option maxRecDepth 20000 in
set_option maxHeartbeats 4000000 in
theorem K_X10_save {σ : zSt} {l0 : Nat}  {σ' : zSt} (hf : f_X10_save σ l0 = some σ') : z_M l D cA bs yX10_save cX10_save 2 none 0 0 0 0 [.ref l0] σ (z_Qv D cA bs σ') := by
  refine z_met (own := RX10) (lv := [(0, .ref l0)]) (by decide) rfl (Nat.le_of_ble_eq_true rfl) rfl (fun p e s m below meth c ls B hnm hW hl => ?_)
  have hx := B.1
  have hb := B.2.1
  have hown := B.2.2.2.1
  have hts := B.2.2.2.2.1
  unfold f_X10_save at hf
  refine lv_aload_n hx hb dX10_save_0 rfl (lv_at hl 0 rfl) ?_
  obtain ⟨hg1, hf⟩ := z_g hf
  refine z_getI B hW (Or.inl zf_X10_26) rfl hg1 dX10_save_1 ?_
  refine lv_iconst (v := (4 : Int32)) hx hb dX10_save_4 (by decide) ?_
  refine lv_icmp_ne (tgt := 49) hx hb dX10_save_5 (by decide) (fun hc5 => ?_) (fun hc5 => ?_)
  · replace hf := z_in hc5 hf
    exact t_X10_save_49 B hf hW hl 
  · replace hf := z_ip hc5 hf
    refine lv_iconst (v := (0 : Int32)) hx hb dX10_save_8 (by decide) ?_
    refine lv_istore_n (lv' := [(1, .int (0 : Int32)), (0, .ref l0)]) hx hb dX10_save_9 rfl hl (by decide) rfl (fun ls hl => ?_)
    unfold f_X10_save_10 at hf
    exact t_X10_save_10 B  zN hf hW (lv_sub hl [1, 0] rfl)
set_option maxRecDepth 100000 in
def b_X10_lays_2 (l0 : Nat) (σ : zSt) (l1 : Int32) : Option ((zSt × Int32) ⊕ (zSt)) :=
(if (942 : Int32) ≤ l1 then
(zex (some σ))
else
(if z_ob σ l0 9 then (zc (z_R σ l0 2) none (fun q3 => (zc (z_R σ l0 0) none (fun q5 => (if z_ar σ q5 0 then (if z_ix l1 (z_ln σ q5) then (if z_ar σ q3 0 then (if z_ix l1 (z_ln σ q3) then (zl (z_pI σ q3 l1.toNatClampNeg (z_I σ q5 l1.toNatClampNeg)) (fun σ11 => (some (.inl (σ11, (l1 + (1 : Int32))))))) else none) else none) else none) else none))))) else none))
set_option maxRecDepth 100000 in
def f_X10_lays_2 (l0 : Nat) (σ : zSt) (l1 : Int32) : Option (zSt) := zloop (fun (t : zSt × Int32) => b_X10_lays_2 l0 t.1 t.2) zN (σ, l1)
set_option maxRecDepth 20000 in
set_option maxHeartbeats 4000000 in
theorem tb_X10_lays_2 (B : z_B p s m args meth c D cA bs RX10 cX10_lays 2 none)  {σ' : zSt} {o1 : (zSt × Int32) ⊕ (zSt)} {l0 : Nat} {σ : zSt} {l1 : Int32} (hf : b_X10_lays_2 l0 σ l1 = some o1) {H : Heap} {locs : List Loc} {ls : Array Slot} (hW : z_Ok D cA bs s σ H locs) (hl : lv_has ls 2 [(0, .ref l0), (1, .int l1)]) (hk1 : ∀ (σ : zSt) (l1 : Int32), o1 = .inl (σ, l1) → ∀ {H : Heap} {locs : List Loc} {ls : Array Slot}, z_Ok D cA bs s σ H locs → lv_has ls 2 [(0, .ref l0), (1, .int l1)] → W p l e (zrm 0 0 0 0) s m args below meth c H locs 0 0 (MQ below (z_Qv D cA bs σ') args s 0 0 (fun q => bs ≤ q)) (F0 m 2 ls [])) (hr1 : ∀ x, o1 = .inr x → x = σ') : W p l e (zrm 0 0 0 0) s m args below meth c H locs 0 0 (MQ below (z_Qv D cA bs σ') args s 0 0 (fun q => bs ≤ q)) (F0 m 2 ls []) := by
  have hx := B.1
  have hb := B.2.1
  have hown := B.2.2.2.1
  have hts := B.2.2.2.2.1
  unfold b_X10_lays_2 at hf
  refine lv_iload_n hx hb dX10_lays_2 rfl (lv_at hl 1 rfl) ?_
  refine lv_sipush (v := (942 : Int32)) hx hb dX10_lays_3 (by decide) ?_
  refine lv_icmp_ge (tgt := 27) hx hb dX10_lays_6 (by decide) (fun hc6 => ?_) (fun hc6 => ?_)
  · replace hf := z_ip hc6 hf
    obtain ⟨w1, hf, ho1⟩ := z_x hf
    obtain rfl := hr1 _ ho1
    obtain rfl := z_e1 hf
    exact z_rv B hW dX10_lays_27 (Nat.le_of_ble_eq_true rfl) (Nat.le_of_ble_eq_true rfl)
  · replace hf := z_in hc6 hf
    refine lv_aload_n hx hb dX10_lays_9 rfl (lv_at hl 0 rfl) ?_
    obtain ⟨hg2, hf⟩ := z_g hf
    obtain ⟨q3, hv4, hf⟩ := z_nn hf
    refine z_getN B hW (Or.inr zf_X10_16) rfl hg2 hv4 dX10_lays_10 ?_
    refine lv_iload_n hx hb dX10_lays_13 rfl (lv_at hl 1 rfl) ?_
    refine lv_aload_n hx hb dX10_lays_14 rfl (lv_at hl 0 rfl) ?_
    obtain ⟨q5, hv6, hf⟩ := z_nn hf
    refine z_getN B hW (Or.inr zf_X10_7) rfl hg2 hv6 dX10_lays_15 ?_
    refine lv_iload_n hx hb dX10_lays_18 rfl (lv_at hl 1 rfl) ?_
    obtain ⟨hg7, hf⟩ := z_g hf
    obtain ⟨hg8, hf⟩ := z_g hf
    refine z_ald B hW hg7 hg8 dX10_lays_19 ?_
    obtain ⟨hg9, hf⟩ := z_g hf
    obtain ⟨hg10, hf⟩ := z_g hf
    obtain ⟨σ11, hs12, hf⟩ := z_l hf
    refine z_ast B hW hg9 hg10 hs12 dX10_lays_20 (fun H locs hW => ?_)
    refine lv_iinc (v := (l1 + (1 : Int32))) (lv' := [(1, .int (l1 + (1 : Int32))), (0, .ref l0)]) hx hb dX10_lays_21 hl (k := 1) rfl rfl (by decide) rfl (fun ls hl => ?_)
    refine lv_goto (tgt := 2) hx hb dX10_lays_24 (by decide) ?_
    exact hk1 _ _ (Option.some.inj hf).symm hW (lv_sub hl [1, 0] rfl)
set_option maxRecDepth 20000 in
set_option maxHeartbeats 4000000 in
theorem t_X10_lays_2 (B : z_B p s m args meth c D cA bs RX10 cX10_lays 2 none)  {σ' : zSt} {l0 : Nat}  : ∀ (n : Nat) {σ : zSt} {l1 : Int32}, zloop (fun (t : zSt × Int32) => b_X10_lays_2 l0 t.1 t.2) n (σ, l1) = some σ' → ∀ {H : Heap} {locs : List Loc} {ls : Array Slot}, z_Ok D cA bs s σ H locs → lv_has ls 2 [(0, .ref l0), (1, .int l1)] → W p l e (zrm 0 0 0 0) s m args below meth c H locs 0 0 (MQ below (z_Qv D cA bs σ') args s 0 0 (fun q => bs ≤ q)) (F0 m 2 ls []) := by
  intro n
  induction n with
  | zero => intro σ l1 hf; cases hf
  | succ n ih =>
    intro σ l1 hf H locs ls hW hl
    obtain ⟨o1, hb1, hf⟩ := z_lp hf
    refine tb_X10_lays_2 B hb1 hW hl  (fun σ l1 he H locs ls hW hl => ?_) (fun x he => ?_)
    · rcases hf with ⟨t, ht, hf⟩ | hf
      · rw [he] at ht
        cases ht
        exact ih hf hW hl
      · rw [he] at hf
        cases hf
    · rcases hf with ⟨t, ht, hf⟩ | hf
      · rw [he] at ht
        cases ht
      · rw [he] at hf
        exact Sum.inr.inj hf
set_option maxRecDepth 100000 in
def f_X10_lays (σ : zSt) (l0 : Nat) : Option (zSt) :=
(f_X10_lays_2 l0 σ (0 : Int32))
set_option maxRecDepth 20000 in
set_option maxHeartbeats 4000000 in
theorem K_X10_lays {σ : zSt} {l0 : Nat}  {σ' : zSt} (hf : f_X10_lays σ l0 = some σ') : z_M l D cA bs yX10_lays cX10_lays 2 none 0 0 0 0 [.ref l0] σ (z_Qv D cA bs σ') := by
  refine z_met (own := RX10) (lv := [(0, .ref l0)]) (by decide) rfl (Nat.le_of_ble_eq_true rfl) rfl (fun p e s m below meth c ls B hnm hW hl => ?_)
  have hx := B.1
  have hb := B.2.1
  have hown := B.2.2.2.1
  have hts := B.2.2.2.2.1
  unfold f_X10_lays at hf
  refine lv_iconst (v := (0 : Int32)) hx hb dX10_lays_0 (by decide) ?_
  refine lv_istore_n (lv' := [(1, .int (0 : Int32)), (0, .ref l0)]) hx hb dX10_lays_1 rfl hl (by decide) rfl (fun ls hl => ?_)
  unfold f_X10_lays_2 at hf
  exact t_X10_lays_2 B  zN hf hW (lv_sub hl [1, 0] rfl)
set_option maxRecDepth 100000 in
def b_X10_takesBack_2 (l0 : Nat) (σ : zSt) (l1 : Int32) : Option ((zSt × Int32) ⊕ (zSt)) :=
(if (942 : Int32) ≤ l1 then
(zex (some σ))
else
(if z_ob σ l0 9 then (zc (z_R σ l0 0) none (fun q3 => (zc (z_R σ l0 2) none (fun q5 => (if z_ar σ q5 0 then (if z_ix l1 (z_ln σ q5) then (if z_ar σ q3 0 then (if z_ix l1 (z_ln σ q3) then (zl (z_pI σ q3 l1.toNatClampNeg (z_I σ q5 l1.toNatClampNeg)) (fun σ11 => (some (.inl (σ11, (l1 + (1 : Int32))))))) else none) else none) else none) else none))))) else none))
set_option maxRecDepth 100000 in
def f_X10_takesBack_2 (l0 : Nat) (σ : zSt) (l1 : Int32) : Option (zSt) := zloop (fun (t : zSt × Int32) => b_X10_takesBack_2 l0 t.1 t.2) zN (σ, l1)
set_option maxRecDepth 20000 in
set_option maxHeartbeats 4000000 in
theorem tb_X10_takesBack_2 (B : z_B p s m args meth c D cA bs RX10 cX10_takesBack 2 none)  {σ' : zSt} {o1 : (zSt × Int32) ⊕ (zSt)} {l0 : Nat} {σ : zSt} {l1 : Int32} (hf : b_X10_takesBack_2 l0 σ l1 = some o1) {H : Heap} {locs : List Loc} {ls : Array Slot} (hW : z_Ok D cA bs s σ H locs) (hl : lv_has ls 2 [(0, .ref l0), (1, .int l1)]) (hk1 : ∀ (σ : zSt) (l1 : Int32), o1 = .inl (σ, l1) → ∀ {H : Heap} {locs : List Loc} {ls : Array Slot}, z_Ok D cA bs s σ H locs → lv_has ls 2 [(0, .ref l0), (1, .int l1)] → W p l e (zrm 0 0 0 0) s m args below meth c H locs 0 0 (MQ below (z_Qv D cA bs σ') args s 0 0 (fun q => bs ≤ q)) (F0 m 2 ls [])) (hr1 : ∀ x, o1 = .inr x → x = σ') : W p l e (zrm 0 0 0 0) s m args below meth c H locs 0 0 (MQ below (z_Qv D cA bs σ') args s 0 0 (fun q => bs ≤ q)) (F0 m 2 ls []) := by
  have hx := B.1
  have hb := B.2.1
  have hown := B.2.2.2.1
  have hts := B.2.2.2.2.1
  unfold b_X10_takesBack_2 at hf
  refine lv_iload_n hx hb dX10_takesBack_2 rfl (lv_at hl 1 rfl) ?_
  refine lv_sipush (v := (942 : Int32)) hx hb dX10_takesBack_3 (by decide) ?_
  refine lv_icmp_ge (tgt := 27) hx hb dX10_takesBack_6 (by decide) (fun hc6 => ?_) (fun hc6 => ?_)
  · replace hf := z_ip hc6 hf
    obtain ⟨w1, hf, ho1⟩ := z_x hf
    obtain rfl := hr1 _ ho1
    obtain rfl := z_e1 hf
    exact z_rv B hW dX10_takesBack_27 (Nat.le_of_ble_eq_true rfl) (Nat.le_of_ble_eq_true rfl)
  · replace hf := z_in hc6 hf
    refine lv_aload_n hx hb dX10_takesBack_9 rfl (lv_at hl 0 rfl) ?_
    obtain ⟨hg2, hf⟩ := z_g hf
    obtain ⟨q3, hv4, hf⟩ := z_nn hf
    refine z_getN B hW (Or.inr zf_X10_7) rfl hg2 hv4 dX10_takesBack_10 ?_
    refine lv_iload_n hx hb dX10_takesBack_13 rfl (lv_at hl 1 rfl) ?_
    refine lv_aload_n hx hb dX10_takesBack_14 rfl (lv_at hl 0 rfl) ?_
    obtain ⟨q5, hv6, hf⟩ := z_nn hf
    refine z_getN B hW (Or.inr zf_X10_16) rfl hg2 hv6 dX10_takesBack_15 ?_
    refine lv_iload_n hx hb dX10_takesBack_18 rfl (lv_at hl 1 rfl) ?_
    obtain ⟨hg7, hf⟩ := z_g hf
    obtain ⟨hg8, hf⟩ := z_g hf
    refine z_ald B hW hg7 hg8 dX10_takesBack_19 ?_
    obtain ⟨hg9, hf⟩ := z_g hf
    obtain ⟨hg10, hf⟩ := z_g hf
    obtain ⟨σ11, hs12, hf⟩ := z_l hf
    refine z_ast B hW hg9 hg10 hs12 dX10_takesBack_20 (fun H locs hW => ?_)
    refine lv_iinc (v := (l1 + (1 : Int32))) (lv' := [(1, .int (l1 + (1 : Int32))), (0, .ref l0)]) hx hb dX10_takesBack_21 hl (k := 1) rfl rfl (by decide) rfl (fun ls hl => ?_)
    refine lv_goto (tgt := 2) hx hb dX10_takesBack_24 (by decide) ?_
    exact hk1 _ _ (Option.some.inj hf).symm hW (lv_sub hl [1, 0] rfl)
set_option maxRecDepth 20000 in
set_option maxHeartbeats 4000000 in
theorem t_X10_takesBack_2 (B : z_B p s m args meth c D cA bs RX10 cX10_takesBack 2 none)  {σ' : zSt} {l0 : Nat}  : ∀ (n : Nat) {σ : zSt} {l1 : Int32}, zloop (fun (t : zSt × Int32) => b_X10_takesBack_2 l0 t.1 t.2) n (σ, l1) = some σ' → ∀ {H : Heap} {locs : List Loc} {ls : Array Slot}, z_Ok D cA bs s σ H locs → lv_has ls 2 [(0, .ref l0), (1, .int l1)] → W p l e (zrm 0 0 0 0) s m args below meth c H locs 0 0 (MQ below (z_Qv D cA bs σ') args s 0 0 (fun q => bs ≤ q)) (F0 m 2 ls []) := by
  intro n
  induction n with
  | zero => intro σ l1 hf; cases hf
  | succ n ih =>
    intro σ l1 hf H locs ls hW hl
    obtain ⟨o1, hb1, hf⟩ := z_lp hf
    refine tb_X10_takesBack_2 B hb1 hW hl  (fun σ l1 he H locs ls hW hl => ?_) (fun x he => ?_)
    · rcases hf with ⟨t, ht, hf⟩ | hf
      · rw [he] at ht
        cases ht
        exact ih hf hW hl
      · rw [he] at hf
        cases hf
    · rcases hf with ⟨t, ht, hf⟩ | hf
      · rw [he] at ht
        cases ht
      · rw [he] at hf
        exact Sum.inr.inj hf
set_option maxRecDepth 100000 in
def f_X10_takesBack (σ : zSt) (l0 : Nat) : Option (zSt) :=
(f_X10_takesBack_2 l0 σ (0 : Int32))
set_option maxRecDepth 20000 in
set_option maxHeartbeats 4000000 in
theorem K_X10_takesBack {σ : zSt} {l0 : Nat}  {σ' : zSt} (hf : f_X10_takesBack σ l0 = some σ') : z_M l D cA bs yX10_takesBack cX10_takesBack 2 none 0 0 0 0 [.ref l0] σ (z_Qv D cA bs σ') := by
  refine z_met (own := RX10) (lv := [(0, .ref l0)]) (by decide) rfl (Nat.le_of_ble_eq_true rfl) rfl (fun p e s m below meth c ls B hnm hW hl => ?_)
  have hx := B.1
  have hb := B.2.1
  have hown := B.2.2.2.1
  have hts := B.2.2.2.2.1
  unfold f_X10_takesBack at hf
  refine lv_iconst (v := (0 : Int32)) hx hb dX10_takesBack_0 (by decide) ?_
  refine lv_istore_n (lv' := [(1, .int (0 : Int32)), (0, .ref l0)]) hx hb dX10_takesBack_1 rfl hl (by decide) rfl (fun ls hl => ?_)
  unfold f_X10_takesBack_2 at hf
  exact t_X10_takesBack_2 B  zN hf hW (lv_sub hl [1, 0] rfl)
set_option maxRecDepth 100000 in
def f_X10_at (σ : zSt) (l0 : Int32) (l1 : Int32) : Option (Int32) :=
(some (((18 : Int32) + ((7 : Int32) * l0)) + l1))
set_option maxRecDepth 20000 in
set_option maxHeartbeats 4000000 in
theorem K_X10_at {σ : zSt} {l0 : Int32} {l1 : Int32} {r : Int32} (hf : f_X10_at σ l0 l1 = some r) : z_M l D cA bs yX10_at cX10_at 2 (some .int) 0 0 0 0 [.int l0, .int l1] σ (z_Qi D cA bs r σ) := by
  refine z_met (own := RX10) (lv := [(0, .int l0), (1, .int l1)]) (by decide) rfl (Nat.le_of_ble_eq_true rfl) rfl (fun p e s m below meth c ls B hnm hW hl => ?_)
  have hx := B.1
  have hb := B.2.1
  have hown := B.2.2.2.1
  have hts := B.2.2.2.2.1
  unfold f_X10_at at hf
  refine lv_bipush (v := (18 : Int32)) hx hb dX10_at_0 (by decide) ?_
  refine lv_bipush (v := (7 : Int32)) hx hb dX10_at_2 (by decide) ?_
  refine lv_iload_n hx hb dX10_at_4 rfl (lv_at hl 0 rfl) ?_
  refine lv_imul hx hb dX10_at_5 ?_
  refine lv_iadd hx hb dX10_at_6 ?_
  refine lv_iload_n hx hb dX10_at_7 rfl (lv_at hl 1 rfl) ?_
  refine lv_iadd hx hb dX10_at_8 ?_
  obtain rfl := z_e1 hf
  exact z_ri B hW dX10_at_9 (Nat.le_of_ble_eq_true rfl) (Nat.le_of_ble_eq_true rfl)
set_option maxRecDepth 100000 in
def f_X10_of (σ : zSt) (l0 : Nat) (l1 : Int32) (l2 : Int32) : Option (Int32) :=
(if z_ob σ l0 9 then (zc (z_R σ l0 0) none (fun q2 => (zb (f_X10_at σ l1 l2) (fun r5 => (if z_ar σ q2 0 then (if z_ix r5 (z_ln σ q2) then (some (z_I σ q2 r5.toNatClampNeg)) else none) else none))))) else none)
set_option maxRecDepth 20000 in
set_option maxHeartbeats 4000000 in
theorem K_X10_of {σ : zSt} {l0 : Nat} {l1 : Int32} {l2 : Int32} {r : Int32} (hf : f_X10_of σ l0 l1 l2 = some r) : z_M l D cA bs yX10_of cX10_of 3 (some .int) 1 21 0 0 [.ref l0, .int l1, .int l2] σ (z_Qi D cA bs r σ) := by
  refine z_met (own := RX10) (lv := [(0, .ref l0), (1, .int l1), (2, .int l2)]) (by decide) rfl (Nat.le_of_ble_eq_true rfl) rfl (fun p e s m below meth c ls B hnm hW hl => ?_)
  have hx := B.1
  have hb := B.2.1
  have hown := B.2.2.2.1
  have hts := B.2.2.2.2.1
  unfold f_X10_of at hf
  refine lv_aload_n hx hb dX10_of_0 rfl (lv_at hl 0 rfl) ?_
  obtain ⟨hg1, hf⟩ := z_g hf
  obtain ⟨q2, hv3, hf⟩ := z_nn hf
  refine z_getN B hW (Or.inr zf_X10_7) rfl hg1 hv3 dX10_of_1 ?_
  refine lv_iload_n hx hb dX10_of_4 rfl (lv_at hl 1 rfl) ?_
  refine lv_iload_n hx hb dX10_of_5 rfl (lv_at hl 2 rfl) ?_
  obtain ⟨r5, hq4, hf⟩ := z_b hf
  refine z_ci hW (z_runS (As := [.int l1, .int l2]) (rest := [.ref q2]) B hW zv_X10_29 (K_X10_at hq4) rfl rfl (Nat.le_of_ble_eq_true rfl) hl.1 ⟨Nat.le_of_ble_eq_true rfl, Nat.le_of_ble_eq_true rfl⟩ dX10_of_6 ⟨Nat.le_of_ble_eq_true rfl, Nat.le_of_ble_eq_true rfl⟩) (fun H locs hW => ?_)
  obtain ⟨hg6, hf⟩ := z_g hf
  obtain ⟨hg7, hf⟩ := z_g hf
  refine z_ald B hW hg6 hg7 dX10_of_9 ?_
  obtain rfl := z_e1 hf
  exact z_ri B hW dX10_of_10 (Nat.le_of_ble_eq_true rfl) (Nat.le_of_ble_eq_true rfl)
set_option maxRecDepth 100000 in
def f_X10_isStation_27 (σ : zSt) (s0 : Int32) : Option (Int32) :=
(if z_bl s0 then (some s0) else none)
set_option maxRecDepth 20000 in
set_option maxHeartbeats 4000000 in
theorem t_X10_isStation_27 (B : z_B p s m args meth c D cA bs RX10 cX10_isStation 2 (some .boolean)) {r : Int32} {σ : zSt} {s0 : Int32} (hf : f_X10_isStation_27 σ s0 = some r) {H : Heap} {locs : List Loc} {ls : Array Slot} (hW : z_Ok D cA bs s σ H locs) (hl : lv_has ls 2 [])  : W p l e (zrm 2 0 0 43) s m args below meth c H locs 0 0 (MQ below (z_Qi D cA bs r σ) args s 0 0 (fun q => bs ≤ q)) (F0 m 27 ls [.int s0]) := by
  have hx := B.1
  have hb := B.2.1
  have hown := B.2.2.2.1
  have hts := B.2.2.2.2.1
  unfold f_X10_isStation_27 at hf
  obtain ⟨hg1, hf⟩ := z_g hf
  obtain rfl := z_e1 hf
  exact z_rz hg1 B hW dX10_isStation_27 (Nat.le_of_ble_eq_true rfl) (Nat.le_of_ble_eq_true rfl)
set_option maxRecDepth 100000 in
def f_X10_isStation_26 (σ : zSt) : Option (Int32) :=
(f_X10_isStation_27 σ (0 : Int32))
set_option maxRecDepth 20000 in
set_option maxHeartbeats 4000000 in
theorem t_X10_isStation_26 (B : z_B p s m args meth c D cA bs RX10 cX10_isStation 2 (some .boolean)) {r : Int32} {σ : zSt} (hf : f_X10_isStation_26 σ = some r) {H : Heap} {locs : List Loc} {ls : Array Slot} (hW : z_Ok D cA bs s σ H locs) (hl : lv_has ls 2 [])  : W p l e (zrm 2 0 0 43) s m args below meth c H locs 0 0 (MQ below (z_Qi D cA bs r σ) args s 0 0 (fun q => bs ≤ q)) (F0 m 26 ls []) := by
  have hx := B.1
  have hb := B.2.1
  have hown := B.2.2.2.1
  have hts := B.2.2.2.2.1
  unfold f_X10_isStation_26 at hf
  refine lv_iconst (v := (0 : Int32)) hx hb dX10_isStation_26 (by decide) ?_
  exact t_X10_isStation_27 B hf hW hl 
set_option maxRecDepth 100000 in
def f_X10_isStation (σ : zSt) (l0 : Nat) (l1 : Int32) : Option (Int32) :=
(zb (f_X10_in σ l1.toInt64 (0 : Int64) (31 : Int64)) (fun r2 => (if r2 = 0 then
(f_X10_isStation_26 σ)
else
(if z_ob σ l0 9 then (zb (f_X10_of σ l0 l1 (0 : Int32)) (fun r5 => (if r5 = (1 : Int32) then
(f_X10_isStation_27 σ (1 : Int32))
else
(f_X10_isStation_26 σ)))) else none))))
set_option maxRecDepth 20000 in
set_option maxHeartbeats 4000000 in
theorem K_X10_isStation {σ : zSt} {l0 : Nat} {l1 : Int32} {r : Int32} (hf : f_X10_isStation σ l0 l1 = some r) : z_M l D cA bs yX10_isStation cX10_isStation 2 (some .boolean) 2 43 0 0 [.ref l0, .int l1] σ (z_Qi D cA bs r σ) := by
  refine z_met (own := RX10) (lv := [(0, .ref l0), (1, .int l1)]) (by decide) rfl (Nat.le_of_ble_eq_true rfl) rfl (fun p e s m below meth c ls B hnm hW hl => ?_)
  have hx := B.1
  have hb := B.2.1
  have hown := B.2.2.2.1
  have hts := B.2.2.2.2.1
  unfold f_X10_isStation at hf
  refine lv_iload_n hx hb dX10_isStation_0 rfl (lv_at hl 1 rfl) ?_
  refine lv_i2l (v := l1.toInt64) hx hb dX10_isStation_1 rfl ?_
  refine lv_lconst (v := (0 : Int64)) hx hb dX10_isStation_2 (by decide) ?_
  refine lv_ldc2 hx hb hown (hts _ zk_X10_33) dX10_isStation_3 ?_
  obtain ⟨r2, hq1, hf⟩ := z_b hf
  refine z_ci hW (z_runS (As := [.long l1.toInt64, .long (0 : Int64), .long (31 : Int64)]) (rest := []) B hW zv_X10_35 (K_X10_in hq1) rfl rfl (Nat.le_of_ble_eq_true rfl) hl.1 ⟨Nat.le_of_ble_eq_true rfl, Nat.le_of_ble_eq_true rfl⟩ dX10_isStation_6 ⟨Nat.le_of_ble_eq_true rfl, Nat.le_of_ble_eq_true rfl⟩) (fun H locs hW => ?_)
  refine lv_if_eq (tgt := 26) hx hb dX10_isStation_9 (by decide) (fun hc9 => ?_) (fun hc9 => ?_)
  · replace hf := z_ip hc9 hf
    exact t_X10_isStation_26 B hf hW (lv_sub hl [] rfl) 
  · replace hf := z_in hc9 hf
    refine lv_aload_n hx hb dX10_isStation_12 rfl (lv_at hl 0 rfl) ?_
    refine lv_iload_n hx hb dX10_isStation_13 rfl (lv_at hl 1 rfl) ?_
    refine lv_iconst (v := (0 : Int32)) hx hb dX10_isStation_14 (by decide) ?_
    obtain ⟨hg3, hf⟩ := z_g hf
    obtain ⟨r5, hq4, hf⟩ := z_b hf
    refine z_ci hW (z_runV (As := [.int l1, .int (0 : Int32)]) (rest := []) B hW zv_X10_39 (K_X10_of hq4) hg3 rfl rfl rfl (Nat.le_of_ble_eq_true rfl) hl.1 ⟨Nat.le_of_ble_eq_true rfl, Nat.le_of_ble_eq_true rfl⟩ dX10_isStation_15 ⟨Nat.le_of_ble_eq_true rfl, Nat.le_of_ble_eq_true rfl⟩) (fun H locs hW => ?_)
    refine lv_iconst (v := (1 : Int32)) hx hb dX10_isStation_18 (by decide) ?_
    refine lv_icmp_ne (tgt := 26) hx hb dX10_isStation_19 (by decide) (fun hc19 => ?_) (fun hc19 => ?_)
    · replace hf := z_in hc19 hf
      exact t_X10_isStation_26 B hf hW (lv_sub hl [] rfl) 
    · replace hf := z_ip hc19 hf
      refine lv_iconst (v := (1 : Int32)) hx hb dX10_isStation_22 (by decide) ?_
      refine lv_goto (tgt := 27) hx hb dX10_isStation_23 (by decide) ?_
      exact t_X10_isStation_27 B hf hW (lv_sub hl [] rfl) 
set_option maxRecDepth 100000 in
def f_X10_isInRing_35 (σ : zSt) (s0 : Int32) : Option (Int32) :=
(if z_bl s0 then (some s0) else none)
set_option maxRecDepth 20000 in
set_option maxHeartbeats 4000000 in
theorem t_X10_isInRing_35 (B : z_B p s m args meth c D cA bs RX10 cX10_isInRing 2 (some .boolean)) {r : Int32} {σ : zSt} {s0 : Int32} (hf : f_X10_isInRing_35 σ s0 = some r) {H : Heap} {locs : List Loc} {ls : Array Slot} (hW : z_Ok D cA bs s σ H locs) (hl : lv_has ls 2 [])  : W p l e (zrm 2 0 0 43) s m args below meth c H locs 0 0 (MQ below (z_Qi D cA bs r σ) args s 0 0 (fun q => bs ≤ q)) (F0 m 35 ls [.int s0]) := by
  have hx := B.1
  have hb := B.2.1
  have hown := B.2.2.2.1
  have hts := B.2.2.2.2.1
  unfold f_X10_isInRing_35 at hf
  obtain ⟨hg1, hf⟩ := z_g hf
  obtain rfl := z_e1 hf
  exact z_rz hg1 B hW dX10_isInRing_35 (Nat.le_of_ble_eq_true rfl) (Nat.le_of_ble_eq_true rfl)
set_option maxRecDepth 100000 in
def f_X10_isInRing_34 (σ : zSt) : Option (Int32) :=
(f_X10_isInRing_35 σ (0 : Int32))
set_option maxRecDepth 20000 in
set_option maxHeartbeats 4000000 in
theorem t_X10_isInRing_34 (B : z_B p s m args meth c D cA bs RX10 cX10_isInRing 2 (some .boolean)) {r : Int32} {σ : zSt} (hf : f_X10_isInRing_34 σ = some r) {H : Heap} {locs : List Loc} {ls : Array Slot} (hW : z_Ok D cA bs s σ H locs) (hl : lv_has ls 2 [])  : W p l e (zrm 2 0 0 43) s m args below meth c H locs 0 0 (MQ below (z_Qi D cA bs r σ) args s 0 0 (fun q => bs ≤ q)) (F0 m 34 ls []) := by
  have hx := B.1
  have hb := B.2.1
  have hown := B.2.2.2.1
  have hts := B.2.2.2.2.1
  unfold f_X10_isInRing_34 at hf
  refine lv_iconst (v := (0 : Int32)) hx hb dX10_isInRing_34 (by decide) ?_
  exact t_X10_isInRing_35 B hf hW hl 
set_option maxRecDepth 100000 in
def f_X10_isInRing (σ : zSt) (l0 : Nat) (l1 : Int32) : Option (Int32) :=
(if z_ob σ l0 9 then (zb (f_X10_of σ l0 l1 (0 : Int32)) (fun r3 => (if r3 = (1 : Int32) then
(zb (f_X10_of σ l0 l1 (1 : Int32)) (fun r5 => (if r5 = (1 : Int32) then
(zb (f_X10_of σ l0 l1 (2 : Int32)) (fun r7 => (if r7 = (1 : Int32) then
(f_X10_isInRing_35 σ (1 : Int32))
else
(f_X10_isInRing_34 σ))))
else
(f_X10_isInRing_34 σ))))
else
(f_X10_isInRing_34 σ)))) else none)
set_option maxRecDepth 20000 in
set_option maxHeartbeats 4000000 in
theorem K_X10_isInRing {σ : zSt} {l0 : Nat} {l1 : Int32} {r : Int32} (hf : f_X10_isInRing σ l0 l1 = some r) : z_M l D cA bs yX10_isInRing cX10_isInRing 2 (some .boolean) 2 43 0 0 [.ref l0, .int l1] σ (z_Qi D cA bs r σ) := by
  refine z_met (own := RX10) (lv := [(0, .ref l0), (1, .int l1)]) (by decide) rfl (Nat.le_of_ble_eq_true rfl) rfl (fun p e s m below meth c ls B hnm hW hl => ?_)
  have hx := B.1
  have hb := B.2.1
  have hown := B.2.2.2.1
  have hts := B.2.2.2.2.1
  unfold f_X10_isInRing at hf
  refine lv_aload_n hx hb dX10_isInRing_0 rfl (lv_at hl 0 rfl) ?_
  refine lv_iload_n hx hb dX10_isInRing_1 rfl (lv_at hl 1 rfl) ?_
  refine lv_iconst (v := (0 : Int32)) hx hb dX10_isInRing_2 (by decide) ?_
  obtain ⟨hg1, hf⟩ := z_g hf
  obtain ⟨r3, hq2, hf⟩ := z_b hf
  refine z_ci hW (z_runV (As := [.int l1, .int (0 : Int32)]) (rest := []) B hW zv_X10_39 (K_X10_of hq2) hg1 rfl rfl rfl (Nat.le_of_ble_eq_true rfl) hl.1 ⟨Nat.le_of_ble_eq_true rfl, Nat.le_of_ble_eq_true rfl⟩ dX10_isInRing_3 ⟨Nat.le_of_ble_eq_true rfl, Nat.le_of_ble_eq_true rfl⟩) (fun H locs hW => ?_)
  refine lv_iconst (v := (1 : Int32)) hx hb dX10_isInRing_6 (by decide) ?_
  refine lv_icmp_ne (tgt := 34) hx hb dX10_isInRing_7 (by decide) (fun hc7 => ?_) (fun hc7 => ?_)
  · replace hf := z_in hc7 hf
    exact t_X10_isInRing_34 B hf hW (lv_sub hl [] rfl) 
  · replace hf := z_ip hc7 hf
    refine lv_aload_n hx hb dX10_isInRing_10 rfl (lv_at hl 0 rfl) ?_
    refine lv_iload_n hx hb dX10_isInRing_11 rfl (lv_at hl 1 rfl) ?_
    refine lv_iconst (v := (1 : Int32)) hx hb dX10_isInRing_12 (by decide) ?_
    obtain ⟨r5, hq4, hf⟩ := z_b hf
    refine z_ci hW (z_runV (As := [.int l1, .int (1 : Int32)]) (rest := []) B hW zv_X10_39 (K_X10_of hq4) hg1 rfl rfl rfl (Nat.le_of_ble_eq_true rfl) hl.1 ⟨Nat.le_of_ble_eq_true rfl, Nat.le_of_ble_eq_true rfl⟩ dX10_isInRing_13 ⟨Nat.le_of_ble_eq_true rfl, Nat.le_of_ble_eq_true rfl⟩) (fun H locs hW => ?_)
    refine lv_iconst (v := (1 : Int32)) hx hb dX10_isInRing_16 (by decide) ?_
    refine lv_icmp_ne (tgt := 34) hx hb dX10_isInRing_17 (by decide) (fun hc17 => ?_) (fun hc17 => ?_)
    · replace hf := z_in hc17 hf
      exact t_X10_isInRing_34 B hf hW (lv_sub hl [] rfl) 
    · replace hf := z_ip hc17 hf
      refine lv_aload_n hx hb dX10_isInRing_20 rfl (lv_at hl 0 rfl) ?_
      refine lv_iload_n hx hb dX10_isInRing_21 rfl (lv_at hl 1 rfl) ?_
      refine lv_iconst (v := (2 : Int32)) hx hb dX10_isInRing_22 (by decide) ?_
      obtain ⟨r7, hq6, hf⟩ := z_b hf
      refine z_ci hW (z_runV (As := [.int l1, .int (2 : Int32)]) (rest := []) B hW zv_X10_39 (K_X10_of hq6) hg1 rfl rfl rfl (Nat.le_of_ble_eq_true rfl) hl.1 ⟨Nat.le_of_ble_eq_true rfl, Nat.le_of_ble_eq_true rfl⟩ dX10_isInRing_23 ⟨Nat.le_of_ble_eq_true rfl, Nat.le_of_ble_eq_true rfl⟩) (fun H locs hW => ?_)
      refine lv_iconst (v := (1 : Int32)) hx hb dX10_isInRing_26 (by decide) ?_
      refine lv_icmp_ne (tgt := 34) hx hb dX10_isInRing_27 (by decide) (fun hc27 => ?_) (fun hc27 => ?_)
      · replace hf := z_in hc27 hf
        exact t_X10_isInRing_34 B hf hW (lv_sub hl [] rfl) 
      · replace hf := z_ip hc27 hf
        refine lv_iconst (v := (1 : Int32)) hx hb dX10_isInRing_30 (by decide) ?_
        refine lv_goto (tgt := 35) hx hb dX10_isInRing_31 (by decide) ?_
        exact t_X10_isInRing_35 B hf hW (lv_sub hl [] rfl) 
set_option maxRecDepth 100000 in
def f_X10_inMessage (σ : zSt) (l0 : Int32) (l1 : Int32) : Option (Int32) :=
(some (((242 : Int32) + ((5 : Int32) * l0)) + l1))
set_option maxRecDepth 20000 in
set_option maxHeartbeats 4000000 in
theorem K_X10_inMessage {σ : zSt} {l0 : Int32} {l1 : Int32} {r : Int32} (hf : f_X10_inMessage σ l0 l1 = some r) : z_M l D cA bs yX10_inMessage cX10_inMessage 2 (some .int) 0 0 0 0 [.int l0, .int l1] σ (z_Qi D cA bs r σ) := by
  refine z_met (own := RX10) (lv := [(0, .int l0), (1, .int l1)]) (by decide) rfl (Nat.le_of_ble_eq_true rfl) rfl (fun p e s m below meth c ls B hnm hW hl => ?_)
  have hx := B.1
  have hb := B.2.1
  have hown := B.2.2.2.1
  have hts := B.2.2.2.2.1
  unfold f_X10_inMessage at hf
  refine lv_sipush (v := (242 : Int32)) hx hb dX10_inMessage_0 (by decide) ?_
  refine lv_iconst (v := (5 : Int32)) hx hb dX10_inMessage_3 (by decide) ?_
  refine lv_iload_n hx hb dX10_inMessage_4 rfl (lv_at hl 0 rfl) ?_
  refine lv_imul hx hb dX10_inMessage_5 ?_
  refine lv_iadd hx hb dX10_inMessage_6 ?_
  refine lv_iload_n hx hb dX10_inMessage_7 rfl (lv_at hl 1 rfl) ?_
  refine lv_iadd hx hb dX10_inMessage_8 ?_
  obtain rfl := z_e1 hf
  exact z_ri B hW dX10_inMessage_9 (Nat.le_of_ble_eq_true rfl) (Nat.le_of_ble_eq_true rfl)
set_option maxRecDepth 100000 in
def f_X10_ofMessage (σ : zSt) (l0 : Nat) (l1 : Int32) (l2 : Int32) : Option (Int32) :=
(if z_ob σ l0 9 then (zc (z_R σ l0 0) none (fun q2 => (zb (f_X10_inMessage σ l1 l2) (fun r5 => (if z_ar σ q2 0 then (if z_ix r5 (z_ln σ q2) then (some (z_I σ q2 r5.toNatClampNeg)) else none) else none))))) else none)
set_option maxRecDepth 20000 in
set_option maxHeartbeats 4000000 in
theorem K_X10_ofMessage {σ : zSt} {l0 : Nat} {l1 : Int32} {l2 : Int32} {r : Int32} (hf : f_X10_ofMessage σ l0 l1 l2 = some r) : z_M l D cA bs yX10_ofMessage cX10_ofMessage 3 (some .int) 1 21 0 0 [.ref l0, .int l1, .int l2] σ (z_Qi D cA bs r σ) := by
  refine z_met (own := RX10) (lv := [(0, .ref l0), (1, .int l1), (2, .int l2)]) (by decide) rfl (Nat.le_of_ble_eq_true rfl) rfl (fun p e s m below meth c ls B hnm hW hl => ?_)
  have hx := B.1
  have hb := B.2.1
  have hown := B.2.2.2.1
  have hts := B.2.2.2.2.1
  unfold f_X10_ofMessage at hf
  refine lv_aload_n hx hb dX10_ofMessage_0 rfl (lv_at hl 0 rfl) ?_
  obtain ⟨hg1, hf⟩ := z_g hf
  obtain ⟨q2, hv3, hf⟩ := z_nn hf
  refine z_getN B hW (Or.inr zf_X10_7) rfl hg1 hv3 dX10_ofMessage_1 ?_
  refine lv_iload_n hx hb dX10_ofMessage_4 rfl (lv_at hl 1 rfl) ?_
  refine lv_iload_n hx hb dX10_ofMessage_5 rfl (lv_at hl 2 rfl) ?_
  obtain ⟨r5, hq4, hf⟩ := z_b hf
  refine z_ci hW (z_runS (As := [.int l1, .int l2]) (rest := [.ref q2]) B hW zv_X10_42 (K_X10_inMessage hq4) rfl rfl (Nat.le_of_ble_eq_true rfl) hl.1 ⟨Nat.le_of_ble_eq_true rfl, Nat.le_of_ble_eq_true rfl⟩ dX10_ofMessage_6 ⟨Nat.le_of_ble_eq_true rfl, Nat.le_of_ble_eq_true rfl⟩) (fun H locs hW => ?_)
  obtain ⟨hg6, hf⟩ := z_g hf
  obtain ⟨hg7, hf⟩ := z_g hf
  refine z_ald B hW hg6 hg7 dX10_ofMessage_9 ?_
  obtain rfl := z_e1 hf
  exact z_ri B hW dX10_ofMessage_10 (Nat.le_of_ble_eq_true rfl) (Nat.le_of_ble_eq_true rfl)
end GEN
