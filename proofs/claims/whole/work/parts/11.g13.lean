section GEN
variable {p : Program} {l : Launch} {e : Env} {s : State} {m : MethodId} {args : Array Value} {below : List Frame} {meth : Method} {c : Code} {D : va_G} {cA : Nat → ClassId} {bs : Nat}
set_option maxRecDepth 100000 in
def b_X10_stations_4 (σ : zSt) (l0 : Nat) (l1 : Int32) (l2 : Int32) : Option ((Int32 × Int32) ⊕ (Int32)) :=
(if (32 : Int32) ≤ l2 then
(zex (some l1))
else
(if z_ob σ l0 9 then (zb (f_X10_of σ l0 l2 (0 : Int32)) (fun r4 => (zl (l1 + r4) (fun x5 => (some (.inl (x5, (l2 + (1 : Int32))))))))) else none))
set_option maxRecDepth 100000 in
def f_X10_stations_4 (σ : zSt) (l0 : Nat) (l1 : Int32) (l2 : Int32) : Option (Int32) := zloop (fun (t : Int32 × Int32) => b_X10_stations_4 σ l0 t.1 t.2) zN (l1, l2)
set_option maxRecDepth 20000 in
set_option maxHeartbeats 4000000 in
theorem tb_X10_stations_4 (B : z_B p s m args meth c D cA bs RX10 cX10_stations 3 (some .int)) {r : Int32} {o1 : (Int32 × Int32) ⊕ (Int32)} {σ : zSt} {l0 : Nat} {l1 : Int32} {l2 : Int32} (hf : b_X10_stations_4 σ l0 l1 l2 = some o1) {H : Heap} {locs : List Loc} {ls : Array Slot} (hW : z_Ok D cA bs s σ H locs) (hl : lv_has ls 3 [(0, .ref l0), (1, .int l1), (2, .int l2)]) (hk1 : ∀ (l1 : Int32) (l2 : Int32), o1 = .inl (l1, l2) → ∀ {H : Heap} {locs : List Loc} {ls : Array Slot}, z_Ok D cA bs s σ H locs → lv_has ls 3 [(0, .ref l0), (1, .int l1), (2, .int l2)] → W p l e (zrm 2 0 0 43) s m args below meth c H locs 0 0 (MQ below (z_Qi D cA bs r σ) args s 0 0 (fun q => bs ≤ q)) (F0 m 4 ls [])) (hr1 : ∀ x, o1 = .inr x → x = r) : W p l e (zrm 2 0 0 43) s m args below meth c H locs 0 0 (MQ below (z_Qi D cA bs r σ) args s 0 0 (fun q => bs ≤ q)) (F0 m 4 ls []) := by
  have hx := B.1
  have hb := B.2.1
  have hown := B.2.2.2.1
  have hts := B.2.2.2.2.1
  unfold b_X10_stations_4 at hf
  refine lv_iload_n hx hb dX10_stations_4 rfl (lv_at hl 2 rfl) ?_
  refine lv_bipush (v := (32 : Int32)) hx hb dX10_stations_5 (by decide) ?_
  refine lv_icmp_ge (tgt := 25) hx hb dX10_stations_7 (by decide) (fun hc7 => ?_) (fun hc7 => ?_)
  · replace hf := z_ip hc7 hf
    obtain ⟨w1, hf, ho1⟩ := z_x hf
    obtain rfl := hr1 _ ho1
    refine lv_iload_n hx hb dX10_stations_25 rfl (lv_at hl 1 rfl) ?_
    obtain rfl := z_e1 hf
    exact z_ri B hW dX10_stations_26 (Nat.le_of_ble_eq_true rfl) (Nat.le_of_ble_eq_true rfl)
  · replace hf := z_in hc7 hf
    refine lv_iload_n hx hb dX10_stations_10 rfl (lv_at hl 1 rfl) ?_
    refine lv_aload_n hx hb dX10_stations_11 rfl (lv_at hl 0 rfl) ?_
    refine lv_iload_n hx hb dX10_stations_12 rfl (lv_at hl 2 rfl) ?_
    refine lv_iconst (v := (0 : Int32)) hx hb dX10_stations_13 (by decide) ?_
    obtain ⟨hg2, hf⟩ := z_g hf
    obtain ⟨r4, hq3, hf⟩ := z_b hf
    refine z_ci hW (z_runV (As := [.int l2, .int (0 : Int32)]) (rest := [.int l1]) B hW zv_X10_39 (K_X10_of hq3) hg2 rfl rfl rfl (Nat.le_of_ble_eq_true rfl) hl.1 ⟨Nat.le_of_ble_eq_true rfl, Nat.le_of_ble_eq_true rfl⟩ dX10_stations_14 ⟨Nat.le_of_ble_eq_true rfl, Nat.le_of_ble_eq_true rfl⟩) (fun H locs hW => ?_)
    refine lv_iadd hx hb dX10_stations_17 ?_
    obtain ⟨x5, hx6, hf⟩ := z_l hf
    rw [hx6]
    refine lv_istore_n (lv' := [(1, .int x5), (0, .ref l0), (2, .int l2)]) hx hb dX10_stations_18 rfl hl (by decide) rfl (fun ls hl => ?_)
    refine lv_iinc (v := (l2 + (1 : Int32))) (lv' := [(2, .int (l2 + (1 : Int32))), (1, .int x5), (0, .ref l0)]) hx hb dX10_stations_19 hl (k := 2) rfl rfl (by decide) rfl (fun ls hl => ?_)
    refine lv_goto (tgt := 4) hx hb dX10_stations_22 (by decide) ?_
    exact hk1 _ _ (Option.some.inj hf).symm hW (lv_sub hl [2, 1, 0] rfl)
set_option maxRecDepth 20000 in
set_option maxHeartbeats 4000000 in
theorem t_X10_stations_4 (B : z_B p s m args meth c D cA bs RX10 cX10_stations 3 (some .int)) {r : Int32} {σ : zSt} {l0 : Nat}  : ∀ (n : Nat) {l1 : Int32} {l2 : Int32}, zloop (fun (t : Int32 × Int32) => b_X10_stations_4 σ l0 t.1 t.2) n (l1, l2) = some r → ∀ {H : Heap} {locs : List Loc} {ls : Array Slot}, z_Ok D cA bs s σ H locs → lv_has ls 3 [(0, .ref l0), (1, .int l1), (2, .int l2)] → W p l e (zrm 2 0 0 43) s m args below meth c H locs 0 0 (MQ below (z_Qi D cA bs r σ) args s 0 0 (fun q => bs ≤ q)) (F0 m 4 ls []) := by
  intro n
  induction n with
  | zero => intro l1 l2 hf; cases hf
  | succ n ih =>
    intro l1 l2 hf H locs ls hW hl
    obtain ⟨o1, hb1, hf⟩ := z_lp hf
    refine tb_X10_stations_4 B hb1 hW hl  (fun l1 l2 he H locs ls hW hl => ?_) (fun x he => ?_)
    · rcases hf with ⟨t, ht, hf⟩ | hf
      · rw [he] at ht
        cases ht
        exact ih hf hW hl
      · rw [he] at hf
        cases hf
    · rcases hf with ⟨t, ht, hf⟩ | hf
      · rw [he] at ht
        cases ht
      · rw [he] at hf
        exact Sum.inr.inj hf
set_option maxRecDepth 100000 in
def f_X10_stations (σ : zSt) (l0 : Nat) : Option (Int32) :=
(f_X10_stations_4 σ l0 (0 : Int32) (0 : Int32))
set_option maxRecDepth 20000 in
set_option maxHeartbeats 4000000 in
theorem K_X10_stations {σ : zSt} {l0 : Nat} {r : Int32} (hf : f_X10_stations σ l0 = some r) : z_M l D cA bs yX10_stations cX10_stations 3 (some .int) 2 43 0 0 [.ref l0] σ (z_Qi D cA bs r σ) := by
  refine z_met (own := RX10) (lv := [(0, .ref l0)]) (by decide) rfl (Nat.le_of_ble_eq_true rfl) rfl (fun p e s m below meth c ls B hnm hW hl => ?_)
  have hx := B.1
  have hb := B.2.1
  have hown := B.2.2.2.1
  have hts := B.2.2.2.2.1
  unfold f_X10_stations at hf
  refine lv_iconst (v := (0 : Int32)) hx hb dX10_stations_0 (by decide) ?_
  refine lv_istore_n (lv' := [(1, .int (0 : Int32)), (0, .ref l0)]) hx hb dX10_stations_1 rfl hl (by decide) rfl (fun ls hl => ?_)
  refine lv_iconst (v := (0 : Int32)) hx hb dX10_stations_2 (by decide) ?_
  refine lv_istore_n (lv' := [(2, .int (0 : Int32)), (1, .int (0 : Int32)), (0, .ref l0)]) hx hb dX10_stations_3 rfl hl (by decide) rfl (fun ls hl => ?_)
  unfold f_X10_stations_4 at hf
  exact t_X10_stations_4 B  zN hf hW (lv_sub hl [2, 1, 0] rfl)
set_option maxRecDepth 100000 in
def f_X10_adds (σ : zSt) (l0 : Nat) (l1 : Int32) : Option (zSt) :=
(if z_ob σ l0 9 then (zc (z_R σ l0 0) none (fun q2 => (zb (f_X10_at σ l1 (0 : Int32)) (fun r5 => (if z_ar σ q2 0 then (if z_ix r5 (z_ln σ q2) then (zl (z_pI σ q2 r5.toNatClampNeg (1 : Int32)) (fun σ8 => (if z_ob σ8 l0 9 then (zc (z_R σ8 l0 0) none (fun q11 => (zb (f_X10_at σ8 l1 (1 : Int32)) (fun r14 => (if z_ar σ8 q11 0 then (if z_ix r14 (z_ln σ8 q11) then (zl (z_pI σ8 q11 r14.toNatClampNeg (1 : Int32)) (fun σ17 => (if z_ob σ17 l0 9 then (zc (z_R σ17 l0 0) none (fun q20 => (zb (f_X10_at σ17 l1 (2 : Int32)) (fun r23 => (if z_ar σ17 q20 0 then (if z_ix r23 (z_ln σ17 q20) then (zl (z_pI σ17 q20 r23.toNatClampNeg (0 : Int32)) (fun σ26 => (if z_ob σ26 l0 9 then (zc (z_R σ26 l0 0) none (fun q29 => (zb (f_X10_at σ26 l1 (3 : Int32)) (fun r32 => (if z_ar σ26 q29 0 then (if z_ix r32 (z_ln σ26 q29) then (zl (z_pI σ26 q29 r32.toNatClampNeg l1) (fun σ35 => (if z_ob σ35 l0 9 then (zc (z_R σ35 l0 0) none (fun q38 => (zb (f_X10_at σ35 l1 (4 : Int32)) (fun r41 => (if z_ar σ35 q38 0 then (if z_ix r41 (z_ln σ35 q38) then (zl (z_pI σ35 q38 r41.toNatClampNeg l1) (fun σ44 => (if z_ob σ44 l0 9 then (zc (z_R σ44 l0 0) none (fun q47 => (zb (f_X10_at σ44 l1 (5 : Int32)) (fun r50 => (if z_ar σ44 q47 0 then (if z_ix r50 (z_ln σ44 q47) then (zl (z_pI σ44 q47 r50.toNatClampNeg (0 : Int32)) (fun σ53 => (if z_ob σ53 l0 9 then (zc (z_R σ53 l0 0) none (fun q56 => (zb (f_X10_at σ53 l1 (6 : Int32)) (fun r59 => (if z_ar σ53 q56 0 then (if z_ix r59 (z_ln σ53 q56) then (zl (z_pI σ53 q56 r59.toNatClampNeg (-1 : Int32)) (fun σ62 => (some σ62))) else none) else none))))) else none))) else none) else none))))) else none))) else none) else none))))) else none))) else none) else none))))) else none))) else none) else none))))) else none))) else none) else none))))) else none))) else none) else none))))) else none)
set_option maxRecDepth 20000 in
set_option maxHeartbeats 4000000 in
theorem K_X10_adds {σ : zSt} {l0 : Nat} {l1 : Int32}  {σ' : zSt} (hf : f_X10_adds σ l0 l1 = some σ') : z_M l D cA bs yX10_adds cX10_adds 2 none 1 21 0 0 [.ref l0, .int l1] σ (z_Qv D cA bs σ') := by
  refine z_met (own := RX10) (lv := [(0, .ref l0), (1, .int l1)]) (by decide) rfl (Nat.le_of_ble_eq_true rfl) rfl (fun p e s m below meth c ls B hnm hW hl => ?_)
  have hx := B.1
  have hb := B.2.1
  have hown := B.2.2.2.1
  have hts := B.2.2.2.2.1
  unfold f_X10_adds at hf
  refine lv_aload_n hx hb dX10_adds_0 rfl (lv_at hl 0 rfl) ?_
  obtain ⟨hg1, hf⟩ := z_g hf
  obtain ⟨q2, hv3, hf⟩ := z_nn hf
  refine z_getN B hW (Or.inr zf_X10_7) rfl hg1 hv3 dX10_adds_1 ?_
  refine lv_iload_n hx hb dX10_adds_4 rfl (lv_at hl 1 rfl) ?_
  refine lv_iconst (v := (0 : Int32)) hx hb dX10_adds_5 (by decide) ?_
  obtain ⟨r5, hq4, hf⟩ := z_b hf
  refine z_ci hW (z_runS (As := [.int l1, .int (0 : Int32)]) (rest := [.ref q2]) B hW zv_X10_29 (K_X10_at hq4) rfl rfl (Nat.le_of_ble_eq_true rfl) hl.1 ⟨Nat.le_of_ble_eq_true rfl, Nat.le_of_ble_eq_true rfl⟩ dX10_adds_6 ⟨Nat.le_of_ble_eq_true rfl, Nat.le_of_ble_eq_true rfl⟩) (fun H locs hW => ?_)
  refine lv_iconst (v := (1 : Int32)) hx hb dX10_adds_9 (by decide) ?_
  obtain ⟨hg6, hf⟩ := z_g hf
  obtain ⟨hg7, hf⟩ := z_g hf
  obtain ⟨σ8, hs9, hf⟩ := z_l hf
  refine z_ast B hW hg6 hg7 hs9 dX10_adds_10 (fun H locs hW => ?_)
  refine lv_aload_n hx hb dX10_adds_11 rfl (lv_at hl 0 rfl) ?_
  obtain ⟨hg10, hf⟩ := z_g hf
  obtain ⟨q11, hv12, hf⟩ := z_nn hf
  refine z_getN B hW (Or.inr zf_X10_7) rfl hg10 hv12 dX10_adds_12 ?_
  refine lv_iload_n hx hb dX10_adds_15 rfl (lv_at hl 1 rfl) ?_
  refine lv_iconst (v := (1 : Int32)) hx hb dX10_adds_16 (by decide) ?_
  obtain ⟨r14, hq13, hf⟩ := z_b hf
  refine z_ci hW (z_runS (As := [.int l1, .int (1 : Int32)]) (rest := [.ref q11]) B hW zv_X10_29 (K_X10_at hq13) rfl rfl (Nat.le_of_ble_eq_true rfl) hl.1 ⟨Nat.le_of_ble_eq_true rfl, Nat.le_of_ble_eq_true rfl⟩ dX10_adds_17 ⟨Nat.le_of_ble_eq_true rfl, Nat.le_of_ble_eq_true rfl⟩) (fun H locs hW => ?_)
  refine lv_iconst (v := (1 : Int32)) hx hb dX10_adds_20 (by decide) ?_
  obtain ⟨hg15, hf⟩ := z_g hf
  obtain ⟨hg16, hf⟩ := z_g hf
  obtain ⟨σ17, hs18, hf⟩ := z_l hf
  refine z_ast B hW hg15 hg16 hs18 dX10_adds_21 (fun H locs hW => ?_)
  refine lv_aload_n hx hb dX10_adds_22 rfl (lv_at hl 0 rfl) ?_
  obtain ⟨hg19, hf⟩ := z_g hf
  obtain ⟨q20, hv21, hf⟩ := z_nn hf
  refine z_getN B hW (Or.inr zf_X10_7) rfl hg19 hv21 dX10_adds_23 ?_
  refine lv_iload_n hx hb dX10_adds_26 rfl (lv_at hl 1 rfl) ?_
  refine lv_iconst (v := (2 : Int32)) hx hb dX10_adds_27 (by decide) ?_
  obtain ⟨r23, hq22, hf⟩ := z_b hf
  refine z_ci hW (z_runS (As := [.int l1, .int (2 : Int32)]) (rest := [.ref q20]) B hW zv_X10_29 (K_X10_at hq22) rfl rfl (Nat.le_of_ble_eq_true rfl) hl.1 ⟨Nat.le_of_ble_eq_true rfl, Nat.le_of_ble_eq_true rfl⟩ dX10_adds_28 ⟨Nat.le_of_ble_eq_true rfl, Nat.le_of_ble_eq_true rfl⟩) (fun H locs hW => ?_)
  refine lv_iconst (v := (0 : Int32)) hx hb dX10_adds_31 (by decide) ?_
  obtain ⟨hg24, hf⟩ := z_g hf
  obtain ⟨hg25, hf⟩ := z_g hf
  obtain ⟨σ26, hs27, hf⟩ := z_l hf
  refine z_ast B hW hg24 hg25 hs27 dX10_adds_32 (fun H locs hW => ?_)
  refine lv_aload_n hx hb dX10_adds_33 rfl (lv_at hl 0 rfl) ?_
  obtain ⟨hg28, hf⟩ := z_g hf
  obtain ⟨q29, hv30, hf⟩ := z_nn hf
  refine z_getN B hW (Or.inr zf_X10_7) rfl hg28 hv30 dX10_adds_34 ?_
  refine lv_iload_n hx hb dX10_adds_37 rfl (lv_at hl 1 rfl) ?_
  refine lv_iconst (v := (3 : Int32)) hx hb dX10_adds_38 (by decide) ?_
  obtain ⟨r32, hq31, hf⟩ := z_b hf
  refine z_ci hW (z_runS (As := [.int l1, .int (3 : Int32)]) (rest := [.ref q29]) B hW zv_X10_29 (K_X10_at hq31) rfl rfl (Nat.le_of_ble_eq_true rfl) hl.1 ⟨Nat.le_of_ble_eq_true rfl, Nat.le_of_ble_eq_true rfl⟩ dX10_adds_39 ⟨Nat.le_of_ble_eq_true rfl, Nat.le_of_ble_eq_true rfl⟩) (fun H locs hW => ?_)
  refine lv_iload_n hx hb dX10_adds_42 rfl (lv_at hl 1 rfl) ?_
  obtain ⟨hg33, hf⟩ := z_g hf
  obtain ⟨hg34, hf⟩ := z_g hf
  obtain ⟨σ35, hs36, hf⟩ := z_l hf
  refine z_ast B hW hg33 hg34 hs36 dX10_adds_43 (fun H locs hW => ?_)
  refine lv_aload_n hx hb dX10_adds_44 rfl (lv_at hl 0 rfl) ?_
  obtain ⟨hg37, hf⟩ := z_g hf
  obtain ⟨q38, hv39, hf⟩ := z_nn hf
  refine z_getN B hW (Or.inr zf_X10_7) rfl hg37 hv39 dX10_adds_45 ?_
  refine lv_iload_n hx hb dX10_adds_48 rfl (lv_at hl 1 rfl) ?_
  refine lv_iconst (v := (4 : Int32)) hx hb dX10_adds_49 (by decide) ?_
  obtain ⟨r41, hq40, hf⟩ := z_b hf
  refine z_ci hW (z_runS (As := [.int l1, .int (4 : Int32)]) (rest := [.ref q38]) B hW zv_X10_29 (K_X10_at hq40) rfl rfl (Nat.le_of_ble_eq_true rfl) hl.1 ⟨Nat.le_of_ble_eq_true rfl, Nat.le_of_ble_eq_true rfl⟩ dX10_adds_50 ⟨Nat.le_of_ble_eq_true rfl, Nat.le_of_ble_eq_true rfl⟩) (fun H locs hW => ?_)
  refine lv_iload_n hx hb dX10_adds_53 rfl (lv_at hl 1 rfl) ?_
  obtain ⟨hg42, hf⟩ := z_g hf
  obtain ⟨hg43, hf⟩ := z_g hf
  obtain ⟨σ44, hs45, hf⟩ := z_l hf
  refine z_ast B hW hg42 hg43 hs45 dX10_adds_54 (fun H locs hW => ?_)
  refine lv_aload_n hx hb dX10_adds_55 rfl (lv_at hl 0 rfl) ?_
  obtain ⟨hg46, hf⟩ := z_g hf
  obtain ⟨q47, hv48, hf⟩ := z_nn hf
  refine z_getN B hW (Or.inr zf_X10_7) rfl hg46 hv48 dX10_adds_56 ?_
  refine lv_iload_n hx hb dX10_adds_59 rfl (lv_at hl 1 rfl) ?_
  refine lv_iconst (v := (5 : Int32)) hx hb dX10_adds_60 (by decide) ?_
  obtain ⟨r50, hq49, hf⟩ := z_b hf
  refine z_ci hW (z_runS (As := [.int l1, .int (5 : Int32)]) (rest := [.ref q47]) B hW zv_X10_29 (K_X10_at hq49) rfl rfl (Nat.le_of_ble_eq_true rfl) hl.1 ⟨Nat.le_of_ble_eq_true rfl, Nat.le_of_ble_eq_true rfl⟩ dX10_adds_61 ⟨Nat.le_of_ble_eq_true rfl, Nat.le_of_ble_eq_true rfl⟩) (fun H locs hW => ?_)
  refine lv_iconst (v := (0 : Int32)) hx hb dX10_adds_64 (by decide) ?_
  obtain ⟨hg51, hf⟩ := z_g hf
  obtain ⟨hg52, hf⟩ := z_g hf
  obtain ⟨σ53, hs54, hf⟩ := z_l hf
  refine z_ast B hW hg51 hg52 hs54 dX10_adds_65 (fun H locs hW => ?_)
  refine lv_aload_n hx hb dX10_adds_66 rfl (lv_at hl 0 rfl) ?_
  obtain ⟨hg55, hf⟩ := z_g hf
  obtain ⟨q56, hv57, hf⟩ := z_nn hf
  refine z_getN B hW (Or.inr zf_X10_7) rfl hg55 hv57 dX10_adds_67 ?_
  refine lv_iload_n hx hb dX10_adds_70 rfl (lv_at hl 1 rfl) ?_
  refine lv_bipush (v := (6 : Int32)) hx hb dX10_adds_71 (by decide) ?_
  obtain ⟨r59, hq58, hf⟩ := z_b hf
  refine z_ci hW (z_runS (As := [.int l1, .int (6 : Int32)]) (rest := [.ref q56]) B hW zv_X10_29 (K_X10_at hq58) rfl rfl (Nat.le_of_ble_eq_true rfl) hl.1 ⟨Nat.le_of_ble_eq_true rfl, Nat.le_of_ble_eq_true rfl⟩ dX10_adds_73 ⟨Nat.le_of_ble_eq_true rfl, Nat.le_of_ble_eq_true rfl⟩) (fun H locs hW => ?_)
  refine lv_iconst (v := (-1 : Int32)) hx hb dX10_adds_76 (by decide) ?_
  obtain ⟨hg60, hf⟩ := z_g hf
  obtain ⟨hg61, hf⟩ := z_g hf
  obtain ⟨σ62, hs63, hf⟩ := z_l hf
  refine z_ast B hW hg60 hg61 hs63 dX10_adds_77 (fun H locs hW => ?_)
  obtain rfl := z_e1 hf
  exact z_rv B hW dX10_adds_78 (Nat.le_of_ble_eq_true rfl) (Nat.le_of_ble_eq_true rfl)
set_option maxRecDepth 100000 in
def f_X10_addStation_38 (σ : zSt) (l0 : Nat) (l1 : Int32) (s0 : Int32) (s1 : Int32) (s2 : Option Nat) : Option (Int32 × zSt) :=
(zc s2 none (fun a1 => (if z_ob σ a1 9 then (zb2 (f_X10_goes σ a1 s1 s0 (1 : Int32)) (fun r5 σ6 => (if r5 = 0 then
(some ((0 : Int32), σ6))
else
(if z_ob σ6 l0 9 then (zb (f_X10_save σ6 l0) (fun σ9 => (if z_ob σ9 l0 9 then (zb (f_X10_adds σ9 l0 l1) (fun σ12 => (if z_ob σ12 l0 9 then (zb (f_X10_stations σ12 l0) (fun r15 => (some (r15, σ12)))) else none))) else none))) else none)))) else none)))
set_option maxRecDepth 20000 in
set_option maxHeartbeats 4000000 in
theorem t_X10_addStation_38 (B : z_B p s m args meth c D cA bs RX10 cX10_addStation 3 (some .int)) {r : Int32} {σ' : zSt} {σ : zSt} {l0 : Nat} {l1 : Int32} {s0 : Int32} {s1 : Int32} {s2 : Option Nat} (hf : f_X10_addStation_38 σ l0 l1 s0 s1 s2 = some (r, σ')) {H : Heap} {locs : List Loc} {ls : Array Slot} (hW : z_Ok D cA bs s σ H locs) (hl : lv_has ls 3 [(0, .ref l0), (1, .int l1)])  : W p l e (zrm 3 0 0 65) s m args below meth c H locs 0 0 (MQ below (z_Qi D cA bs r σ') args s 0 0 (fun q => bs ≤ q)) (F0 m 38 ls [.int s0, .int s1, va_rf s2]) := by
  have hx := B.1
  have hb := B.2.1
  have hown := B.2.2.2.1
  have hts := B.2.2.2.2.1
  unfold f_X10_addStation_38 at hf
  refine lv_iconst (v := (1 : Int32)) hx hb dX10_addStation_38 (by decide) ?_
  obtain ⟨a1, hn2, hf⟩ := z_nn hf
  subst hn2
  obtain ⟨hg3, hf⟩ := z_g hf
  obtain ⟨r5, σ6, hq4, hf⟩ := z_b2 hf
  refine z_ci hW (z_runV (As := [.int s1, .int s0, .int (1 : Int32)]) (rest := []) B hW zv_X10_53 (K_X10_goes hq4) hg3 rfl rfl rfl (Nat.le_of_ble_eq_true rfl) hl.1 ⟨Nat.le_of_ble_eq_true rfl, Nat.le_of_ble_eq_true rfl⟩ dX10_addStation_39 ⟨Nat.le_of_ble_eq_true rfl, Nat.le_of_ble_eq_true rfl⟩) (fun H locs hW => ?_)
  refine lv_if_ne (tgt := 47) hx hb dX10_addStation_42 (by decide) (fun hc42 => ?_) (fun hc42 => ?_)
  · replace hf := z_in hc42 hf
    refine lv_aload_n hx hb dX10_addStation_47 rfl (lv_at hl 0 rfl) ?_
    obtain ⟨hg7, hf⟩ := z_g hf
    obtain ⟨σ9, hq8, hf⟩ := z_b hf
    refine z_cv hW (z_runV (As := []) (rest := []) B hW zv_X10_57 (K_X10_save hq8) hg7 rfl rfl rfl (Nat.le_of_ble_eq_true rfl) hl.1 ⟨Nat.le_of_ble_eq_true rfl, Nat.le_of_ble_eq_true rfl⟩ dX10_addStation_48 ⟨Nat.le_of_ble_eq_true rfl, Nat.le_of_ble_eq_true rfl⟩) (fun H locs hW => ?_)
    refine lv_aload_n hx hb dX10_addStation_51 rfl (lv_at hl 0 rfl) ?_
    refine lv_iload_n hx hb dX10_addStation_52 rfl (lv_at hl 1 rfl) ?_
    obtain ⟨hg10, hf⟩ := z_g hf
    obtain ⟨σ12, hq11, hf⟩ := z_b hf
    refine z_cv hW (z_runV (As := [.int l1]) (rest := []) B hW zv_X10_60 (K_X10_adds hq11) hg10 rfl rfl rfl (Nat.le_of_ble_eq_true rfl) hl.1 ⟨Nat.le_of_ble_eq_true rfl, Nat.le_of_ble_eq_true rfl⟩ dX10_addStation_53 ⟨Nat.le_of_ble_eq_true rfl, Nat.le_of_ble_eq_true rfl⟩) (fun H locs hW => ?_)
    refine lv_aload_n hx hb dX10_addStation_56 rfl (lv_at hl 0 rfl) ?_
    obtain ⟨hg13, hf⟩ := z_g hf
    obtain ⟨r15, hq14, hf⟩ := z_b hf
    refine z_ci hW (z_runV (As := []) (rest := []) B hW zv_X10_49 (K_X10_stations hq14) hg13 rfl rfl rfl (Nat.le_of_ble_eq_true rfl) hl.1 ⟨Nat.le_of_ble_eq_true rfl, Nat.le_of_ble_eq_true rfl⟩ dX10_addStation_57 ⟨Nat.le_of_ble_eq_true rfl, Nat.le_of_ble_eq_true rfl⟩) (fun H locs hW => ?_)
    obtain ⟨rfl, rfl⟩ := z_e2 hf
    exact z_ri B hW dX10_addStation_60 (Nat.le_of_ble_eq_true rfl) (Nat.le_of_ble_eq_true rfl)
  · replace hf := z_ip hc42 hf
    refine lv_iconst (v := (0 : Int32)) hx hb dX10_addStation_45 (by decide) ?_
    obtain ⟨rfl, rfl⟩ := z_e2 hf
    exact z_ri B hW dX10_addStation_46 (Nat.le_of_ble_eq_true rfl) (Nat.le_of_ble_eq_true rfl)
set_option maxRecDepth 100000 in
def f_X10_addStation_37 (σ : zSt) (l0 : Nat) (l1 : Int32) (s0 : Int32) (s1 : Option Nat) : Option (Int32 × zSt) :=
(f_X10_addStation_38 σ l0 l1 (0 : Int32) s0 s1)
set_option maxRecDepth 20000 in
set_option maxHeartbeats 4000000 in
theorem t_X10_addStation_37 (B : z_B p s m args meth c D cA bs RX10 cX10_addStation 3 (some .int)) {r : Int32} {σ' : zSt} {σ : zSt} {l0 : Nat} {l1 : Int32} {s0 : Int32} {s1 : Option Nat} (hf : f_X10_addStation_37 σ l0 l1 s0 s1 = some (r, σ')) {H : Heap} {locs : List Loc} {ls : Array Slot} (hW : z_Ok D cA bs s σ H locs) (hl : lv_has ls 3 [(0, .ref l0), (1, .int l1)])  : W p l e (zrm 3 0 0 65) s m args below meth c H locs 0 0 (MQ below (z_Qi D cA bs r σ') args s 0 0 (fun q => bs ≤ q)) (F0 m 37 ls [.int s0, va_rf s1]) := by
  have hx := B.1
  have hb := B.2.1
  have hown := B.2.2.2.1
  have hts := B.2.2.2.2.1
  unfold f_X10_addStation_37 at hf
  refine lv_iconst (v := (0 : Int32)) hx hb dX10_addStation_37 (by decide) ?_
  exact t_X10_addStation_38 B hf hW hl 
set_option maxRecDepth 100000 in
def f_X10_addStation (σ : zSt) (l0 : Nat) (l1 : Int32) : Option (Int32 × zSt) :=
(zb (f_X10_in σ l1.toInt64 (0 : Int64) (31 : Int64)) (fun r2 => (if r2 = 0 then
(f_X10_addStation_37 σ l0 l1 r2 (some l0))
else
(if z_ob σ l0 9 then (zb (f_X10_isStation σ l0 l1) (fun r5 => (if r5 = 0 then
(zb (f_X10_stations σ l0) (fun r7 => (if (8 : Int32) ≤ r7 then
(f_X10_addStation_37 σ l0 l1 r2 (some l0))
else
(f_X10_addStation_38 σ l0 l1 (1 : Int32) r2 (some l0)))))
else
(f_X10_addStation_37 σ l0 l1 r2 (some l0))))) else none))))
set_option maxRecDepth 20000 in
set_option maxHeartbeats 4000000 in
theorem K_X10_addStation {σ : zSt} {l0 : Nat} {l1 : Int32} {r : Int32} {σ' : zSt} (hf : f_X10_addStation σ l0 l1 = some (r, σ')) : z_M l D cA bs yX10_addStation cX10_addStation 3 (some .int) 3 65 0 0 [.ref l0, .int l1] σ (z_Qi D cA bs r σ') := by
  refine z_met (own := RX10) (lv := [(0, .ref l0), (1, .int l1)]) (by decide) rfl (Nat.le_of_ble_eq_true rfl) rfl (fun p e s m below meth c ls B hnm hW hl => ?_)
  have hx := B.1
  have hb := B.2.1
  have hown := B.2.2.2.1
  have hts := B.2.2.2.2.1
  unfold f_X10_addStation at hf
  refine lv_iload_n hx hb dX10_addStation_0 rfl (lv_at hl 1 rfl) ?_
  refine lv_i2l (v := l1.toInt64) hx hb dX10_addStation_1 rfl ?_
  refine lv_lconst (v := (0 : Int64)) hx hb dX10_addStation_2 (by decide) ?_
  refine lv_ldc2 hx hb hown (hts _ zk_X10_33) dX10_addStation_3 ?_
  obtain ⟨r2, hq1, hf⟩ := z_b hf
  refine z_ci hW (z_runS (As := [.long l1.toInt64, .long (0 : Int64), .long (31 : Int64)]) (rest := []) B hW zv_X10_35 (K_X10_in hq1) rfl rfl (Nat.le_of_ble_eq_true rfl) hl.1 ⟨Nat.le_of_ble_eq_true rfl, Nat.le_of_ble_eq_true rfl⟩ dX10_addStation_6 ⟨Nat.le_of_ble_eq_true rfl, Nat.le_of_ble_eq_true rfl⟩) (fun H locs hW => ?_)
  refine lv_istore_n (lv' := [(2, .int r2), (0, .ref l0), (1, .int l1)]) hx hb dX10_addStation_9 rfl hl (by decide) rfl (fun ls hl => ?_)
  refine lv_aload_n hx hb dX10_addStation_10 rfl (lv_at hl 1 rfl) ?_
  refine lv_iload_n hx hb dX10_addStation_11 rfl (lv_at hl 0 rfl) ?_
  refine lv_iload_n hx hb dX10_addStation_12 rfl (lv_at hl 0 rfl) ?_
  refine lv_if_eq (tgt := 37) hx hb dX10_addStation_13 (by decide) (fun hc13 => ?_) (fun hc13 => ?_)
  · replace hf := z_ip hc13 hf
    exact t_X10_addStation_37 B hf hW (lv_sub hl [1, 2] rfl) 
  · replace hf := z_in hc13 hf
    refine lv_aload_n hx hb dX10_addStation_16 rfl (lv_at hl 1 rfl) ?_
    refine lv_iload_n hx hb dX10_addStation_17 rfl (lv_at hl 2 rfl) ?_
    obtain ⟨hg3, hf⟩ := z_g hf
    obtain ⟨r5, hq4, hf⟩ := z_b hf
    refine z_ci hW (z_runV (As := [.int l1]) (rest := [.int r2, .ref l0]) B hW zv_X10_45 (K_X10_isStation hq4) hg3 rfl rfl rfl (Nat.le_of_ble_eq_true rfl) hl.1 ⟨Nat.le_of_ble_eq_true rfl, Nat.le_of_ble_eq_true rfl⟩ dX10_addStation_18 ⟨Nat.le_of_ble_eq_true rfl, Nat.le_of_ble_eq_true rfl⟩) (fun H locs hW => ?_)
    refine lv_if_ne (tgt := 37) hx hb dX10_addStation_21 (by decide) (fun hc21 => ?_) (fun hc21 => ?_)
    · replace hf := z_in hc21 hf
      exact t_X10_addStation_37 B hf hW (lv_sub hl [1, 2] rfl) 
    · replace hf := z_ip hc21 hf
      refine lv_aload_n hx hb dX10_addStation_24 rfl (lv_at hl 1 rfl) ?_
      obtain ⟨r7, hq6, hf⟩ := z_b hf
      refine z_ci hW (z_runV (As := []) (rest := [.int r2, .ref l0]) B hW zv_X10_49 (K_X10_stations hq6) hg3 rfl rfl rfl (Nat.le_of_ble_eq_true rfl) hl.1 ⟨Nat.le_of_ble_eq_true rfl, Nat.le_of_ble_eq_true rfl⟩ dX10_addStation_25 ⟨Nat.le_of_ble_eq_true rfl, Nat.le_of_ble_eq_true rfl⟩) (fun H locs hW => ?_)
      refine lv_bipush (v := (8 : Int32)) hx hb dX10_addStation_28 (by decide) ?_
      refine lv_icmp_ge (tgt := 37) hx hb dX10_addStation_30 (by decide) (fun hc30 => ?_) (fun hc30 => ?_)
      · replace hf := z_ip hc30 hf
        exact t_X10_addStation_37 B hf hW (lv_sub hl [1, 2] rfl) 
      · replace hf := z_in hc30 hf
        refine lv_iconst (v := (1 : Int32)) hx hb dX10_addStation_33 (by decide) ?_
        refine lv_goto (tgt := 38) hx hb dX10_addStation_34 (by decide) ?_
        exact t_X10_addStation_38 B hf hW (lv_sub hl [1, 2] rfl) 
set_option maxRecDepth 100000 in
def f_X10_setOn_111 (σ : zSt) (l3 : Int32) : Option (Int32 × zSt) :=
(if z_bl l3 then (some (l3, σ)) else none)
set_option maxRecDepth 20000 in
set_option maxHeartbeats 4000000 in
theorem t_X10_setOn_111 (B : z_B p s m args meth c D cA bs RX10 cX10_setOn 4 (some .boolean)) {r : Int32} {σ' : zSt} {σ : zSt} {l3 : Int32} (hf : f_X10_setOn_111 σ l3 = some (r, σ')) {H : Heap} {locs : List Loc} {ls : Array Slot} (hW : z_Ok D cA bs s σ H locs) (hl : lv_has ls 4 [(3, .int l3)])  : W p l e (zrm 3 0 0 64) s m args below meth c H locs 0 0 (MQ below (z_Qi D cA bs r σ') args s 0 0 (fun q => bs ≤ q)) (F0 m 111 ls []) := by
  have hx := B.1
  have hb := B.2.1
  have hown := B.2.2.2.1
  have hts := B.2.2.2.2.1
  unfold f_X10_setOn_111 at hf
  refine lv_iload_n hx hb dX10_setOn_111 rfl (lv_at hl 0 rfl) ?_
  obtain ⟨hg1, hf⟩ := z_g hf
  obtain ⟨rfl, rfl⟩ := z_e2 hf
  exact z_rz hg1 B hW dX10_setOn_112 (Nat.le_of_ble_eq_true rfl) (Nat.le_of_ble_eq_true rfl)
set_option maxRecDepth 100000 in
def f_X10_setOn_92 (σ : zSt) (l0 : Nat) (l1 : Int32) (l2 : Int32) (l3 : Int32) : Option (Int32 × zSt) :=
(if l3 = 0 then
(if l2 = 0 then
(f_X10_setOn_111 σ l3)
else
(if z_ob σ l0 9 then (zc (z_R σ l0 0) none (fun q2 => (zb (f_X10_at σ l1 (1 : Int32)) (fun r5 => (if z_ar σ q2 0 then (if z_ix r5 (z_ln σ q2) then (zl (z_pI σ q2 r5.toNatClampNeg (1 : Int32)) (fun σ8 => (f_X10_setOn_111 σ8 l3))) else none) else none))))) else none))
else
(f_X10_setOn_111 σ l3))
set_option maxRecDepth 20000 in
set_option maxHeartbeats 4000000 in
theorem t_X10_setOn_92 (B : z_B p s m args meth c D cA bs RX10 cX10_setOn 4 (some .boolean)) {r : Int32} {σ' : zSt} {σ : zSt} {l0 : Nat} {l1 : Int32} {l2 : Int32} {l3 : Int32} (hf : f_X10_setOn_92 σ l0 l1 l2 l3 = some (r, σ')) {H : Heap} {locs : List Loc} {ls : Array Slot} (hW : z_Ok D cA bs s σ H locs) (hl : lv_has ls 4 [(0, .ref l0), (1, .int l1), (2, .int l2), (3, .int l3)])  : W p l e (zrm 3 0 0 64) s m args below meth c H locs 0 0 (MQ below (z_Qi D cA bs r σ') args s 0 0 (fun q => bs ≤ q)) (F0 m 92 ls []) := by
  have hx := B.1
  have hb := B.2.1
  have hown := B.2.2.2.1
  have hts := B.2.2.2.2.1
  unfold f_X10_setOn_92 at hf
  refine lv_iload_n hx hb dX10_setOn_92 rfl (lv_at hl 3 rfl) ?_
  refine lv_if_ne (tgt := 111) hx hb dX10_setOn_93 (by decide) (fun hc93 => ?_) (fun hc93 => ?_)
  · replace hf := z_in hc93 hf
    exact t_X10_setOn_111 B hf hW (lv_sub hl [3] rfl) 
  · replace hf := z_ip hc93 hf
    refine lv_iload_n hx hb dX10_setOn_96 rfl (lv_at hl 2 rfl) ?_
    refine lv_if_eq (tgt := 111) hx hb dX10_setOn_97 (by decide) (fun hc97 => ?_) (fun hc97 => ?_)
    · replace hf := z_ip hc97 hf
      exact t_X10_setOn_111 B hf hW (lv_sub hl [3] rfl) 
    · replace hf := z_in hc97 hf
      refine lv_aload_n hx hb dX10_setOn_100 rfl (lv_at hl 0 rfl) ?_
      obtain ⟨hg1, hf⟩ := z_g hf
      obtain ⟨q2, hv3, hf⟩ := z_nn hf
      refine z_getN B hW (Or.inr zf_X10_7) rfl hg1 hv3 dX10_setOn_101 ?_
      refine lv_iload_n hx hb dX10_setOn_104 rfl (lv_at hl 1 rfl) ?_
      refine lv_iconst (v := (1 : Int32)) hx hb dX10_setOn_105 (by decide) ?_
      obtain ⟨r5, hq4, hf⟩ := z_b hf
      refine z_ci hW (z_runS (As := [.int l1, .int (1 : Int32)]) (rest := [.ref q2]) B hW zv_X10_29 (K_X10_at hq4) rfl rfl (Nat.le_of_ble_eq_true rfl) hl.1 ⟨Nat.le_of_ble_eq_true rfl, Nat.le_of_ble_eq_true rfl⟩ dX10_setOn_106 ⟨Nat.le_of_ble_eq_true rfl, Nat.le_of_ble_eq_true rfl⟩) (fun H locs hW => ?_)
      refine lv_iconst (v := (1 : Int32)) hx hb dX10_setOn_109 (by decide) ?_
      obtain ⟨hg6, hf⟩ := z_g hf
      obtain ⟨hg7, hf⟩ := z_g hf
      obtain ⟨σ8, hs9, hf⟩ := z_l hf
      refine z_ast B hW hg6 hg7 hs9 dX10_setOn_110 (fun H locs hW => ?_)
      exact t_X10_setOn_111 B hf hW (lv_sub hl [3] rfl) 
set_option maxRecDepth 100000 in
def f_X10_setOn_91 (σ : zSt) (l0 : Nat) (l1 : Int32) (l2 : Int32) (l3 : Int32) (s0 : Int32) (s1 : Int32) (s2 : Option Nat) : Option (Int32 × zSt) :=
(zc s2 none (fun a1 => (if z_ar σ a1 0 then (if z_ix s1 (z_ln σ a1) then (zl (z_pI σ a1 s1.toNatClampNeg s0) (fun σ5 => (f_X10_setOn_92 σ5 l0 l1 l2 l3))) else none) else none)))
set_option maxRecDepth 20000 in
set_option maxHeartbeats 4000000 in
theorem t_X10_setOn_91 (B : z_B p s m args meth c D cA bs RX10 cX10_setOn 4 (some .boolean)) {r : Int32} {σ' : zSt} {σ : zSt} {l0 : Nat} {l1 : Int32} {l2 : Int32} {l3 : Int32} {s0 : Int32} {s1 : Int32} {s2 : Option Nat} (hf : f_X10_setOn_91 σ l0 l1 l2 l3 s0 s1 s2 = some (r, σ')) {H : Heap} {locs : List Loc} {ls : Array Slot} (hW : z_Ok D cA bs s σ H locs) (hl : lv_has ls 4 [(0, .ref l0), (1, .int l1), (2, .int l2), (3, .int l3)])  : W p l e (zrm 3 0 0 64) s m args below meth c H locs 0 0 (MQ below (z_Qi D cA bs r σ') args s 0 0 (fun q => bs ≤ q)) (F0 m 91 ls [.int s0, .int s1, va_rf s2]) := by
  have hx := B.1
  have hb := B.2.1
  have hown := B.2.2.2.1
  have hts := B.2.2.2.2.1
  unfold f_X10_setOn_91 at hf
  obtain ⟨a1, hn2, hf⟩ := z_nn hf
  subst hn2
  obtain ⟨hg3, hf⟩ := z_g hf
  obtain ⟨hg4, hf⟩ := z_g hf
  obtain ⟨σ5, hs6, hf⟩ := z_l hf
  refine z_ast B hW hg3 hg4 hs6 dX10_setOn_91 (fun H locs hW => ?_)
  exact t_X10_setOn_92 B hf hW hl 
set_option maxRecDepth 100000 in
def f_X10_setOn_35 (σ : zSt) (l0 : Nat) (l1 : Int32) (l2 : Int32) (s0 : Int32) : Option (Int32 × zSt) :=
(if s0 = 0 then
(f_X10_setOn_92 σ l0 l1 l2 s0)
else
(if l2 = 0 then
(if z_ob σ l0 9 then (zc (z_R σ l0 0) none (fun q2 => (zb (f_X10_at σ l1 (1 : Int32)) (fun r5 => (if z_ar σ q2 0 then (if z_ix r5 (z_ln σ q2) then (zl (z_pI σ q2 r5.toNatClampNeg (0 : Int32)) (fun σ8 => (if z_ob σ8 l0 9 then (zc (z_R σ8 l0 0) none (fun q11 => (zb (f_X10_at σ8 l1 (2 : Int32)) (fun r14 => (if z_ar σ8 q11 0 then (if z_ix r14 (z_ln σ8 q11) then (zl (z_pI σ8 q11 r14.toNatClampNeg (0 : Int32)) (fun σ17 => (if z_ob σ17 l0 9 then (zc (z_R σ17 l0 0) none (fun q20 => (zc (z_R σ17 l0 0) none (fun q22 => (if z_ar σ17 q22 0 then (if z_ix (4 : Int32) (z_ln σ17 q22) then (if (z_I σ17 q22 (4 : Int32).toNatClampNeg) = l1 then
(f_X10_setOn_91 σ17 l0 l1 l2 s0 (-1 : Int32) (4 : Int32) (some q20))
else
(zc (z_R σ17 l0 0) none (fun q26 => (if z_ar σ17 q26 0 then (if z_ix (4 : Int32) (z_ln σ17 q26) then (f_X10_setOn_91 σ17 l0 l1 l2 s0 (z_I σ17 q26 (4 : Int32).toNatClampNeg) (4 : Int32) (some q20)) else none) else none)))) else none) else none))))) else none))) else none) else none))))) else none))) else none) else none))))) else none)
else
(f_X10_setOn_92 σ l0 l1 l2 s0)))
set_option maxRecDepth 20000 in
set_option maxHeartbeats 4000000 in
theorem t_X10_setOn_35 (B : z_B p s m args meth c D cA bs RX10 cX10_setOn 4 (some .boolean)) {r : Int32} {σ' : zSt} {σ : zSt} {l0 : Nat} {l1 : Int32} {l2 : Int32} {s0 : Int32} (hf : f_X10_setOn_35 σ l0 l1 l2 s0 = some (r, σ')) {H : Heap} {locs : List Loc} {ls : Array Slot} (hW : z_Ok D cA bs s σ H locs) (hl : lv_has ls 4 [(0, .ref l0), (1, .int l1), (2, .int l2)])  : W p l e (zrm 3 0 0 64) s m args below meth c H locs 0 0 (MQ below (z_Qi D cA bs r σ') args s 0 0 (fun q => bs ≤ q)) (F0 m 35 ls [.int s0]) := by
  have hx := B.1
  have hb := B.2.1
  have hown := B.2.2.2.1
  have hts := B.2.2.2.2.1
  unfold f_X10_setOn_35 at hf
  refine lv_istore_n (lv' := [(3, .int s0), (0, .ref l0), (1, .int l1), (2, .int l2)]) hx hb dX10_setOn_35 rfl hl (by decide) rfl (fun ls hl => ?_)
  refine lv_iload_n hx hb dX10_setOn_36 rfl (lv_at hl 0 rfl) ?_
  refine lv_if_eq (tgt := 92) hx hb dX10_setOn_37 (by decide) (fun hc37 => ?_) (fun hc37 => ?_)
  · replace hf := z_ip hc37 hf
    exact t_X10_setOn_92 B hf hW (lv_sub hl [1, 2, 3, 0] rfl) 
  · replace hf := z_in hc37 hf
    refine lv_iload_n hx hb dX10_setOn_40 rfl (lv_at hl 3 rfl) ?_
    refine lv_if_ne (tgt := 92) hx hb dX10_setOn_41 (by decide) (fun hc41 => ?_) (fun hc41 => ?_)
    · replace hf := z_in hc41 hf
      exact t_X10_setOn_92 B hf hW (lv_sub hl [1, 2, 3, 0] rfl) 
    · replace hf := z_ip hc41 hf
      refine lv_aload_n hx hb dX10_setOn_44 rfl (lv_at hl 1 rfl) ?_
      obtain ⟨hg1, hf⟩ := z_g hf
      obtain ⟨q2, hv3, hf⟩ := z_nn hf
      refine z_getN B hW (Or.inr zf_X10_7) rfl hg1 hv3 dX10_setOn_45 ?_
      refine lv_iload_n hx hb dX10_setOn_48 rfl (lv_at hl 2 rfl) ?_
      refine lv_iconst (v := (1 : Int32)) hx hb dX10_setOn_49 (by decide) ?_
      obtain ⟨r5, hq4, hf⟩ := z_b hf
      refine z_ci hW (z_runS (As := [.int l1, .int (1 : Int32)]) (rest := [.ref q2]) B hW zv_X10_29 (K_X10_at hq4) rfl rfl (Nat.le_of_ble_eq_true rfl) hl.1 ⟨Nat.le_of_ble_eq_true rfl, Nat.le_of_ble_eq_true rfl⟩ dX10_setOn_50 ⟨Nat.le_of_ble_eq_true rfl, Nat.le_of_ble_eq_true rfl⟩) (fun H locs hW => ?_)
      refine lv_iconst (v := (0 : Int32)) hx hb dX10_setOn_53 (by decide) ?_
      obtain ⟨hg6, hf⟩ := z_g hf
      obtain ⟨hg7, hf⟩ := z_g hf
      obtain ⟨σ8, hs9, hf⟩ := z_l hf
      refine z_ast B hW hg6 hg7 hs9 dX10_setOn_54 (fun H locs hW => ?_)
      refine lv_aload_n hx hb dX10_setOn_55 rfl (lv_at hl 1 rfl) ?_
      obtain ⟨hg10, hf⟩ := z_g hf
      obtain ⟨q11, hv12, hf⟩ := z_nn hf
      refine z_getN B hW (Or.inr zf_X10_7) rfl hg10 hv12 dX10_setOn_56 ?_
      refine lv_iload_n hx hb dX10_setOn_59 rfl (lv_at hl 2 rfl) ?_
      refine lv_iconst (v := (2 : Int32)) hx hb dX10_setOn_60 (by decide) ?_
      obtain ⟨r14, hq13, hf⟩ := z_b hf
      refine z_ci hW (z_runS (As := [.int l1, .int (2 : Int32)]) (rest := [.ref q11]) B hW zv_X10_29 (K_X10_at hq13) rfl rfl (Nat.le_of_ble_eq_true rfl) hl.1 ⟨Nat.le_of_ble_eq_true rfl, Nat.le_of_ble_eq_true rfl⟩ dX10_setOn_61 ⟨Nat.le_of_ble_eq_true rfl, Nat.le_of_ble_eq_true rfl⟩) (fun H locs hW => ?_)
      refine lv_iconst (v := (0 : Int32)) hx hb dX10_setOn_64 (by decide) ?_
      obtain ⟨hg15, hf⟩ := z_g hf
      obtain ⟨hg16, hf⟩ := z_g hf
      obtain ⟨σ17, hs18, hf⟩ := z_l hf
      refine z_ast B hW hg15 hg16 hs18 dX10_setOn_65 (fun H locs hW => ?_)
      refine lv_aload_n hx hb dX10_setOn_66 rfl (lv_at hl 1 rfl) ?_
      obtain ⟨hg19, hf⟩ := z_g hf
      obtain ⟨q20, hv21, hf⟩ := z_nn hf
      refine z_getN B hW (Or.inr zf_X10_7) rfl hg19 hv21 dX10_setOn_67 ?_
      refine lv_iconst (v := (4 : Int32)) hx hb dX10_setOn_70 (by decide) ?_
      refine lv_aload_n hx hb dX10_setOn_71 rfl (lv_at hl 1 rfl) ?_
      obtain ⟨q22, hv23, hf⟩ := z_nn hf
      refine z_getN B hW (Or.inr zf_X10_7) rfl hg19 hv23 dX10_setOn_72 ?_
      refine lv_iconst (v := (4 : Int32)) hx hb dX10_setOn_75 (by decide) ?_
      obtain ⟨hg24, hf⟩ := z_g hf
      obtain ⟨hg25, hf⟩ := z_g hf
      refine z_ald B hW hg24 hg25 dX10_setOn_76 ?_
      refine lv_iload_n hx hb dX10_setOn_77 rfl (lv_at hl 2 rfl) ?_
      refine lv_icmp_ne (tgt := 85) hx hb dX10_setOn_78 (by decide) (fun hc78 => ?_) (fun hc78 => ?_)
      · replace hf := z_in hc78 hf
        refine lv_aload_n hx hb dX10_setOn_85 rfl (lv_at hl 1 rfl) ?_
        obtain ⟨q26, hv27, hf⟩ := z_nn hf
        refine z_getN B hW (Or.inr zf_X10_7) rfl hg19 hv27 dX10_setOn_86 ?_
        refine lv_iconst (v := (4 : Int32)) hx hb dX10_setOn_89 (by decide) ?_
        obtain ⟨hg28, hf⟩ := z_g hf
        obtain ⟨hg29, hf⟩ := z_g hf
        refine z_ald B hW hg28 hg29 dX10_setOn_90 ?_
        exact t_X10_setOn_91 B hf hW (lv_sub hl [1, 2, 3, 0] rfl) 
      · replace hf := z_ip hc78 hf
        refine lv_iconst (v := (-1 : Int32)) hx hb dX10_setOn_81 (by decide) ?_
        refine lv_goto (tgt := 91) hx hb dX10_setOn_82 (by decide) ?_
        exact t_X10_setOn_91 B hf hW (lv_sub hl [1, 2, 3, 0] rfl) 
set_option maxRecDepth 100000 in
def f_X10_setOn (σ : zSt) (l0 : Nat) (l1 : Int32) (l2 : Int32) : Option (Int32 × zSt) :=
(if z_ob σ l0 9 then (zb (f_X10_isStation σ l0 l1) (fun r3 => (zb2 (f_X10_goes σ l0 r3 (1 : Int32) (1 : Int32)) (fun r5 σ6 => (if r5 = 0 then
(some ((0 : Int32), σ6))
else
(if z_ob σ6 l0 9 then (zb (f_X10_save σ6 l0) (fun σ9 => (if z_ob σ9 l0 9 then (zb (f_X10_of σ9 l0 l1 (1 : Int32)) (fun r12 => (if r12 = (1 : Int32) then
(f_X10_setOn_35 σ9 l0 l1 l2 (1 : Int32))
else
(f_X10_setOn_35 σ9 l0 l1 l2 (0 : Int32))))) else none))) else none)))))) else none)
set_option maxRecDepth 20000 in
set_option maxHeartbeats 4000000 in
theorem K_X10_setOn {σ : zSt} {l0 : Nat} {l1 : Int32} {l2 : Int32} {r : Int32} {σ' : zSt} (hf : f_X10_setOn σ l0 l1 l2 = some (r, σ')) : z_M l D cA bs yX10_setOn cX10_setOn 4 (some .boolean) 3 64 0 0 [.ref l0, .int l1, .int l2] σ (z_Qi D cA bs r σ') := by
  refine z_met (own := RX10) (lv := [(0, .ref l0), (1, .int l1), (2, .int l2)]) (by decide) rfl (Nat.le_of_ble_eq_true rfl) rfl (fun p e s m below meth c ls B hnm hW hl => ?_)
  have hx := B.1
  have hb := B.2.1
  have hown := B.2.2.2.1
  have hts := B.2.2.2.2.1
  unfold f_X10_setOn at hf
  refine lv_aload_n hx hb dX10_setOn_0 rfl (lv_at hl 0 rfl) ?_
  refine lv_aload_n hx hb dX10_setOn_1 rfl (lv_at hl 0 rfl) ?_
  refine lv_iload_n hx hb dX10_setOn_2 rfl (lv_at hl 1 rfl) ?_
  obtain ⟨hg1, hf⟩ := z_g hf
  obtain ⟨r3, hq2, hf⟩ := z_b hf
  refine z_ci hW (z_runV (As := [.int l1]) (rest := [.ref l0]) B hW zv_X10_45 (K_X10_isStation hq2) hg1 rfl rfl rfl (Nat.le_of_ble_eq_true rfl) hl.1 ⟨Nat.le_of_ble_eq_true rfl, Nat.le_of_ble_eq_true rfl⟩ dX10_setOn_3 ⟨Nat.le_of_ble_eq_true rfl, Nat.le_of_ble_eq_true rfl⟩) (fun H locs hW => ?_)
  refine lv_iconst (v := (1 : Int32)) hx hb dX10_setOn_6 (by decide) ?_
  refine lv_iconst (v := (1 : Int32)) hx hb dX10_setOn_7 (by decide) ?_
  obtain ⟨r5, σ6, hq4, hf⟩ := z_b2 hf
  refine z_ci hW (z_runV (As := [.int r3, .int (1 : Int32), .int (1 : Int32)]) (rest := []) B hW zv_X10_53 (K_X10_goes hq4) hg1 rfl rfl rfl (Nat.le_of_ble_eq_true rfl) hl.1 ⟨Nat.le_of_ble_eq_true rfl, Nat.le_of_ble_eq_true rfl⟩ dX10_setOn_8 ⟨Nat.le_of_ble_eq_true rfl, Nat.le_of_ble_eq_true rfl⟩) (fun H locs hW => ?_)
  refine lv_if_ne (tgt := 16) hx hb dX10_setOn_11 (by decide) (fun hc11 => ?_) (fun hc11 => ?_)
  · replace hf := z_in hc11 hf
    refine lv_aload_n hx hb dX10_setOn_16 rfl (lv_at hl 0 rfl) ?_
    obtain ⟨hg7, hf⟩ := z_g hf
    obtain ⟨σ9, hq8, hf⟩ := z_b hf
    refine z_cv hW (z_runV (As := []) (rest := []) B hW zv_X10_57 (K_X10_save hq8) hg7 rfl rfl rfl (Nat.le_of_ble_eq_true rfl) hl.1 ⟨Nat.le_of_ble_eq_true rfl, Nat.le_of_ble_eq_true rfl⟩ dX10_setOn_17 ⟨Nat.le_of_ble_eq_true rfl, Nat.le_of_ble_eq_true rfl⟩) (fun H locs hW => ?_)
    refine lv_aload_n hx hb dX10_setOn_20 rfl (lv_at hl 0 rfl) ?_
    refine lv_iload_n hx hb dX10_setOn_21 rfl (lv_at hl 1 rfl) ?_
    refine lv_iconst (v := (1 : Int32)) hx hb dX10_setOn_22 (by decide) ?_
    obtain ⟨hg10, hf⟩ := z_g hf
    obtain ⟨r12, hq11, hf⟩ := z_b hf
    refine z_ci hW (z_runV (As := [.int l1, .int (1 : Int32)]) (rest := []) B hW zv_X10_39 (K_X10_of hq11) hg10 rfl rfl rfl (Nat.le_of_ble_eq_true rfl) hl.1 ⟨Nat.le_of_ble_eq_true rfl, Nat.le_of_ble_eq_true rfl⟩ dX10_setOn_23 ⟨Nat.le_of_ble_eq_true rfl, Nat.le_of_ble_eq_true rfl⟩) (fun H locs hW => ?_)
    refine lv_iconst (v := (1 : Int32)) hx hb dX10_setOn_26 (by decide) ?_
    refine lv_icmp_ne (tgt := 34) hx hb dX10_setOn_27 (by decide) (fun hc27 => ?_) (fun hc27 => ?_)
    · replace hf := z_in hc27 hf
      refine lv_iconst (v := (0 : Int32)) hx hb dX10_setOn_34 (by decide) ?_
      exact t_X10_setOn_35 B hf hW hl 
    · replace hf := z_ip hc27 hf
      refine lv_iconst (v := (1 : Int32)) hx hb dX10_setOn_30 (by decide) ?_
      refine lv_goto (tgt := 35) hx hb dX10_setOn_31 (by decide) ?_
      exact t_X10_setOn_35 B hf hW hl 
  · replace hf := z_ip hc11 hf
    refine lv_iconst (v := (0 : Int32)) hx hb dX10_setOn_14 (by decide) ?_
    obtain ⟨rfl, rfl⟩ := z_e2 hf
    exact z_rz (by decide) B hW dX10_setOn_15 (Nat.le_of_ble_eq_true rfl) (Nat.le_of_ble_eq_true rfl)
set_option maxRecDepth 100000 in
def f_X10_setTimes_42 (σ : zSt) (l0 : Nat) (l1 : Int32) (l2 : Int32) (l3 : Int32) (s0 : Int32) (s1 : Option Nat) : Option (Int32 × zSt) :=
(zc s1 none (fun a1 => (if z_ob σ a1 9 then (zb2 (f_X10_goes σ a1 s0 (1 : Int32) (1 : Int32)) (fun r5 σ6 => (if r5 = 0 then
(some ((0 : Int32), σ6))
else
(if z_ob σ6 l0 9 then (zb (f_X10_save σ6 l0) (fun σ9 => (if z_ob σ9 l0 9 then (zc (z_R σ9 l0 0) none (fun q11 => (if z_ar σ9 q11 0 then (if z_ix (0 : Int32) (z_ln σ9 q11) then (zl (z_I σ9 q11 (0 : Int32).toNatClampNeg) (fun x15 => (zc (z_R σ9 l0 0) none (fun q17 => (if z_ar σ9 q17 0 then (if z_ix (0 : Int32) (z_ln σ9 q17) then (zl (z_pI σ9 q17 (0 : Int32).toNatClampNeg l1) (fun σ21 => (if z_ob σ21 l0 9 then (zc (z_R σ21 l0 0) none (fun q24 => (if z_ar σ21 q24 0 then (if z_ix (1 : Int32) (z_ln σ21 q24) then (zl (z_pI σ21 q24 (1 : Int32).toNatClampNeg l2) (fun σ28 => (if z_ob σ28 l0 9 then (zc (z_R σ28 l0 0) none (fun q31 => (if z_ar σ28 q31 0 then (if z_ix (2 : Int32) (z_ln σ28 q31) then (zl (z_pI σ28 q31 (2 : Int32).toNatClampNeg l3) (fun σ35 => (some (x15, σ35)))) else none) else none))) else none))) else none) else none))) else none))) else none) else none))))) else none) else none))) else none))) else none)))) else none)))
set_option maxRecDepth 20000 in
set_option maxHeartbeats 4000000 in
theorem t_X10_setTimes_42 (B : z_B p s m args meth c D cA bs RX10 cX10_setTimes 5 (some .int)) {r : Int32} {σ' : zSt} {σ : zSt} {l0 : Nat} {l1 : Int32} {l2 : Int32} {l3 : Int32} {s0 : Int32} {s1 : Option Nat} (hf : f_X10_setTimes_42 σ l0 l1 l2 l3 s0 s1 = some (r, σ')) {H : Heap} {locs : List Loc} {ls : Array Slot} (hW : z_Ok D cA bs s σ H locs) (hl : lv_has ls 5 [(0, .ref l0), (1, .int l1), (2, .int l2), (3, .int l3)])  : W p l e (zrm 1 0 0 25) s m args below meth c H locs 0 0 (MQ below (z_Qi D cA bs r σ') args s 0 0 (fun q => bs ≤ q)) (F0 m 42 ls [.int s0, va_rf s1]) := by
  have hx := B.1
  have hb := B.2.1
  have hown := B.2.2.2.1
  have hts := B.2.2.2.2.1
  unfold f_X10_setTimes_42 at hf
  refine lv_iconst (v := (1 : Int32)) hx hb dX10_setTimes_42 (by decide) ?_
  refine lv_iconst (v := (1 : Int32)) hx hb dX10_setTimes_43 (by decide) ?_
  obtain ⟨a1, hn2, hf⟩ := z_nn hf
  subst hn2
  obtain ⟨hg3, hf⟩ := z_g hf
  obtain ⟨r5, σ6, hq4, hf⟩ := z_b2 hf
  refine z_ci hW (z_runV (As := [.int s0, .int (1 : Int32), .int (1 : Int32)]) (rest := []) B hW zv_X10_53 (K_X10_goes hq4) hg3 rfl rfl rfl (Nat.le_of_ble_eq_true rfl) hl.1 ⟨Nat.le_of_ble_eq_true rfl, Nat.le_of_ble_eq_true rfl⟩ dX10_setTimes_44 ⟨Nat.le_of_ble_eq_true rfl, Nat.le_of_ble_eq_true rfl⟩) (fun H locs hW => ?_)
  refine lv_if_ne (tgt := 52) hx hb dX10_setTimes_47 (by decide) (fun hc47 => ?_) (fun hc47 => ?_)
  · replace hf := z_in hc47 hf
    refine lv_aload_n hx hb dX10_setTimes_52 rfl (lv_at hl 0 rfl) ?_
    obtain ⟨hg7, hf⟩ := z_g hf
    obtain ⟨σ9, hq8, hf⟩ := z_b hf
    refine z_cv hW (z_runV (As := []) (rest := []) B hW zv_X10_57 (K_X10_save hq8) hg7 rfl rfl rfl (Nat.le_of_ble_eq_true rfl) hl.1 ⟨Nat.le_of_ble_eq_true rfl, Nat.le_of_ble_eq_true rfl⟩ dX10_setTimes_53 ⟨Nat.le_of_ble_eq_true rfl, Nat.le_of_ble_eq_true rfl⟩) (fun H locs hW => ?_)
    refine lv_aload_n hx hb dX10_setTimes_56 rfl (lv_at hl 0 rfl) ?_
    obtain ⟨hg10, hf⟩ := z_g hf
    obtain ⟨q11, hv12, hf⟩ := z_nn hf
    refine z_getN B hW (Or.inr zf_X10_7) rfl hg10 hv12 dX10_setTimes_57 ?_
    refine lv_iconst (v := (0 : Int32)) hx hb dX10_setTimes_60 (by decide) ?_
    obtain ⟨hg13, hf⟩ := z_g hf
    obtain ⟨hg14, hf⟩ := z_g hf
    refine z_ald B hW hg13 hg14 dX10_setTimes_61 ?_
    obtain ⟨x15, hx16, hf⟩ := z_l hf
    rw [hx16]
    refine lv_istore (lv' := [(4, .int x15), (0, .ref l0), (1, .int l1), (2, .int l2), (3, .int l3)]) hx hb dX10_setTimes_62 hl (by decide) rfl (fun ls hl => ?_)
    refine lv_aload_n hx hb dX10_setTimes_64 rfl (lv_at hl 1 rfl) ?_
    obtain ⟨q17, hv18, hf⟩ := z_nn hf
    refine z_getN B hW (Or.inr zf_X10_7) rfl hg10 hv18 dX10_setTimes_65 ?_
    refine lv_iconst (v := (0 : Int32)) hx hb dX10_setTimes_68 (by decide) ?_
    refine lv_iload_n hx hb dX10_setTimes_69 rfl (lv_at hl 2 rfl) ?_
    obtain ⟨hg19, hf⟩ := z_g hf
    obtain ⟨hg20, hf⟩ := z_g hf
    obtain ⟨σ21, hs22, hf⟩ := z_l hf
    refine z_ast B hW hg19 hg20 hs22 dX10_setTimes_70 (fun H locs hW => ?_)
    refine lv_aload_n hx hb dX10_setTimes_71 rfl (lv_at hl 1 rfl) ?_
    obtain ⟨hg23, hf⟩ := z_g hf
    obtain ⟨q24, hv25, hf⟩ := z_nn hf
    refine z_getN B hW (Or.inr zf_X10_7) rfl hg23 hv25 dX10_setTimes_72 ?_
    refine lv_iconst (v := (1 : Int32)) hx hb dX10_setTimes_75 (by decide) ?_
    refine lv_iload_n hx hb dX10_setTimes_76 rfl (lv_at hl 3 rfl) ?_
    obtain ⟨hg26, hf⟩ := z_g hf
    obtain ⟨hg27, hf⟩ := z_g hf
    obtain ⟨σ28, hs29, hf⟩ := z_l hf
    refine z_ast B hW hg26 hg27 hs29 dX10_setTimes_77 (fun H locs hW => ?_)
    refine lv_aload_n hx hb dX10_setTimes_78 rfl (lv_at hl 1 rfl) ?_
    obtain ⟨hg30, hf⟩ := z_g hf
    obtain ⟨q31, hv32, hf⟩ := z_nn hf
    refine z_getN B hW (Or.inr zf_X10_7) rfl hg30 hv32 dX10_setTimes_79 ?_
    refine lv_iconst (v := (2 : Int32)) hx hb dX10_setTimes_82 (by decide) ?_
    refine lv_iload_n hx hb dX10_setTimes_83 rfl (lv_at hl 4 rfl) ?_
    obtain ⟨hg33, hf⟩ := z_g hf
    obtain ⟨hg34, hf⟩ := z_g hf
    obtain ⟨σ35, hs36, hf⟩ := z_l hf
    refine z_ast B hW hg33 hg34 hs36 dX10_setTimes_84 (fun H locs hW => ?_)
    refine lv_iload hx hb dX10_setTimes_85 (lv_at hl 0 rfl) ?_
    obtain ⟨rfl, rfl⟩ := z_e2 hf
    exact z_ri B hW dX10_setTimes_87 (Nat.le_of_ble_eq_true rfl) (Nat.le_of_ble_eq_true rfl)
  · replace hf := z_ip hc47 hf
    refine lv_iconst (v := (0 : Int32)) hx hb dX10_setTimes_50 (by decide) ?_
    obtain ⟨rfl, rfl⟩ := z_e2 hf
    exact z_ri B hW dX10_setTimes_51 (Nat.le_of_ble_eq_true rfl) (Nat.le_of_ble_eq_true rfl)
set_option maxRecDepth 100000 in
def f_X10_setTimes_41 (σ : zSt) (l0 : Nat) (l1 : Int32) (l2 : Int32) (l3 : Int32) (s0 : Option Nat) : Option (Int32 × zSt) :=
(f_X10_setTimes_42 σ l0 l1 l2 l3 (0 : Int32) s0)
set_option maxRecDepth 20000 in
set_option maxHeartbeats 4000000 in
theorem t_X10_setTimes_41 (B : z_B p s m args meth c D cA bs RX10 cX10_setTimes 5 (some .int)) {r : Int32} {σ' : zSt} {σ : zSt} {l0 : Nat} {l1 : Int32} {l2 : Int32} {l3 : Int32} {s0 : Option Nat} (hf : f_X10_setTimes_41 σ l0 l1 l2 l3 s0 = some (r, σ')) {H : Heap} {locs : List Loc} {ls : Array Slot} (hW : z_Ok D cA bs s σ H locs) (hl : lv_has ls 5 [(0, .ref l0), (1, .int l1), (2, .int l2), (3, .int l3)])  : W p l e (zrm 1 0 0 25) s m args below meth c H locs 0 0 (MQ below (z_Qi D cA bs r σ') args s 0 0 (fun q => bs ≤ q)) (F0 m 41 ls [va_rf s0]) := by
  have hx := B.1
  have hb := B.2.1
  have hown := B.2.2.2.1
  have hts := B.2.2.2.2.1
  unfold f_X10_setTimes_41 at hf
  refine lv_iconst (v := (0 : Int32)) hx hb dX10_setTimes_41 (by decide) ?_
  exact t_X10_setTimes_42 B hf hW hl 
set_option maxRecDepth 100000 in
def f_X10_setTimes (σ : zSt) (l0 : Nat) (l1 : Int32) (l2 : Int32) (l3 : Int32) : Option (Int32 × zSt) :=
(zb (f_X10_in σ l1.toInt64 (1 : Int64) (500 : Int64)) (fun r2 => (if r2 = 0 then
(f_X10_setTimes_41 σ l0 l1 l2 l3 (some l0))
else
(zb (f_X10_in σ l2.toInt64 (1 : Int64) (20 : Int64)) (fun r4 => (if r4 = 0 then
(f_X10_setTimes_41 σ l0 l1 l2 l3 (some l0))
else
(zb (f_X10_in σ l3.toInt64 (1 : Int64) (20 : Int64)) (fun r6 => (if r6 = 0 then
(f_X10_setTimes_41 σ l0 l1 l2 l3 (some l0))
else
(f_X10_setTimes_42 σ l0 l1 l2 l3 (1 : Int32) (some l0)))))))))))
set_option maxRecDepth 20000 in
set_option maxHeartbeats 4000000 in
theorem K_X10_setTimes {σ : zSt} {l0 : Nat} {l1 : Int32} {l2 : Int32} {l3 : Int32} {r : Int32} {σ' : zSt} (hf : f_X10_setTimes σ l0 l1 l2 l3 = some (r, σ')) : z_M l D cA bs yX10_setTimes cX10_setTimes 5 (some .int) 1 25 0 0 [.ref l0, .int l1, .int l2, .int l3] σ (z_Qi D cA bs r σ') := by
  refine z_met (own := RX10) (lv := [(0, .ref l0), (1, .int l1), (2, .int l2), (3, .int l3)]) (by decide) rfl (Nat.le_of_ble_eq_true rfl) rfl (fun p e s m below meth c ls B hnm hW hl => ?_)
  have hx := B.1
  have hb := B.2.1
  have hown := B.2.2.2.1
  have hts := B.2.2.2.2.1
  unfold f_X10_setTimes at hf
  refine lv_aload_n hx hb dX10_setTimes_0 rfl (lv_at hl 0 rfl) ?_
  refine lv_iload_n hx hb dX10_setTimes_1 rfl (lv_at hl 1 rfl) ?_
  refine lv_i2l (v := l1.toInt64) hx hb dX10_setTimes_2 rfl ?_
  refine lv_lconst (v := (1 : Int64)) hx hb dX10_setTimes_3 (by decide) ?_
  refine lv_ldc2 hx hb hown (hts _ zk_X10_64) dX10_setTimes_4 ?_
  obtain ⟨r2, hq1, hf⟩ := z_b hf
  refine z_ci hW (z_runS (As := [.long l1.toInt64, .long (1 : Int64), .long (500 : Int64)]) (rest := [.ref l0]) B hW zv_X10_35 (K_X10_in hq1) rfl rfl (Nat.le_of_ble_eq_true rfl) hl.1 ⟨Nat.le_of_ble_eq_true rfl, Nat.le_of_ble_eq_true rfl⟩ dX10_setTimes_7 ⟨Nat.le_of_ble_eq_true rfl, Nat.le_of_ble_eq_true rfl⟩) (fun H locs hW => ?_)
  refine lv_if_eq (tgt := 41) hx hb dX10_setTimes_10 (by decide) (fun hc10 => ?_) (fun hc10 => ?_)
  · replace hf := z_ip hc10 hf
    exact t_X10_setTimes_41 B hf hW hl 
  · replace hf := z_in hc10 hf
    refine lv_iload_n hx hb dX10_setTimes_13 rfl (lv_at hl 2 rfl) ?_
    refine lv_i2l (v := l2.toInt64) hx hb dX10_setTimes_14 rfl ?_
    refine lv_lconst (v := (1 : Int64)) hx hb dX10_setTimes_15 (by decide) ?_
    refine lv_ldc2 hx hb hown (hts _ zk_X10_66) dX10_setTimes_16 ?_
    obtain ⟨r4, hq3, hf⟩ := z_b hf
    refine z_ci hW (z_runS (As := [.long l2.toInt64, .long (1 : Int64), .long (20 : Int64)]) (rest := [.ref l0]) B hW zv_X10_35 (K_X10_in hq3) rfl rfl (Nat.le_of_ble_eq_true rfl) hl.1 ⟨Nat.le_of_ble_eq_true rfl, Nat.le_of_ble_eq_true rfl⟩ dX10_setTimes_19 ⟨Nat.le_of_ble_eq_true rfl, Nat.le_of_ble_eq_true rfl⟩) (fun H locs hW => ?_)
    refine lv_if_eq (tgt := 41) hx hb dX10_setTimes_22 (by decide) (fun hc22 => ?_) (fun hc22 => ?_)
    · replace hf := z_ip hc22 hf
      exact t_X10_setTimes_41 B hf hW hl 
    · replace hf := z_in hc22 hf
      refine lv_iload_n hx hb dX10_setTimes_25 rfl (lv_at hl 3 rfl) ?_
      refine lv_i2l (v := l3.toInt64) hx hb dX10_setTimes_26 rfl ?_
      refine lv_lconst (v := (1 : Int64)) hx hb dX10_setTimes_27 (by decide) ?_
      refine lv_ldc2 hx hb hown (hts _ zk_X10_66) dX10_setTimes_28 ?_
      obtain ⟨r6, hq5, hf⟩ := z_b hf
      refine z_ci hW (z_runS (As := [.long l3.toInt64, .long (1 : Int64), .long (20 : Int64)]) (rest := [.ref l0]) B hW zv_X10_35 (K_X10_in hq5) rfl rfl (Nat.le_of_ble_eq_true rfl) hl.1 ⟨Nat.le_of_ble_eq_true rfl, Nat.le_of_ble_eq_true rfl⟩ dX10_setTimes_31 ⟨Nat.le_of_ble_eq_true rfl, Nat.le_of_ble_eq_true rfl⟩) (fun H locs hW => ?_)
      refine lv_if_eq (tgt := 41) hx hb dX10_setTimes_34 (by decide) (fun hc34 => ?_) (fun hc34 => ?_)
      · replace hf := z_ip hc34 hf
        exact t_X10_setTimes_41 B hf hW hl 
      · replace hf := z_in hc34 hf
        refine lv_iconst (v := (1 : Int32)) hx hb dX10_setTimes_37 (by decide) ?_
        refine lv_goto (tgt := 42) hx hb dX10_setTimes_38 (by decide) ?_
        exact t_X10_setTimes_42 B hf hW hl 
set_option maxRecDepth 100000 in
def f_X10_gives (σ : zSt) (l0 : Nat) (l1 : Int32) (l2 : Int32) (l3 : Int32) : Option (Int32 × zSt) :=
(if z_ob σ l0 9 then (zc (z_R σ l0 0) none (fun q2 => (if z_ar σ q2 0 then (if z_ix (5 : Int32) (z_ln σ q2) then (zl (z_I σ q2 (5 : Int32).toNatClampNeg) (fun x6 => (zc (z_R σ l0 0) none (fun q8 => (zb (f_X10_inMessage σ x6 (0 : Int32)) (fun r11 => (if z_ar σ q8 0 then (if z_ix r11 (z_ln σ q8) then (zl (z_pI σ q8 r11.toNatClampNeg l2) (fun σ14 => (if z_ob σ14 l0 9 then (zc (z_R σ14 l0 0) none (fun q17 => (zb (f_X10_inMessage σ14 x6 (1 : Int32)) (fun r20 => (if z_ar σ14 q17 0 then (if z_ix r20 (z_ln σ14 q17) then (zl (z_pI σ14 q17 r20.toNatClampNeg l3) (fun σ23 => (if z_ob σ23 l0 9 then (zc (z_R σ23 l0 0) none (fun q26 => (zb (f_X10_inMessage σ23 x6 (2 : Int32)) (fun r29 => (if z_ar σ23 q26 0 then (if z_ix r29 (z_ln σ23 q26) then (zl (z_pI σ23 q26 r29.toNatClampNeg l1) (fun σ32 => (if z_ob σ32 l0 9 then (zc (z_R σ32 l0 0) none (fun q35 => (zb (f_X10_inMessage σ32 x6 (3 : Int32)) (fun r38 => (zc (z_R σ32 l0 0) none (fun q39 => (if z_ar σ32 q39 0 then (if z_ix (3 : Int32) (z_ln σ32 q39) then (if z_ar σ32 q35 0 then (if z_ix r38 (z_ln σ32 q35) then (zl (z_pI σ32 q35 r38.toNatClampNeg (z_I σ32 q39 (3 : Int32).toNatClampNeg)) (fun σ45 => (if z_ob σ45 l0 9 then (zc (z_R σ45 l0 0) none (fun q48 => (zb (f_X10_inMessage σ45 x6 (4 : Int32)) (fun r51 => (if z_ar σ45 q48 0 then (if z_ix r51 (z_ln σ45 q48) then (zl (z_pI σ45 q48 r51.toNatClampNeg (-1 : Int32)) (fun σ54 => (if z_ob σ54 l0 9 then (zc (z_R σ54 l0 0) none (fun q57 => (if z_ar σ54 q57 0 then (if z_ix (5 : Int32) (z_ln σ54 q57) then (zl (z_pI σ54 q57 (5 : Int32).toNatClampNeg ((z_I σ54 q57 (5 : Int32).toNatClampNeg) + (1 : Int32))) (fun σ61 => (some (x6, σ61)))) else none) else none))) else none))) else none) else none))))) else none))) else none) else none) else none) else none))))))) else none))) else none) else none))))) else none))) else none) else none))))) else none))) else none) else none))))))) else none) else none))) else none)
set_option maxRecDepth 20000 in
set_option maxHeartbeats 4000000 in
theorem K_X10_gives {σ : zSt} {l0 : Nat} {l1 : Int32} {l2 : Int32} {l3 : Int32} {r : Int32} {σ' : zSt} (hf : f_X10_gives σ l0 l1 l2 l3 = some (r, σ')) : z_M l D cA bs yX10_gives cX10_gives 5 (some .int) 1 21 0 0 [.ref l0, .int l1, .int l2, .int l3] σ (z_Qi D cA bs r σ') := by
  refine z_met (own := RX10) (lv := [(0, .ref l0), (1, .int l1), (2, .int l2), (3, .int l3)]) (by decide) rfl (Nat.le_of_ble_eq_true rfl) rfl (fun p e s m below meth c ls B hnm hW hl => ?_)
  have hx := B.1
  have hb := B.2.1
  have hown := B.2.2.2.1
  have hts := B.2.2.2.2.1
  unfold f_X10_gives at hf
  refine lv_aload_n hx hb dX10_gives_0 rfl (lv_at hl 0 rfl) ?_
  obtain ⟨hg1, hf⟩ := z_g hf
  obtain ⟨q2, hv3, hf⟩ := z_nn hf
  refine z_getN B hW (Or.inr zf_X10_7) rfl hg1 hv3 dX10_gives_1 ?_
  refine lv_iconst (v := (5 : Int32)) hx hb dX10_gives_4 (by decide) ?_
  obtain ⟨hg4, hf⟩ := z_g hf
  obtain ⟨hg5, hf⟩ := z_g hf
  refine z_ald B hW hg4 hg5 dX10_gives_5 ?_
  obtain ⟨x6, hx7, hf⟩ := z_l hf
  rw [hx7]
  refine lv_istore (lv' := [(4, .int x6), (0, .ref l0), (1, .int l1), (2, .int l2), (3, .int l3)]) hx hb dX10_gives_6 hl (by decide) rfl (fun ls hl => ?_)
  refine lv_aload_n hx hb dX10_gives_8 rfl (lv_at hl 1 rfl) ?_
  obtain ⟨q8, hv9, hf⟩ := z_nn hf
  refine z_getN B hW (Or.inr zf_X10_7) rfl hg1 hv9 dX10_gives_9 ?_
  refine lv_iload hx hb dX10_gives_12 (lv_at hl 0 rfl) ?_
  refine lv_iconst (v := (0 : Int32)) hx hb dX10_gives_14 (by decide) ?_
  obtain ⟨r11, hq10, hf⟩ := z_b hf
  refine z_ci hW (z_runS (As := [.int x6, .int (0 : Int32)]) (rest := [.ref q8]) B hW zv_X10_42 (K_X10_inMessage hq10) rfl rfl (Nat.le_of_ble_eq_true rfl) hl.1 ⟨Nat.le_of_ble_eq_true rfl, Nat.le_of_ble_eq_true rfl⟩ dX10_gives_15 ⟨Nat.le_of_ble_eq_true rfl, Nat.le_of_ble_eq_true rfl⟩) (fun H locs hW => ?_)
  refine lv_iload_n hx hb dX10_gives_18 rfl (lv_at hl 3 rfl) ?_
  obtain ⟨hg12, hf⟩ := z_g hf
  obtain ⟨hg13, hf⟩ := z_g hf
  obtain ⟨σ14, hs15, hf⟩ := z_l hf
  refine z_ast B hW hg12 hg13 hs15 dX10_gives_19 (fun H locs hW => ?_)
  refine lv_aload_n hx hb dX10_gives_20 rfl (lv_at hl 1 rfl) ?_
  obtain ⟨hg16, hf⟩ := z_g hf
  obtain ⟨q17, hv18, hf⟩ := z_nn hf
  refine z_getN B hW (Or.inr zf_X10_7) rfl hg16 hv18 dX10_gives_21 ?_
  refine lv_iload hx hb dX10_gives_24 (lv_at hl 0 rfl) ?_
  refine lv_iconst (v := (1 : Int32)) hx hb dX10_gives_26 (by decide) ?_
  obtain ⟨r20, hq19, hf⟩ := z_b hf
  refine z_ci hW (z_runS (As := [.int x6, .int (1 : Int32)]) (rest := [.ref q17]) B hW zv_X10_42 (K_X10_inMessage hq19) rfl rfl (Nat.le_of_ble_eq_true rfl) hl.1 ⟨Nat.le_of_ble_eq_true rfl, Nat.le_of_ble_eq_true rfl⟩ dX10_gives_27 ⟨Nat.le_of_ble_eq_true rfl, Nat.le_of_ble_eq_true rfl⟩) (fun H locs hW => ?_)
  refine lv_iload_n hx hb dX10_gives_30 rfl (lv_at hl 4 rfl) ?_
  obtain ⟨hg21, hf⟩ := z_g hf
  obtain ⟨hg22, hf⟩ := z_g hf
  obtain ⟨σ23, hs24, hf⟩ := z_l hf
  refine z_ast B hW hg21 hg22 hs24 dX10_gives_31 (fun H locs hW => ?_)
  refine lv_aload_n hx hb dX10_gives_32 rfl (lv_at hl 1 rfl) ?_
  obtain ⟨hg25, hf⟩ := z_g hf
  obtain ⟨q26, hv27, hf⟩ := z_nn hf
  refine z_getN B hW (Or.inr zf_X10_7) rfl hg25 hv27 dX10_gives_33 ?_
  refine lv_iload hx hb dX10_gives_36 (lv_at hl 0 rfl) ?_
  refine lv_iconst (v := (2 : Int32)) hx hb dX10_gives_38 (by decide) ?_
  obtain ⟨r29, hq28, hf⟩ := z_b hf
  refine z_ci hW (z_runS (As := [.int x6, .int (2 : Int32)]) (rest := [.ref q26]) B hW zv_X10_42 (K_X10_inMessage hq28) rfl rfl (Nat.le_of_ble_eq_true rfl) hl.1 ⟨Nat.le_of_ble_eq_true rfl, Nat.le_of_ble_eq_true rfl⟩ dX10_gives_39 ⟨Nat.le_of_ble_eq_true rfl, Nat.le_of_ble_eq_true rfl⟩) (fun H locs hW => ?_)
  refine lv_iload_n hx hb dX10_gives_42 rfl (lv_at hl 2 rfl) ?_
  obtain ⟨hg30, hf⟩ := z_g hf
  obtain ⟨hg31, hf⟩ := z_g hf
  obtain ⟨σ32, hs33, hf⟩ := z_l hf
  refine z_ast B hW hg30 hg31 hs33 dX10_gives_43 (fun H locs hW => ?_)
  refine lv_aload_n hx hb dX10_gives_44 rfl (lv_at hl 1 rfl) ?_
  obtain ⟨hg34, hf⟩ := z_g hf
  obtain ⟨q35, hv36, hf⟩ := z_nn hf
  refine z_getN B hW (Or.inr zf_X10_7) rfl hg34 hv36 dX10_gives_45 ?_
  refine lv_iload hx hb dX10_gives_48 (lv_at hl 0 rfl) ?_
  refine lv_iconst (v := (3 : Int32)) hx hb dX10_gives_50 (by decide) ?_
  obtain ⟨r38, hq37, hf⟩ := z_b hf
  refine z_ci hW (z_runS (As := [.int x6, .int (3 : Int32)]) (rest := [.ref q35]) B hW zv_X10_42 (K_X10_inMessage hq37) rfl rfl (Nat.le_of_ble_eq_true rfl) hl.1 ⟨Nat.le_of_ble_eq_true rfl, Nat.le_of_ble_eq_true rfl⟩ dX10_gives_51 ⟨Nat.le_of_ble_eq_true rfl, Nat.le_of_ble_eq_true rfl⟩) (fun H locs hW => ?_)
  refine lv_aload_n hx hb dX10_gives_54 rfl (lv_at hl 1 rfl) ?_
  obtain ⟨q39, hv40, hf⟩ := z_nn hf
  refine z_getN B hW (Or.inr zf_X10_7) rfl hg34 hv40 dX10_gives_55 ?_
  refine lv_iconst (v := (3 : Int32)) hx hb dX10_gives_58 (by decide) ?_
  obtain ⟨hg41, hf⟩ := z_g hf
  obtain ⟨hg42, hf⟩ := z_g hf
  refine z_ald B hW hg41 hg42 dX10_gives_59 ?_
  obtain ⟨hg43, hf⟩ := z_g hf
  obtain ⟨hg44, hf⟩ := z_g hf
  obtain ⟨σ45, hs46, hf⟩ := z_l hf
  refine z_ast B hW hg43 hg44 hs46 dX10_gives_60 (fun H locs hW => ?_)
  refine lv_aload_n hx hb dX10_gives_61 rfl (lv_at hl 1 rfl) ?_
  obtain ⟨hg47, hf⟩ := z_g hf
  obtain ⟨q48, hv49, hf⟩ := z_nn hf
  refine z_getN B hW (Or.inr zf_X10_7) rfl hg47 hv49 dX10_gives_62 ?_
  refine lv_iload hx hb dX10_gives_65 (lv_at hl 0 rfl) ?_
  refine lv_iconst (v := (4 : Int32)) hx hb dX10_gives_67 (by decide) ?_
  obtain ⟨r51, hq50, hf⟩ := z_b hf
  refine z_ci hW (z_runS (As := [.int x6, .int (4 : Int32)]) (rest := [.ref q48]) B hW zv_X10_42 (K_X10_inMessage hq50) rfl rfl (Nat.le_of_ble_eq_true rfl) hl.1 ⟨Nat.le_of_ble_eq_true rfl, Nat.le_of_ble_eq_true rfl⟩ dX10_gives_68 ⟨Nat.le_of_ble_eq_true rfl, Nat.le_of_ble_eq_true rfl⟩) (fun H locs hW => ?_)
  refine lv_iconst (v := (-1 : Int32)) hx hb dX10_gives_71 (by decide) ?_
  obtain ⟨hg52, hf⟩ := z_g hf
  obtain ⟨hg53, hf⟩ := z_g hf
  obtain ⟨σ54, hs55, hf⟩ := z_l hf
  refine z_ast B hW hg52 hg53 hs55 dX10_gives_72 (fun H locs hW => ?_)
  refine lv_aload_n hx hb dX10_gives_73 rfl (lv_at hl 1 rfl) ?_
  obtain ⟨hg56, hf⟩ := z_g hf
  obtain ⟨q57, hv58, hf⟩ := z_nn hf
  refine z_getN B hW (Or.inr zf_X10_7) rfl hg56 hv58 dX10_gives_74 ?_
  refine lv_iconst (v := (5 : Int32)) hx hb dX10_gives_77 (by decide) ?_
  refine lv_dup2_11 hx hb dX10_gives_78 rfl rfl ?_
  obtain ⟨hg59, hf⟩ := z_g hf
  obtain ⟨hg60, hf⟩ := z_g hf
  refine z_ald B hW hg59 hg60 dX10_gives_79 ?_
  refine lv_iconst (v := (1 : Int32)) hx hb dX10_gives_80 (by decide) ?_
  refine lv_iadd hx hb dX10_gives_81 ?_
  obtain ⟨σ61, hs62, hf⟩ := z_l hf
  refine z_ast B hW hg59 hg60 hs62 dX10_gives_82 (fun H locs hW => ?_)
  refine lv_iload hx hb dX10_gives_83 (lv_at hl 0 rfl) ?_
  obtain ⟨rfl, rfl⟩ := z_e2 hf
  exact z_ri B hW dX10_gives_85 (Nat.le_of_ble_eq_true rfl) (Nat.le_of_ble_eq_true rfl)
end GEN
