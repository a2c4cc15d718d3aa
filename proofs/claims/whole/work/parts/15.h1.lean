section GEN
variable {p : Program} {l : Launch} {e : Env} {s : State} {m : MethodId} {args : Array Value} {below : List Frame} {meth : Method} {c : Code} {D : va_G} {cA : Nat → ClassId} {bs : Nat}
set_option maxRecDepth 100000 in
def f_X9_addStation_38 (σ : zSt) : Option ((Nat ⊕ Int32) × zSt) :=
(some (.inl 1, z_gr σ))
set_option maxRecDepth 20000 in
set_option maxHeartbeats 4000000 in
theorem t_X9_addStation_38 (B : z_B p s m args meth c D cA bs RX9 cX9_addStation 2 (some .int)) (hst : l.stackTraces = false) (hX : z_X bs s) (htab : ∀ x ∈ c.exceptionTable.toList, False) {out : (Nat ⊕ Int32) × zSt} {σ : zSt} (hf : f_X9_addStation_38 σ = some out) {H : Heap} {locs : List Loc} {ls : Array Slot} (hW : z_Ok D cA bs s σ H locs) (hl : lv_has ls 2 [])  : W p l e (zrm 6 1 6 148) s m args below meth c H locs 0 0 (vx_MQ below (z_QX D cA bs out) (z_XX D cA bs out) args s 1 6 (fun q => bs ≤ q)) (F0 m 38 ls []) := by
  have hx := B.1
  have hb := B.2.1
  have hown := B.2.2.2.1
  have hts := B.2.2.2.2.1
  unfold f_X9_addStation_38 at hf
  exact z_thr (rest := []) hst B hX htab hW zt_X9_49_51 hl.1 dX9_addStation_38 dX9_addStation_41 dX9_addStation_42 dX9_addStation_44 dX9_addStation_47 (Nat.le_of_ble_eq_true rfl) (Nat.le_of_ble_eq_true rfl) (Nat.le_of_ble_eq_true rfl) (Nat.le_of_ble_eq_true rfl) (z_e1 hf) (Nat.le_of_ble_eq_true rfl) (Nat.le_of_ble_eq_true rfl)
set_option maxRecDepth 100000 in
def f_X9_addStation (σ : zSt) (l0 : Nat) (l1 : Int32) : Option ((Nat ⊕ Int32) × zSt) :=
(zb (f_X9_isAddress σ l1) (fun r2 => (if r2 = 0 then
(some (.inl 0, z_gr σ))
else
(if z_ob σ l0 8 then (zc (z_R σ l0 0) none (fun q4 => (if z_ob σ q4 2 then (zb (f_X2_stationWith σ q4 l1) (fun r8 => (zc r8
(zc (z_R σ l0 0) none (fun q10 => (if z_ob σ q10 2 then (zb (f_X2_isFull σ q10) (fun r14 => (if r14 = 0 then
(zc (z_R σ l0 2) none (fun q15 => (zc (z_R σ l0 0) none (fun q17 => (if z_ob σ q15 1 then (zb (f_X1_save σ q15 q17) (fun σ21 => (if z_ob σ21 l0 8 then (zc (z_R σ21 l0 0) none (fun q23 => (if z_ob σ21 q23 2 then (zb2 (f_X2_placeStation σ21 q23 l1) (fun r27 σ28 => (if z_ob σ28 l0 8 then (zc (z_R σ28 l0 0) none (fun q30 => (if z_ob σ28 q30 2 then (some (.inr (z_I σ28 q30 5), σ28)) else none))) else none))) else none))) else none))) else none)))))
else
(f_X9_addStation_38 σ)))) else none)))
(fun a9 => (f_X9_addStation_38 σ))))) else none))) else none))))
set_option maxRecDepth 20000 in
set_option maxHeartbeats 4000000 in
theorem K_X9_addStation (hst : l.stackTraces = false) {σ : zSt} {l0 : Nat} {l1 : Int32} {out : (Nat ⊕ Int32) × zSt} (hf : f_X9_addStation σ l0 l1 = some out) : z_MX l D cA bs yX9_addStation cX9_addStation 2 (some .int) 6 148 1 6 [.ref l0, .int l1] σ out := by
  refine z_metX (own := RX9) (lv := [(0, .ref l0), (1, .int l1)]) (by decide) rfl (Nat.le_of_ble_eq_true rfl) rfl (fun p e s m below meth c ls B hX htab hW hl => ?_)
  have hx := B.1
  have hb := B.2.1
  have hown := B.2.2.2.1
  have hts := B.2.2.2.2.1
  unfold f_X9_addStation at hf
  refine lv_iload_n hx hb dX9_addStation_0 rfl (lv_at hl 1 rfl) ?_
  obtain ⟨r2, hq1, hf⟩ := z_b hf
  refine z_ci hW (z_runS (As := [.int l1]) (rest := []) B hW zv_X9_30 (K_X9_isAddress hq1) rfl rfl (Nat.le_of_ble_eq_true rfl) hl.1 ⟨Nat.le_of_ble_eq_true rfl, Nat.le_of_ble_eq_true rfl⟩ dX9_addStation_1 ⟨Nat.le_of_ble_eq_true rfl, Nat.le_of_ble_eq_true rfl⟩) (fun H locs hW => ?_)
  refine lv_if_ne (tgt := 17) hx hb dX9_addStation_4 (by decide) (fun hc4 => ?_) (fun hc4 => ?_)
  · replace hf := z_in hc4 hf
    refine lv_aload_n hx hb dX9_addStation_17 rfl (lv_at hl 0 rfl) ?_
    obtain ⟨hg3, hf⟩ := z_g hf
    obtain ⟨q4, hv5, hf⟩ := z_nn hf
    refine z_getN B hW (Or.inr zf_X9_10) rfl hg3 hv5 dX9_addStation_18 ?_
    refine lv_iload_n hx hb dX9_addStation_21 rfl (lv_at hl 1 rfl) ?_
    obtain ⟨hg6, hf⟩ := z_g hf
    obtain ⟨r8, hq7, hf⟩ := z_b hf
    refine z_cq hW (z_runV (As := [.int l1]) (rest := []) B hW zv_X9_41 (K_X2_stationWith hq7) hg6 rfl rfl rfl (Nat.le_of_ble_eq_true rfl) hl.1 ⟨Nat.le_of_ble_eq_true rfl, Nat.le_of_ble_eq_true rfl⟩ dX9_addStation_22 ⟨Nat.le_of_ble_eq_true rfl, Nat.le_of_ble_eq_true rfl⟩) (fun H locs hW => ?_)
    refine z_ifnonnull (tgt := 38) hx hb dX9_addStation_25 (by decide) (fun hz33 => ?_) (fun a9 hz33 => ?_)
    · subst hz33
      replace hf := z_c0 hf
      refine lv_aload_n hx hb dX9_addStation_28 rfl (lv_at hl 0 rfl) ?_
      obtain ⟨q10, hv11, hf⟩ := z_nn hf
      refine z_getN B hW (Or.inr zf_X9_10) rfl hg3 hv11 dX9_addStation_29 ?_
      obtain ⟨hg12, hf⟩ := z_g hf
      obtain ⟨r14, hq13, hf⟩ := z_b hf
      refine z_ci hW (z_runV (As := []) (rest := []) B hW zv_X9_45 (K_X2_isFull hq13) hg12 rfl rfl rfl (Nat.le_of_ble_eq_true rfl) hl.1 ⟨Nat.le_of_ble_eq_true rfl, Nat.le_of_ble_eq_true rfl⟩ dX9_addStation_32 ⟨Nat.le_of_ble_eq_true rfl, Nat.le_of_ble_eq_true rfl⟩) (fun H locs hW => ?_)
      refine lv_if_eq (tgt := 48) hx hb dX9_addStation_35 (by decide) (fun hc35 => ?_) (fun hc35 => ?_)
      · replace hf := z_ip hc35 hf
        refine lv_aload_n hx hb dX9_addStation_48 rfl (lv_at hl 0 rfl) ?_
        obtain ⟨q15, hv16, hf⟩ := z_nn hf
        refine z_getN B hW (Or.inr zf_X9_22) rfl hg3 hv16 dX9_addStation_49 ?_
        refine lv_aload_n hx hb dX9_addStation_52 rfl (lv_at hl 0 rfl) ?_
        obtain ⟨q17, hv18, hf⟩ := z_nn hf
        refine z_getN B hW (Or.inr zf_X9_10) rfl hg3 hv18 dX9_addStation_53 ?_
        obtain ⟨hg19, hf⟩ := z_g hf
        obtain ⟨σ21, hq20, hf⟩ := z_b hf
        refine z_cv hW (z_runV (As := [.ref q17]) (rest := []) B hW zv_X9_54 (K_X1_save hq20) hg19 rfl rfl rfl (Nat.le_of_ble_eq_true rfl) hl.1 ⟨Nat.le_of_ble_eq_true rfl, Nat.le_of_ble_eq_true rfl⟩ dX9_addStation_56 ⟨Nat.le_of_ble_eq_true rfl, Nat.le_of_ble_eq_true rfl⟩) (fun H locs hW => ?_)
        refine lv_aload_n hx hb dX9_addStation_59 rfl (lv_at hl 0 rfl) ?_
        obtain ⟨hg22, hf⟩ := z_g hf
        obtain ⟨q23, hv24, hf⟩ := z_nn hf
        refine z_getN B hW (Or.inr zf_X9_10) rfl hg22 hv24 dX9_addStation_60 ?_
        refine lv_iload_n hx hb dX9_addStation_63 rfl (lv_at hl 1 rfl) ?_
        obtain ⟨hg25, hf⟩ := z_g hf
        obtain ⟨r27, σ28, hq26, hf⟩ := z_b2 hf
        refine z_cq hW (z_runV (As := [.int l1]) (rest := []) B hW zv_X9_58 (K_X2_placeStation hq26) hg25 rfl rfl rfl (Nat.le_of_ble_eq_true rfl) hl.1 ⟨Nat.le_of_ble_eq_true rfl, Nat.le_of_ble_eq_true rfl⟩ dX9_addStation_64 ⟨Nat.le_of_ble_eq_true rfl, Nat.le_of_ble_eq_true rfl⟩) (fun H locs hW => ?_)
        refine lv_pop hx hb dX9_addStation_67 (z_cat _) ?_
        refine lv_aload_n hx hb dX9_addStation_68 rfl (lv_at hl 0 rfl) ?_
        obtain ⟨hg29, hf⟩ := z_g hf
        obtain ⟨q30, hv31, hf⟩ := z_nn hf
        refine z_getN B hW (Or.inr zf_X9_10) rfl hg29 hv31 dX9_addStation_69 ?_
        obtain ⟨hg32, hf⟩ := z_g hf
        refine z_getI B hW (Or.inl zf_X9_61) rfl hg32 dX9_addStation_72 ?_
        exact z_rxi B hW (z_e1 hf) dX9_addStation_75 (Nat.le_of_ble_eq_true rfl) (Nat.le_of_ble_eq_true rfl)
      · replace hf := z_in hc35 hf
        exact t_X9_addStation_38 B hst hX htab hf hW (lv_sub hl [] rfl) 
    · subst hz33
      replace hf := z_c1 hf
      exact t_X9_addStation_38 B hst hX htab hf hW (lv_sub hl [] rfl) 
  · replace hf := z_ip hc4 hf
    exact z_thr (rest := []) hst B hX htab hW zt_X9_34_36 hl.1 dX9_addStation_7 dX9_addStation_10 dX9_addStation_11 dX9_addStation_13 dX9_addStation_16 (Nat.le_of_ble_eq_true rfl) (Nat.le_of_ble_eq_true rfl) (Nat.le_of_ble_eq_true rfl) (Nat.le_of_ble_eq_true rfl) (z_e1 hf) (Nat.le_of_ble_eq_true rfl) (Nat.le_of_ble_eq_true rfl)
set_option maxRecDepth 100000 in
def f_X9_setOn (σ : zSt) (l0 : Nat) (l1 : Int32) (l2 : Int32) : Option ((Nat ⊕ Int32) × zSt) :=
(if z_ob σ l0 8 then (zc (z_R σ l0 0) none (fun q2 => (if z_ob σ q2 2 then (zb (f_X2_stationWith σ q2 l1) (fun r6 => (zc r6
(some (.inl 3, z_gr σ))
(fun a7 => (if z_ob σ a7 6 then (zl (z_I σ a7 1) (fun x9 => (zc (z_R σ l0 2) none (fun q11 => (zc (z_R σ l0 0) none (fun q13 => (if z_ob σ q11 1 then (zb (f_X1_save σ q11 q13) (fun σ17 => (if z_ob σ17 l0 8 then (zc (z_R σ17 l0 0) none (fun q19 => (if z_ob σ17 q19 2 then (zb (f_X2_switchStation σ17 q19 a7 l2) (fun σ23 => (if z_bl x9 then (some (.inr x9, σ23)) else none))) else none))) else none))) else none))))))) else none))))) else none))) else none)
set_option maxRecDepth 20000 in
set_option maxHeartbeats 4000000 in
theorem K_X9_setOn (hst : l.stackTraces = false) {σ : zSt} {l0 : Nat} {l1 : Int32} {l2 : Int32} {out : (Nat ⊕ Int32) × zSt} (hf : f_X9_setOn σ l0 l1 l2 = some out) : z_MX l D cA bs yX9_setOn cX9_setOn 5 (some .boolean) 6 148 1 6 [.ref l0, .int l1, .int l2] σ out := by
  refine z_metX (own := RX9) (lv := [(0, .ref l0), (1, .int l1), (2, .int l2)]) (by decide) rfl (Nat.le_of_ble_eq_true rfl) rfl (fun p e s m below meth c ls B hX htab hW hl => ?_)
  have hx := B.1
  have hb := B.2.1
  have hown := B.2.2.2.1
  have hts := B.2.2.2.2.1
  unfold f_X9_setOn at hf
  refine lv_aload_n hx hb dX9_setOn_0 rfl (lv_at hl 0 rfl) ?_
  obtain ⟨hg1, hf⟩ := z_g hf
  obtain ⟨q2, hv3, hf⟩ := z_nn hf
  refine z_getN B hW (Or.inr zf_X9_10) rfl hg1 hv3 dX9_setOn_1 ?_
  refine lv_iload_n hx hb dX9_setOn_4 rfl (lv_at hl 1 rfl) ?_
  obtain ⟨hg4, hf⟩ := z_g hf
  obtain ⟨r6, hq5, hf⟩ := z_b hf
  refine z_cq hW (z_runV (As := [.int l1]) (rest := []) B hW zv_X9_41 (K_X2_stationWith hq5) hg4 rfl rfl rfl (Nat.le_of_ble_eq_true rfl) hl.1 ⟨Nat.le_of_ble_eq_true rfl, Nat.le_of_ble_eq_true rfl⟩ dX9_setOn_5 ⟨Nat.le_of_ble_eq_true rfl, Nat.le_of_ble_eq_true rfl⟩) (fun H locs hW => ?_)
  refine z_astore_n (lv' := [(3, va_rf r6), (0, .ref l0), (1, .int l1), (2, .int l2)]) hx hb dX9_setOn_8 rfl hl (by decide) rfl (fun ls hl => ?_)
  refine z_aload_n hx hb dX9_setOn_9 rfl (lv_at hl 0 rfl) ?_
  refine z_ifnonnull (tgt := 23) hx hb dX9_setOn_10 (by decide) (fun hz25 => ?_) (fun a7 hz25 => ?_)
  · subst hz25
    replace hf := z_c0 hf
    exact z_thr (rest := []) hst B hX htab hW zt_X9_65_67 hl.1 dX9_setOn_13 dX9_setOn_16 dX9_setOn_17 dX9_setOn_19 dX9_setOn_22 (Nat.le_of_ble_eq_true rfl) (Nat.le_of_ble_eq_true rfl) (Nat.le_of_ble_eq_true rfl) (Nat.le_of_ble_eq_true rfl) (z_e1 hf) (Nat.le_of_ble_eq_true rfl) (Nat.le_of_ble_eq_true rfl)
  · subst hz25
    replace hf := z_c1 hf
    refine lv_aload_n hx hb dX9_setOn_23 rfl (lv_at hl 0 rfl) ?_
    obtain ⟨hg8, hf⟩ := z_g hf
    refine z_getI B hW (Or.inl zf_X9_70) rfl hg8 dX9_setOn_24 ?_
    obtain ⟨x9, hx10, hf⟩ := z_l hf
    rw [hx10]
    refine lv_istore (lv' := [(4, .int x9), (3, .ref a7), (0, .ref l0), (1, .int l1), (2, .int l2)]) hx hb dX9_setOn_27 hl (by decide) rfl (fun ls hl => ?_)
    refine lv_aload_n hx hb dX9_setOn_29 rfl (lv_at hl 2 rfl) ?_
    obtain ⟨q11, hv12, hf⟩ := z_nn hf
    refine z_getN B hW (Or.inr zf_X9_22) rfl hg1 hv12 dX9_setOn_30 ?_
    refine lv_aload_n hx hb dX9_setOn_33 rfl (lv_at hl 2 rfl) ?_
    obtain ⟨q13, hv14, hf⟩ := z_nn hf
    refine z_getN B hW (Or.inr zf_X9_10) rfl hg1 hv14 dX9_setOn_34 ?_
    obtain ⟨hg15, hf⟩ := z_g hf
    obtain ⟨σ17, hq16, hf⟩ := z_b hf
    refine z_cv hW (z_runV (As := [.ref q13]) (rest := []) B hW zv_X9_54 (K_X1_save hq16) hg15 rfl rfl rfl (Nat.le_of_ble_eq_true rfl) hl.1 ⟨Nat.le_of_ble_eq_true rfl, Nat.le_of_ble_eq_true rfl⟩ dX9_setOn_37 ⟨Nat.le_of_ble_eq_true rfl, Nat.le_of_ble_eq_true rfl⟩) (fun H locs hW => ?_)
    refine lv_aload_n hx hb dX9_setOn_40 rfl (lv_at hl 2 rfl) ?_
    obtain ⟨hg18, hf⟩ := z_g hf
    obtain ⟨q19, hv20, hf⟩ := z_nn hf
    refine z_getN B hW (Or.inr zf_X9_10) rfl hg18 hv20 dX9_setOn_41 ?_
    refine lv_aload_n hx hb dX9_setOn_44 rfl (lv_at hl 1 rfl) ?_
    refine lv_iload_n hx hb dX9_setOn_45 rfl (lv_at hl 4 rfl) ?_
    obtain ⟨hg21, hf⟩ := z_g hf
    obtain ⟨σ23, hq22, hf⟩ := z_b hf
    refine z_cv hW (z_runV (As := [.ref a7, .int l2]) (rest := []) B hW zv_X9_76 (K_X2_switchStation hq22) hg21 rfl rfl rfl (Nat.le_of_ble_eq_true rfl) hl.1 ⟨Nat.le_of_ble_eq_true rfl, Nat.le_of_ble_eq_true rfl⟩ dX9_setOn_46 ⟨Nat.le_of_ble_eq_true rfl, Nat.le_of_ble_eq_true rfl⟩) (fun H locs hW => ?_)
    refine lv_iload hx hb dX9_setOn_49 (lv_at hl 0 rfl) ?_
    obtain ⟨hg24, hf⟩ := z_g hf
    exact z_rxz hg24 B hW (z_e1 hf) dX9_setOn_51 (Nat.le_of_ble_eq_true rfl) (Nat.le_of_ble_eq_true rfl)
set_option maxRecDepth 100000 in
def f_X9_setTimes_31 (σ : zSt) : Option ((Nat ⊕ Int32) × zSt) :=
(some (.inl 0, z_gr σ))
set_option maxRecDepth 20000 in
set_option maxHeartbeats 4000000 in
theorem t_X9_setTimes_31 (B : z_B p s m args meth c D cA bs RX9 cX9_setTimes 5 (some .int)) (hst : l.stackTraces = false) (hX : z_X bs s) (htab : ∀ x ∈ c.exceptionTable.toList, False) {out : (Nat ⊕ Int32) × zSt} {σ : zSt} (hf : f_X9_setTimes_31 σ = some out) {H : Heap} {locs : List Loc} {ls : Array Slot} (hW : z_Ok D cA bs s σ H locs) (hl : lv_has ls 5 [])  : W p l e (zrm 6 1 6 148) s m args below meth c H locs 0 0 (vx_MQ below (z_QX D cA bs out) (z_XX D cA bs out) args s 1 6 (fun q => bs ≤ q)) (F0 m 31 ls []) := by
  have hx := B.1
  have hb := B.2.1
  have hown := B.2.2.2.1
  have hts := B.2.2.2.2.1
  unfold f_X9_setTimes_31 at hf
  exact z_thr (rest := []) hst B hX htab hW zt_X9_34_84 hl.1 dX9_setTimes_31 dX9_setTimes_34 dX9_setTimes_35 dX9_setTimes_37 dX9_setTimes_40 (Nat.le_of_ble_eq_true rfl) (Nat.le_of_ble_eq_true rfl) (Nat.le_of_ble_eq_true rfl) (Nat.le_of_ble_eq_true rfl) (z_e1 hf) (Nat.le_of_ble_eq_true rfl) (Nat.le_of_ble_eq_true rfl)
set_option maxRecDepth 100000 in
def f_X9_setTimes (σ : zSt) (l0 : Nat) (l1 : Int32) (l2 : Int32) (l3 : Int32) : Option ((Nat ⊕ Int32) × zSt) :=
(zb (f_X9_isWithin σ l1 (1 : Int32) (500 : Int32)) (fun r2 => (if r2 = 0 then
(f_X9_setTimes_31 σ)
else
(zb (f_X9_isWithin σ l2 (1 : Int32) (20 : Int32)) (fun r4 => (if r4 = 0 then
(f_X9_setTimes_31 σ)
else
(zb (f_X9_isWithin σ l3 (1 : Int32) (20 : Int32)) (fun r6 => (if r6 = 0 then
(f_X9_setTimes_31 σ)
else
(if z_ob σ l0 8 then (zc (z_R σ l0 0) none (fun q8 => (if z_ob σ q8 2 then (zl (z_I σ q8 6) (fun x11 => (zc (z_R σ l0 2) none (fun q13 => (zc (z_R σ l0 0) none (fun q15 => (if z_ob σ q13 1 then (zb (f_X1_save σ q13 q15) (fun σ19 => (if z_ob σ19 l0 8 then (zc (z_R σ19 l0 0) none (fun q21 => (if z_ob σ19 q21 2 then (zl (z_pI σ19 q21 6 l1) (fun σ24 => (if z_ob σ24 l0 8 then (zc (z_R σ24 l0 0) none (fun q27 => (if z_ob σ24 q27 2 then (zl (z_pI σ24 q27 7 l2) (fun σ30 => (if z_ob σ30 l0 8 then (zc (z_R σ30 l0 0) none (fun q33 => (if z_ob σ30 q33 2 then (zl (z_pI σ30 q33 8 l3) (fun σ36 => (some (.inr x11, σ36)))) else none))) else none))) else none))) else none))) else none))) else none))) else none))))))) else none))) else none))))))))))
set_option maxRecDepth 20000 in
set_option maxHeartbeats 4000000 in
theorem K_X9_setTimes (hst : l.stackTraces = false) {σ : zSt} {l0 : Nat} {l1 : Int32} {l2 : Int32} {l3 : Int32} {out : (Nat ⊕ Int32) × zSt} (hf : f_X9_setTimes σ l0 l1 l2 l3 = some out) : z_MX l D cA bs yX9_setTimes cX9_setTimes 5 (some .int) 6 148 1 6 [.ref l0, .int l1, .int l2, .int l3] σ out := by
  refine z_metX (own := RX9) (lv := [(0, .ref l0), (1, .int l1), (2, .int l2), (3, .int l3)]) (by decide) rfl (Nat.le_of_ble_eq_true rfl) rfl (fun p e s m below meth c ls B hX htab hW hl => ?_)
  have hx := B.1
  have hb := B.2.1
  have hown := B.2.2.2.1
  have hts := B.2.2.2.2.1
  unfold f_X9_setTimes at hf
  refine lv_iload_n hx hb dX9_setTimes_0 rfl (lv_at hl 1 rfl) ?_
  refine lv_iconst (v := (1 : Int32)) hx hb dX9_setTimes_1 (by decide) ?_
  refine lv_sipush (v := (500 : Int32)) hx hb dX9_setTimes_2 (by decide) ?_
  obtain ⟨r2, hq1, hf⟩ := z_b hf
  refine z_ci hW (z_runS (As := [.int l1, .int (1 : Int32), .int (500 : Int32)]) (rest := []) B hW zv_X9_80 (K_X9_isWithin hq1) rfl rfl (Nat.le_of_ble_eq_true rfl) hl.1 ⟨Nat.le_of_ble_eq_true rfl, Nat.le_of_ble_eq_true rfl⟩ dX9_setTimes_5 ⟨Nat.le_of_ble_eq_true rfl, Nat.le_of_ble_eq_true rfl⟩) (fun H locs hW => ?_)
  refine lv_if_eq (tgt := 31) hx hb dX9_setTimes_8 (by decide) (fun hc8 => ?_) (fun hc8 => ?_)
  · replace hf := z_ip hc8 hf
    exact t_X9_setTimes_31 B hst hX htab hf hW (lv_sub hl [] rfl) 
  · replace hf := z_in hc8 hf
    refine lv_iload_n hx hb dX9_setTimes_11 rfl (lv_at hl 2 rfl) ?_
    refine lv_iconst (v := (1 : Int32)) hx hb dX9_setTimes_12 (by decide) ?_
    refine lv_bipush (v := (20 : Int32)) hx hb dX9_setTimes_13 (by decide) ?_
    obtain ⟨r4, hq3, hf⟩ := z_b hf
    refine z_ci hW (z_runS (As := [.int l2, .int (1 : Int32), .int (20 : Int32)]) (rest := []) B hW zv_X9_80 (K_X9_isWithin hq3) rfl rfl (Nat.le_of_ble_eq_true rfl) hl.1 ⟨Nat.le_of_ble_eq_true rfl, Nat.le_of_ble_eq_true rfl⟩ dX9_setTimes_15 ⟨Nat.le_of_ble_eq_true rfl, Nat.le_of_ble_eq_true rfl⟩) (fun H locs hW => ?_)
    refine lv_if_eq (tgt := 31) hx hb dX9_setTimes_18 (by decide) (fun hc18 => ?_) (fun hc18 => ?_)
    · replace hf := z_ip hc18 hf
      exact t_X9_setTimes_31 B hst hX htab hf hW (lv_sub hl [] rfl) 
    · replace hf := z_in hc18 hf
      refine lv_iload_n hx hb dX9_setTimes_21 rfl (lv_at hl 3 rfl) ?_
      refine lv_iconst (v := (1 : Int32)) hx hb dX9_setTimes_22 (by decide) ?_
      refine lv_bipush (v := (20 : Int32)) hx hb dX9_setTimes_23 (by decide) ?_
      obtain ⟨r6, hq5, hf⟩ := z_b hf
      refine z_ci hW (z_runS (As := [.int l3, .int (1 : Int32), .int (20 : Int32)]) (rest := []) B hW zv_X9_80 (K_X9_isWithin hq5) rfl rfl (Nat.le_of_ble_eq_true rfl) hl.1 ⟨Nat.le_of_ble_eq_true rfl, Nat.le_of_ble_eq_true rfl⟩ dX9_setTimes_25 ⟨Nat.le_of_ble_eq_true rfl, Nat.le_of_ble_eq_true rfl⟩) (fun H locs hW => ?_)
      refine lv_if_ne (tgt := 41) hx hb dX9_setTimes_28 (by decide) (fun hc28 => ?_) (fun hc28 => ?_)
      · replace hf := z_in hc28 hf
        refine lv_aload_n hx hb dX9_setTimes_41 rfl (lv_at hl 0 rfl) ?_
        obtain ⟨hg7, hf⟩ := z_g hf
        obtain ⟨q8, hv9, hf⟩ := z_nn hf
        refine z_getN B hW (Or.inr zf_X9_10) rfl hg7 hv9 dX9_setTimes_42 ?_
        obtain ⟨hg10, hf⟩ := z_g hf
        refine z_getI B hW (Or.inl zf_X9_86) rfl hg10 dX9_setTimes_45 ?_
        obtain ⟨x11, hx12, hf⟩ := z_l hf
        rw [hx12]
        refine lv_istore (lv' := [(4, .int x11), (0, .ref l0), (1, .int l1), (2, .int l2), (3, .int l3)]) hx hb dX9_setTimes_48 hl (by decide) rfl (fun ls hl => ?_)
        refine lv_aload_n hx hb dX9_setTimes_50 rfl (lv_at hl 1 rfl) ?_
        obtain ⟨q13, hv14, hf⟩ := z_nn hf
        refine z_getN B hW (Or.inr zf_X9_22) rfl hg7 hv14 dX9_setTimes_51 ?_
        refine lv_aload_n hx hb dX9_setTimes_54 rfl (lv_at hl 1 rfl) ?_
        obtain ⟨q15, hv16, hf⟩ := z_nn hf
        refine z_getN B hW (Or.inr zf_X9_10) rfl hg7 hv16 dX9_setTimes_55 ?_
        obtain ⟨hg17, hf⟩ := z_g hf
        obtain ⟨σ19, hq18, hf⟩ := z_b hf
        refine z_cv hW (z_runV (As := [.ref q15]) (rest := []) B hW zv_X9_54 (K_X1_save hq18) hg17 rfl rfl rfl (Nat.le_of_ble_eq_true rfl) hl.1 ⟨Nat.le_of_ble_eq_true rfl, Nat.le_of_ble_eq_true rfl⟩ dX9_setTimes_58 ⟨Nat.le_of_ble_eq_true rfl, Nat.le_of_ble_eq_true rfl⟩) (fun H locs hW => ?_)
        refine lv_aload_n hx hb dX9_setTimes_61 rfl (lv_at hl 1 rfl) ?_
        obtain ⟨hg20, hf⟩ := z_g hf
        obtain ⟨q21, hv22, hf⟩ := z_nn hf
        refine z_getN B hW (Or.inr zf_X9_10) rfl hg20 hv22 dX9_setTimes_62 ?_
        refine lv_iload_n hx hb dX9_setTimes_65 rfl (lv_at hl 2 rfl) ?_
        obtain ⟨hg23, hf⟩ := z_g hf
        obtain ⟨σ24, hs25, hf⟩ := z_l hf
        refine z_putI B hW zf_X9_86 hg23 rfl hs25 dX9_setTimes_66 (fun H locs hW => ?_)
        refine lv_aload_n hx hb dX9_setTimes_69 rfl (lv_at hl 1 rfl) ?_
        obtain ⟨hg26, hf⟩ := z_g hf
        obtain ⟨q27, hv28, hf⟩ := z_nn hf
        refine z_getN B hW (Or.inr zf_X9_10) rfl hg26 hv28 dX9_setTimes_70 ?_
        refine lv_iload_n hx hb dX9_setTimes_73 rfl (lv_at hl 3 rfl) ?_
        obtain ⟨hg29, hf⟩ := z_g hf
        obtain ⟨σ30, hs31, hf⟩ := z_l hf
        refine z_putI B hW zf_X9_89 hg29 rfl hs31 dX9_setTimes_74 (fun H locs hW => ?_)
        refine lv_aload_n hx hb dX9_setTimes_77 rfl (lv_at hl 1 rfl) ?_
        obtain ⟨hg32, hf⟩ := z_g hf
        obtain ⟨q33, hv34, hf⟩ := z_nn hf
        refine z_getN B hW (Or.inr zf_X9_10) rfl hg32 hv34 dX9_setTimes_78 ?_
        refine lv_iload_n hx hb dX9_setTimes_81 rfl (lv_at hl 4 rfl) ?_
        obtain ⟨hg35, hf⟩ := z_g hf
        obtain ⟨σ36, hs37, hf⟩ := z_l hf
        refine z_putI B hW zf_X9_92 hg35 rfl hs37 dX9_setTimes_82 (fun H locs hW => ?_)
        refine lv_iload hx hb dX9_setTimes_85 (lv_at hl 0 rfl) ?_
        exact z_rxi B hW (z_e1 hf) dX9_setTimes_87 (Nat.le_of_ble_eq_true rfl) (Nat.le_of_ble_eq_true rfl)
      · replace hf := z_ip hc28 hf
        exact t_X9_setTimes_31 B hst hX htab hf hW (lv_sub hl [] rfl) 
set_option maxRecDepth 100000 in
def f_X9_give_45 (σ : zSt) : Option ((Nat ⊕ Int32) × zSt) :=
(some (.inl 0, z_gr σ))
set_option maxRecDepth 20000 in
set_option maxHeartbeats 4000000 in
theorem t_X9_give_45 (B : z_B p s m args meth c D cA bs RX9 cX9_give 5 (some .int)) (hst : l.stackTraces = false) (hX : z_X bs s) (htab : ∀ x ∈ c.exceptionTable.toList, False) {out : (Nat ⊕ Int32) × zSt} {σ : zSt} (hf : f_X9_give_45 σ = some out) {H : Heap} {locs : List Loc} {ls : Array Slot} (hW : z_Ok D cA bs s σ H locs) (hl : lv_has ls 5 [])  : W p l e (zrm 6 1 6 148) s m args below meth c H locs 0 0 (vx_MQ below (z_QX D cA bs out) (z_XX D cA bs out) args s 1 6 (fun q => bs ≤ q)) (F0 m 45 ls []) := by
  have hx := B.1
  have hb := B.2.1
  have hown := B.2.2.2.1
  have hts := B.2.2.2.2.1
  unfold f_X9_give_45 at hf
  exact z_thr (rest := []) hst B hX htab hW zt_X9_34_95 hl.1 dX9_give_45 dX9_give_48 dX9_give_49 dX9_give_51 dX9_give_54 (Nat.le_of_ble_eq_true rfl) (Nat.le_of_ble_eq_true rfl) (Nat.le_of_ble_eq_true rfl) (Nat.le_of_ble_eq_true rfl) (z_e1 hf) (Nat.le_of_ble_eq_true rfl) (Nat.le_of_ble_eq_true rfl)
set_option maxRecDepth 100000 in
def f_X9_give (σ : zSt) (l0 : Nat) (l1 : Int32) (l2 : Int32) (l3 : Int32) : Option ((Nat ⊕ Int32) × zSt) :=
(if z_ob σ l0 8 then (zc (z_R σ l0 0) none (fun q2 => (if z_ob σ q2 2 then (zb (f_X2_stationWith σ q2 l1) (fun r6 => (zc r6
(some (.inl 3, z_gr σ))
(fun a7 => (zb (f_X9_isWithin σ l2 (1 : Int32) (20 : Int32)) (fun r9 => (if r9 = 0 then
(f_X9_give_45 σ)
else
(zb (f_X9_isWithin σ l3 (0 : Int32) (9 : Int32)) (fun r11 => (if r11 = 0 then
(f_X9_give_45 σ)
else
(zc (z_R σ l0 0) none (fun q12 => (if z_ob σ q12 2 then (zc (z_R σ q12 1) none (fun q15 => (if z_ob σ q15 3 then (zb (f_X3_isFull σ q15) (fun r19 => (if r19 = 0 then
(zc (z_R σ l0 2) none (fun q20 => (zc (z_R σ l0 0) none (fun q22 => (if z_ob σ q20 1 then (zb (f_X1_save σ q20 q22) (fun σ26 => (if z_ob σ26 l0 8 then (zc (z_R σ26 l0 0) none (fun q28 => (if z_ob σ26 q28 2 then (zc (z_R σ26 q28 1) none (fun q31 => (zc (z_R σ26 l0 0) none (fun q33 => (if z_ob σ26 q33 2 then (if z_ob σ26 q31 3 then (zb2 (f_X3_add σ26 q31 a7 l2 l3 (z_I σ26 q33 9)) (fun r38 σ39 => (some (.inr r38, σ39)))) else none) else none))))) else none))) else none))) else none)))))
else
(some (.inl 1, z_gr σ))))) else none))) else none))))))))))))) else none))) else none)
set_option maxRecDepth 20000 in
set_option maxHeartbeats 4000000 in
theorem K_X9_give (hst : l.stackTraces = false) {σ : zSt} {l0 : Nat} {l1 : Int32} {l2 : Int32} {l3 : Int32} {out : (Nat ⊕ Int32) × zSt} (hf : f_X9_give σ l0 l1 l2 l3 = some out) : z_MX l D cA bs yX9_give cX9_give 5 (some .int) 6 148 1 6 [.ref l0, .int l1, .int l2, .int l3] σ out := by
  refine z_metX (own := RX9) (lv := [(0, .ref l0), (1, .int l1), (2, .int l2), (3, .int l3)]) (by decide) rfl (Nat.le_of_ble_eq_true rfl) rfl (fun p e s m below meth c ls B hX htab hW hl => ?_)
  have hx := B.1
  have hb := B.2.1
  have hown := B.2.2.2.1
  have hts := B.2.2.2.2.1
  unfold f_X9_give at hf
  refine lv_aload_n hx hb dX9_give_0 rfl (lv_at hl 0 rfl) ?_
  obtain ⟨hg1, hf⟩ := z_g hf
  obtain ⟨q2, hv3, hf⟩ := z_nn hf
  refine z_getN B hW (Or.inr zf_X9_10) rfl hg1 hv3 dX9_give_1 ?_
  refine lv_iload_n hx hb dX9_give_4 rfl (lv_at hl 1 rfl) ?_
  obtain ⟨hg4, hf⟩ := z_g hf
  obtain ⟨r6, hq5, hf⟩ := z_b hf
  refine z_cq hW (z_runV (As := [.int l1]) (rest := []) B hW zv_X9_41 (K_X2_stationWith hq5) hg4 rfl rfl rfl (Nat.le_of_ble_eq_true rfl) hl.1 ⟨Nat.le_of_ble_eq_true rfl, Nat.le_of_ble_eq_true rfl⟩ dX9_give_5 ⟨Nat.le_of_ble_eq_true rfl, Nat.le_of_ble_eq_true rfl⟩) (fun H locs hW => ?_)
  refine z_astore (lv' := [(4, va_rf r6), (0, .ref l0), (1, .int l1), (2, .int l2), (3, .int l3)]) hx hb dX9_give_8 hl (by decide) rfl (fun ls hl => ?_)
  refine z_aload hx hb dX9_give_10 (lv_at hl 0 rfl) ?_
  refine z_ifnonnull (tgt := 25) hx hb dX9_give_12 (by decide) (fun hz40 => ?_) (fun a7 hz40 => ?_)
  · subst hz40
    replace hf := z_c0 hf
    exact z_thr (rest := []) hst B hX htab hW zt_X9_65_67 hl.1 dX9_give_15 dX9_give_18 dX9_give_19 dX9_give_21 dX9_give_24 (Nat.le_of_ble_eq_true rfl) (Nat.le_of_ble_eq_true rfl) (Nat.le_of_ble_eq_true rfl) (Nat.le_of_ble_eq_true rfl) (z_e1 hf) (Nat.le_of_ble_eq_true rfl) (Nat.le_of_ble_eq_true rfl)
  · subst hz40
    replace hf := z_c1 hf
    refine lv_iload_n hx hb dX9_give_25 rfl (lv_at hl 3 rfl) ?_
    refine lv_iconst (v := (1 : Int32)) hx hb dX9_give_26 (by decide) ?_
    refine lv_bipush (v := (20 : Int32)) hx hb dX9_give_27 (by decide) ?_
    obtain ⟨r9, hq8, hf⟩ := z_b hf
    refine z_ci hW (z_runS (As := [.int l2, .int (1 : Int32), .int (20 : Int32)]) (rest := []) B hW zv_X9_80 (K_X9_isWithin hq8) rfl rfl (Nat.le_of_ble_eq_true rfl) hl.1 ⟨Nat.le_of_ble_eq_true rfl, Nat.le_of_ble_eq_true rfl⟩ dX9_give_29 ⟨Nat.le_of_ble_eq_true rfl, Nat.le_of_ble_eq_true rfl⟩) (fun H locs hW => ?_)
    refine lv_if_eq (tgt := 45) hx hb dX9_give_32 (by decide) (fun hc32 => ?_) (fun hc32 => ?_)
    · replace hf := z_ip hc32 hf
      exact t_X9_give_45 B hst hX htab hf hW (lv_sub hl [] rfl) 
    · replace hf := z_in hc32 hf
      refine lv_iload_n hx hb dX9_give_35 rfl (lv_at hl 4 rfl) ?_
      refine lv_iconst (v := (0 : Int32)) hx hb dX9_give_36 (by decide) ?_
      refine lv_bipush (v := (9 : Int32)) hx hb dX9_give_37 (by decide) ?_
      obtain ⟨r11, hq10, hf⟩ := z_b hf
      refine z_ci hW (z_runS (As := [.int l3, .int (0 : Int32), .int (9 : Int32)]) (rest := []) B hW zv_X9_80 (K_X9_isWithin hq10) rfl rfl (Nat.le_of_ble_eq_true rfl) hl.1 ⟨Nat.le_of_ble_eq_true rfl, Nat.le_of_ble_eq_true rfl⟩ dX9_give_39 ⟨Nat.le_of_ble_eq_true rfl, Nat.le_of_ble_eq_true rfl⟩) (fun H locs hW => ?_)
      refine lv_if_ne (tgt := 55) hx hb dX9_give_42 (by decide) (fun hc42 => ?_) (fun hc42 => ?_)
      · replace hf := z_in hc42 hf
        refine lv_aload_n hx hb dX9_give_55 rfl (lv_at hl 1 rfl) ?_
        obtain ⟨q12, hv13, hf⟩ := z_nn hf
        refine z_getN B hW (Or.inr zf_X9_10) rfl hg1 hv13 dX9_give_56 ?_
        obtain ⟨hg14, hf⟩ := z_g hf
        obtain ⟨q15, hv16, hf⟩ := z_nn hf
        refine z_getN B hW (Or.inr zf_X9_97) rfl hg14 hv16 dX9_give_59 ?_
        obtain ⟨hg17, hf⟩ := z_g hf
        obtain ⟨r19, hq18, hf⟩ := z_b hf
        refine z_ci hW (z_runV (As := []) (rest := []) B hW zv_X9_101 (K_X3_isFull hq18) hg17 rfl rfl rfl (Nat.le_of_ble_eq_true rfl) hl.1 ⟨Nat.le_of_ble_eq_true rfl, Nat.le_of_ble_eq_true rfl⟩ dX9_give_62 ⟨Nat.le_of_ble_eq_true rfl, Nat.le_of_ble_eq_true rfl⟩) (fun H locs hW => ?_)
        refine lv_if_eq (tgt := 78) hx hb dX9_give_65 (by decide) (fun hc65 => ?_) (fun hc65 => ?_)
        · replace hf := z_ip hc65 hf
          refine lv_aload_n hx hb dX9_give_78 rfl (lv_at hl 1 rfl) ?_
          obtain ⟨q20, hv21, hf⟩ := z_nn hf
          refine z_getN B hW (Or.inr zf_X9_22) rfl hg1 hv21 dX9_give_79 ?_
          refine lv_aload_n hx hb dX9_give_82 rfl (lv_at hl 1 rfl) ?_
          obtain ⟨q22, hv23, hf⟩ := z_nn hf
          refine z_getN B hW (Or.inr zf_X9_10) rfl hg1 hv23 dX9_give_83 ?_
          obtain ⟨hg24, hf⟩ := z_g hf
          obtain ⟨σ26, hq25, hf⟩ := z_b hf
          refine z_cv hW (z_runV (As := [.ref q22]) (rest := []) B hW zv_X9_54 (K_X1_save hq25) hg24 rfl rfl rfl (Nat.le_of_ble_eq_true rfl) hl.1 ⟨Nat.le_of_ble_eq_true rfl, Nat.le_of_ble_eq_true rfl⟩ dX9_give_86 ⟨Nat.le_of_ble_eq_true rfl, Nat.le_of_ble_eq_true rfl⟩) (fun H locs hW => ?_)
          refine lv_aload_n hx hb dX9_give_89 rfl (lv_at hl 1 rfl) ?_
          obtain ⟨hg27, hf⟩ := z_g hf
          obtain ⟨q28, hv29, hf⟩ := z_nn hf
          refine z_getN B hW (Or.inr zf_X9_10) rfl hg27 hv29 dX9_give_90 ?_
          obtain ⟨hg30, hf⟩ := z_g hf
          obtain ⟨q31, hv32, hf⟩ := z_nn hf
          refine z_getN B hW (Or.inr zf_X9_97) rfl hg30 hv32 dX9_give_93 ?_
          refine lv_aload hx hb dX9_give_96 (lv_at hl 0 rfl) ?_
          refine lv_iload_n hx hb dX9_give_98 rfl (lv_at hl 3 rfl) ?_
          refine lv_iload_n hx hb dX9_give_99 rfl (lv_at hl 4 rfl) ?_
          refine lv_aload_n hx hb dX9_give_100 rfl (lv_at hl 1 rfl) ?_
          obtain ⟨q33, hv34, hf⟩ := z_nn hf
          refine z_getN B hW (Or.inr zf_X9_10) rfl hg27 hv34 dX9_give_101 ?_
          obtain ⟨hg35, hf⟩ := z_g hf
          refine z_getI B hW (Or.inl zf_X9_106) rfl hg35 dX9_give_104 ?_
          obtain ⟨hg36, hf⟩ := z_g hf
          obtain ⟨r38, σ39, hq37, hf⟩ := z_b2 hf
          refine z_ci hW (z_runV (As := [.ref a7, .int l2, .int l3, .int (z_I σ26 q33 9)]) (rest := []) B hW zv_X9_109 (K_X3_add hq37) hg36 rfl rfl rfl (Nat.le_of_ble_eq_true rfl) hl.1 ⟨Nat.le_of_ble_eq_true rfl, Nat.le_of_ble_eq_true rfl⟩ dX9_give_107 ⟨Nat.le_of_ble_eq_true rfl, Nat.le_of_ble_eq_true rfl⟩) (fun H locs hW => ?_)
          exact z_rxi B hW (z_e1 hf) dX9_give_110 (Nat.le_of_ble_eq_true rfl) (Nat.le_of_ble_eq_true rfl)
        · replace hf := z_in hc65 hf
          exact z_thr (rest := []) hst B hX htab hW zt_X9_49_104 hl.1 dX9_give_68 dX9_give_71 dX9_give_72 dX9_give_74 dX9_give_77 (Nat.le_of_ble_eq_true rfl) (Nat.le_of_ble_eq_true rfl) (Nat.le_of_ble_eq_true rfl) (Nat.le_of_ble_eq_true rfl) (z_e1 hf) (Nat.le_of_ble_eq_true rfl) (Nat.le_of_ble_eq_true rfl)
      · replace hf := z_ip hc42 hf
        exact t_X9_give_45 B hst hX htab hf hW (lv_sub hl [] rfl) 
set_option maxRecDepth 100000 in
def f_X9_addNoise_19 (σ : zSt) : Option ((Nat ⊕ Int32) × zSt) :=
(some (.inl 0, z_gr σ))
set_option maxRecDepth 20000 in
set_option maxHeartbeats 4000000 in
theorem t_X9_addNoise_19 (B : z_B p s m args meth c D cA bs RX9 cX9_addNoise 3 (some .int)) (hst : l.stackTraces = false) (hX : z_X bs s) (htab : ∀ x ∈ c.exceptionTable.toList, False) {out : (Nat ⊕ Int32) × zSt} {σ : zSt} (hf : f_X9_addNoise_19 σ = some out) {H : Heap} {locs : List Loc} {ls : Array Slot} (hW : z_Ok D cA bs s σ H locs) (hl : lv_has ls 3 [])  : W p l e (zrm 6 1 6 148) s m args below meth c H locs 0 0 (vx_MQ below (z_QX D cA bs out) (z_XX D cA bs out) args s 1 6 (fun q => bs ≤ q)) (F0 m 19 ls []) := by
  have hx := B.1
  have hb := B.2.1
  have hown := B.2.2.2.1
  have hts := B.2.2.2.2.1
  unfold f_X9_addNoise_19 at hf
  exact z_thr (rest := []) hst B hX htab hW zt_X9_34_114 hl.1 dX9_addNoise_19 dX9_addNoise_22 dX9_addNoise_23 dX9_addNoise_25 dX9_addNoise_28 (Nat.le_of_ble_eq_true rfl) (Nat.le_of_ble_eq_true rfl) (Nat.le_of_ble_eq_true rfl) (Nat.le_of_ble_eq_true rfl) (z_e1 hf) (Nat.le_of_ble_eq_true rfl) (Nat.le_of_ble_eq_true rfl)
set_option maxRecDepth 100000 in
def f_X9_addNoise (σ : zSt) (l0 : Nat) (l1 : Int32) (l2 : Int32) : Option ((Nat ⊕ Int32) × zSt) :=
(zb (f_X9_isWithin σ l2 (0 : Int32) (1000000 : Int32)) (fun r2 => (if r2 = 0 then
(f_X9_addNoise_19 σ)
else
(zb (f_X9_isWithin σ l1 (0 : Int32) l2) (fun r4 => (if r4 = 0 then
(f_X9_addNoise_19 σ)
else
(if z_ob σ l0 8 then (zc (z_R σ l0 0) none (fun q6 => (if z_ob σ q6 2 then (zc (z_R σ q6 2) none (fun q9 => (if z_ob σ q9 4 then (zb (f_X4_isFull σ q9) (fun r13 => (if r13 = 0 then
(zc (z_R σ l0 2) none (fun q14 => (zc (z_R σ l0 0) none (fun q16 => (if z_ob σ q14 1 then (zb (f_X1_save σ q14 q16) (fun σ20 => (if z_ob σ20 l0 8 then (zc (z_R σ20 l0 0) none (fun q22 => (if z_ob σ20 q22 2 then (zc (z_R σ20 q22 2) none (fun q25 => (if z_ob σ20 q25 4 then (zb (f_X4_add σ20 q25 l1 l2) (fun σ29 => (if z_ob σ29 l0 8 then (zc (z_R σ29 l0 0) none (fun q31 => (if z_ob σ29 q31 2 then (zc (z_R σ29 q31 2) none (fun q34 => (if z_ob σ29 q34 4 then (some (.inr (z_I σ29 q34 2), σ29)) else none))) else none))) else none))) else none))) else none))) else none))) else none)))))
else
(some (.inl 1, z_gr σ))))) else none))) else none))) else none)))))))
set_option maxRecDepth 20000 in
set_option maxHeartbeats 4000000 in
theorem K_X9_addNoise (hst : l.stackTraces = false) {σ : zSt} {l0 : Nat} {l1 : Int32} {l2 : Int32} {out : (Nat ⊕ Int32) × zSt} (hf : f_X9_addNoise σ l0 l1 l2 = some out) : z_MX l D cA bs yX9_addNoise cX9_addNoise 3 (some .int) 6 148 1 6 [.ref l0, .int l1, .int l2] σ out := by
  refine z_metX (own := RX9) (lv := [(0, .ref l0), (1, .int l1), (2, .int l2)]) (by decide) rfl (Nat.le_of_ble_eq_true rfl) rfl (fun p e s m below meth c ls B hX htab hW hl => ?_)
  have hx := B.1
  have hb := B.2.1
  have hown := B.2.2.2.1
  have hts := B.2.2.2.2.1
  unfold f_X9_addNoise at hf
  refine lv_iload_n hx hb dX9_addNoise_0 rfl (lv_at hl 2 rfl) ?_
  refine lv_iconst (v := (0 : Int32)) hx hb dX9_addNoise_1 (by decide) ?_
  refine lv_ldc hx hb hown (hts _ zk_X9_113) dX9_addNoise_2 ?_
  obtain ⟨r2, hq1, hf⟩ := z_b hf
  refine z_ci hW (z_runS (As := [.int l2, .int (0 : Int32), .int (1000000 : Int32)]) (rest := []) B hW zv_X9_80 (K_X9_isWithin hq1) rfl rfl (Nat.le_of_ble_eq_true rfl) hl.1 ⟨Nat.le_of_ble_eq_true rfl, Nat.le_of_ble_eq_true rfl⟩ dX9_addNoise_4 ⟨Nat.le_of_ble_eq_true rfl, Nat.le_of_ble_eq_true rfl⟩) (fun H locs hW => ?_)
  refine lv_if_eq (tgt := 19) hx hb dX9_addNoise_7 (by decide) (fun hc7 => ?_) (fun hc7 => ?_)
  · replace hf := z_ip hc7 hf
    exact t_X9_addNoise_19 B hst hX htab hf hW (lv_sub hl [] rfl) 
  · replace hf := z_in hc7 hf
    refine lv_iload_n hx hb dX9_addNoise_10 rfl (lv_at hl 1 rfl) ?_
    refine lv_iconst (v := (0 : Int32)) hx hb dX9_addNoise_11 (by decide) ?_
    refine lv_iload_n hx hb dX9_addNoise_12 rfl (lv_at hl 2 rfl) ?_
    obtain ⟨r4, hq3, hf⟩ := z_b hf
    refine z_ci hW (z_runS (As := [.int l1, .int (0 : Int32), .int l2]) (rest := []) B hW zv_X9_80 (K_X9_isWithin hq3) rfl rfl (Nat.le_of_ble_eq_true rfl) hl.1 ⟨Nat.le_of_ble_eq_true rfl, Nat.le_of_ble_eq_true rfl⟩ dX9_addNoise_13 ⟨Nat.le_of_ble_eq_true rfl, Nat.le_of_ble_eq_true rfl⟩) (fun H locs hW => ?_)
    refine lv_if_ne (tgt := 29) hx hb dX9_addNoise_16 (by decide) (fun hc16 => ?_) (fun hc16 => ?_)
    · replace hf := z_in hc16 hf
      refine lv_aload_n hx hb dX9_addNoise_29 rfl (lv_at hl 0 rfl) ?_
      obtain ⟨hg5, hf⟩ := z_g hf
      obtain ⟨q6, hv7, hf⟩ := z_nn hf
      refine z_getN B hW (Or.inr zf_X9_10) rfl hg5 hv7 dX9_addNoise_30 ?_
      obtain ⟨hg8, hf⟩ := z_g hf
      obtain ⟨q9, hv10, hf⟩ := z_nn hf
      refine z_getN B hW (Or.inr zf_X9_116) rfl hg8 hv10 dX9_addNoise_33 ?_
      obtain ⟨hg11, hf⟩ := z_g hf
      obtain ⟨r13, hq12, hf⟩ := z_b hf
      refine z_ci hW (z_runV (As := []) (rest := []) B hW zv_X9_120 (K_X4_isFull hq12) hg11 rfl rfl rfl (Nat.le_of_ble_eq_true rfl) hl.1 ⟨Nat.le_of_ble_eq_true rfl, Nat.le_of_ble_eq_true rfl⟩ dX9_addNoise_36 ⟨Nat.le_of_ble_eq_true rfl, Nat.le_of_ble_eq_true rfl⟩) (fun H locs hW => ?_)
      refine lv_if_eq (tgt := 52) hx hb dX9_addNoise_39 (by decide) (fun hc39 => ?_) (fun hc39 => ?_)
      · replace hf := z_ip hc39 hf
        refine lv_aload_n hx hb dX9_addNoise_52 rfl (lv_at hl 0 rfl) ?_
        obtain ⟨q14, hv15, hf⟩ := z_nn hf
        refine z_getN B hW (Or.inr zf_X9_22) rfl hg5 hv15 dX9_addNoise_53 ?_
        refine lv_aload_n hx hb dX9_addNoise_56 rfl (lv_at hl 0 rfl) ?_
        obtain ⟨q16, hv17, hf⟩ := z_nn hf
        refine z_getN B hW (Or.inr zf_X9_10) rfl hg5 hv17 dX9_addNoise_57 ?_
        obtain ⟨hg18, hf⟩ := z_g hf
        obtain ⟨σ20, hq19, hf⟩ := z_b hf
        refine z_cv hW (z_runV (As := [.ref q16]) (rest := []) B hW zv_X9_54 (K_X1_save hq19) hg18 rfl rfl rfl (Nat.le_of_ble_eq_true rfl) hl.1 ⟨Nat.le_of_ble_eq_true rfl, Nat.le_of_ble_eq_true rfl⟩ dX9_addNoise_60 ⟨Nat.le_of_ble_eq_true rfl, Nat.le_of_ble_eq_true rfl⟩) (fun H locs hW => ?_)
        refine lv_aload_n hx hb dX9_addNoise_63 rfl (lv_at hl 0 rfl) ?_
        obtain ⟨hg21, hf⟩ := z_g hf
        obtain ⟨q22, hv23, hf⟩ := z_nn hf
        refine z_getN B hW (Or.inr zf_X9_10) rfl hg21 hv23 dX9_addNoise_64 ?_
        obtain ⟨hg24, hf⟩ := z_g hf
        obtain ⟨q25, hv26, hf⟩ := z_nn hf
        refine z_getN B hW (Or.inr zf_X9_116) rfl hg24 hv26 dX9_addNoise_67 ?_
        refine lv_iload_n hx hb dX9_addNoise_70 rfl (lv_at hl 1 rfl) ?_
        refine lv_iload_n hx hb dX9_addNoise_71 rfl (lv_at hl 2 rfl) ?_
        obtain ⟨hg27, hf⟩ := z_g hf
        obtain ⟨σ29, hq28, hf⟩ := z_b hf
        refine z_cv hW (z_runV (As := [.int l1, .int l2]) (rest := []) B hW zv_X9_125 (K_X4_add hq28) hg27 rfl rfl rfl (Nat.le_of_ble_eq_true rfl) hl.1 ⟨Nat.le_of_ble_eq_true rfl, Nat.le_of_ble_eq_true rfl⟩ dX9_addNoise_72 ⟨Nat.le_of_ble_eq_true rfl, Nat.le_of_ble_eq_true rfl⟩) (fun H locs hW => ?_)
        refine lv_aload_n hx hb dX9_addNoise_75 rfl (lv_at hl 0 rfl) ?_
        obtain ⟨hg30, hf⟩ := z_g hf
        obtain ⟨q31, hv32, hf⟩ := z_nn hf
        refine z_getN B hW (Or.inr zf_X9_10) rfl hg30 hv32 dX9_addNoise_76 ?_
        obtain ⟨hg33, hf⟩ := z_g hf
        obtain ⟨q34, hv35, hf⟩ := z_nn hf
        refine z_getN B hW (Or.inr zf_X9_116) rfl hg33 hv35 dX9_addNoise_79 ?_
        obtain ⟨hg36, hf⟩ := z_g hf
        refine z_getI B hW (Or.inl zf_X9_128) rfl hg36 dX9_addNoise_82 ?_
        exact z_rxi B hW (z_e1 hf) dX9_addNoise_85 (Nat.le_of_ble_eq_true rfl) (Nat.le_of_ble_eq_true rfl)
      · replace hf := z_in hc39 hf
        exact z_thr (rest := []) hst B hX htab hW zt_X9_49_123 hl.1 dX9_addNoise_42 dX9_addNoise_45 dX9_addNoise_46 dX9_addNoise_48 dX9_addNoise_51 (Nat.le_of_ble_eq_true rfl) (Nat.le_of_ble_eq_true rfl) (Nat.le_of_ble_eq_true rfl) (Nat.le_of_ble_eq_true rfl) (z_e1 hf) (Nat.le_of_ble_eq_true rfl) (Nat.le_of_ble_eq_true rfl)
    · replace hf := z_ip hc16 hf
      exact t_X9_addNoise_19 B hst hX htab hf hW (lv_sub hl [] rfl) 
set_option maxRecDepth 100000 in
def b_X9_run_54 (l0 : Nat) (l1 : Int32) (σ : zSt) (l2 : Int32) : Option ((zSt × Int32) ⊕ ((Nat ⊕ Int32) × zSt)) :=
(if l1 ≤ l2 then
(zex (if z_ob σ l0 8 then (zc (z_R σ l0 0) none (fun q2 => (if z_ob σ q2 2 then (some (.inr (z_I σ q2 9), σ)) else none))) else none))
else
(if z_ob σ l0 8 then (zc (z_R σ l0 0) none (fun q7 => (zb (f_X8_makeVisit σ q7) (fun σ10 => (some (.inl (σ10, (l2 + (1 : Int32))))))))) else none))
set_option maxRecDepth 100000 in
def f_X9_run_54 (l0 : Nat) (l1 : Int32) (σ : zSt) (l2 : Int32) : Option ((Nat ⊕ Int32) × zSt) := zloop (fun (t : zSt × Int32) => b_X9_run_54 l0 l1 t.1 t.2) zN (σ, l2)
set_option maxRecDepth 20000 in
set_option maxHeartbeats 4000000 in
theorem tb_X9_run_54 (B : z_B p s m args meth c D cA bs RX9 cX9_run 3 (some .int)) (hst : l.stackTraces = false) (hX : z_X bs s) (htab : ∀ x ∈ c.exceptionTable.toList, False) {out : (Nat ⊕ Int32) × zSt} {o1 : (zSt × Int32) ⊕ ((Nat ⊕ Int32) × zSt)} {l0 : Nat} {l1 : Int32} {σ : zSt} {l2 : Int32} (hf : b_X9_run_54 l0 l1 σ l2 = some o1) {H : Heap} {locs : List Loc} {ls : Array Slot} (hW : z_Ok D cA bs s σ H locs) (hl : lv_has ls 3 [(0, .ref l0), (1, .int l1), (2, .int l2)]) (hk1 : ∀ (σ : zSt) (l2 : Int32), o1 = .inl (σ, l2) → ∀ {H : Heap} {locs : List Loc} {ls : Array Slot}, z_Ok D cA bs s σ H locs → lv_has ls 3 [(0, .ref l0), (1, .int l1), (2, .int l2)] → W p l e (zrm 6 1 6 148) s m args below meth c H locs 0 0 (vx_MQ below (z_QX D cA bs out) (z_XX D cA bs out) args s 1 6 (fun q => bs ≤ q)) (F0 m 54 ls [])) (hr1 : ∀ x, o1 = .inr x → x = out) : W p l e (zrm 6 1 6 148) s m args below meth c H locs 0 0 (vx_MQ below (z_QX D cA bs out) (z_XX D cA bs out) args s 1 6 (fun q => bs ≤ q)) (F0 m 54 ls []) := by
  have hx := B.1
  have hb := B.2.1
  have hown := B.2.2.2.1
  have hts := B.2.2.2.2.1
  unfold b_X9_run_54 at hf
  refine lv_iload_n hx hb dX9_run_54 rfl (lv_at hl 2 rfl) ?_
  refine lv_iload_n hx hb dX9_run_55 rfl (lv_at hl 1 rfl) ?_
  refine lv_icmp_ge (tgt := 72) hx hb dX9_run_56 (by decide) (fun hc56 => ?_) (fun hc56 => ?_)
  · replace hf := z_ip hc56 hf
    obtain ⟨w1, hf, ho5⟩ := z_x hf
    obtain rfl := hr1 _ ho5
    refine lv_aload_n hx hb dX9_run_72 rfl (lv_at hl 0 rfl) ?_
    obtain ⟨hg1, hf⟩ := z_g hf
    obtain ⟨q2, hv3, hf⟩ := z_nn hf
    refine z_getN B hW (Or.inr zf_X9_10) rfl hg1 hv3 dX9_run_73 ?_
    obtain ⟨hg4, hf⟩ := z_g hf
    refine z_getI B hW (Or.inl zf_X9_106) rfl hg4 dX9_run_76 ?_
    exact z_rxi B hW (z_e1 hf) dX9_run_79 (Nat.le_of_ble_eq_true rfl) (Nat.le_of_ble_eq_true rfl)
  · replace hf := z_in hc56 hf
    refine lv_aload_n hx hb dX9_run_59 rfl (lv_at hl 0 rfl) ?_
    obtain ⟨hg6, hf⟩ := z_g hf
    obtain ⟨q7, hv8, hf⟩ := z_nn hf
    refine z_getN B hW (Or.inr zf_X9_10) rfl hg6 hv8 dX9_run_60 ?_
    obtain ⟨σ10, hq9, hf⟩ := z_b hf
    refine z_cv hW (z_runS (As := [.ref q7]) (rest := []) B hW zv_X9_138 (K_X8_makeVisit hq9) rfl rfl (Nat.le_of_ble_eq_true rfl) hl.1 ⟨Nat.le_of_ble_eq_true rfl, Nat.le_of_ble_eq_true rfl⟩ dX9_run_63 ⟨Nat.le_of_ble_eq_true rfl, Nat.le_of_ble_eq_true rfl⟩) (fun H locs hW => ?_)
    refine lv_iinc (v := (l2 + (1 : Int32))) (lv' := [(2, .int (l2 + (1 : Int32))), (0, .ref l0), (1, .int l1)]) hx hb dX9_run_66 hl (k := 2) rfl rfl (by decide) rfl (fun ls hl => ?_)
    refine lv_goto (tgt := 54) hx hb dX9_run_69 (by decide) ?_
    exact hk1 _ _ (Option.some.inj hf).symm hW (lv_sub hl [1, 2, 0] rfl)
set_option maxRecDepth 20000 in
set_option maxHeartbeats 4000000 in
theorem t_X9_run_54 (B : z_B p s m args meth c D cA bs RX9 cX9_run 3 (some .int)) (hst : l.stackTraces = false) (hX : z_X bs s) (htab : ∀ x ∈ c.exceptionTable.toList, False) {out : (Nat ⊕ Int32) × zSt} {l0 : Nat} {l1 : Int32}  : ∀ (n : Nat) {σ : zSt} {l2 : Int32}, zloop (fun (t : zSt × Int32) => b_X9_run_54 l0 l1 t.1 t.2) n (σ, l2) = some out → ∀ {H : Heap} {locs : List Loc} {ls : Array Slot}, z_Ok D cA bs s σ H locs → lv_has ls 3 [(0, .ref l0), (1, .int l1), (2, .int l2)] → W p l e (zrm 6 1 6 148) s m args below meth c H locs 0 0 (vx_MQ below (z_QX D cA bs out) (z_XX D cA bs out) args s 1 6 (fun q => bs ≤ q)) (F0 m 54 ls []) := by
  intro n
  induction n with
  | zero => intro σ l2 hf; cases hf
  | succ n ih =>
    intro σ l2 hf H locs ls hW hl
    obtain ⟨o1, hb1, hf⟩ := z_lp hf
    refine tb_X9_run_54 B hst hX htab hb1 hW hl  (fun σ l2 he H locs ls hW hl => ?_) (fun x he => ?_)
    · rcases hf with ⟨t, ht, hf⟩ | hf
      · rw [he] at ht
        cases ht
        exact ih hf hW hl
      · rw [he] at hf
        cases hf
    · rcases hf with ⟨t, ht, hf⟩ | hf
      · rw [he] at ht
        cases ht
      · rw [he] at hf
        exact Sum.inr.inj hf
set_option maxRecDepth 100000 in
def f_X9_run (σ : zSt) (l0 : Nat) (l1 : Int32) : Option ((Nat ⊕ Int32) × zSt) :=
(zb (f_X9_isWithin σ l1 (0 : Int32) (200 : Int32)) (fun r2 => (if r2 = 0 then
(some (.inl 0, z_gr σ))
else
(if z_ob σ l0 8 then (zc (z_R σ l0 0) none (fun q4 => (if z_ob σ q4 2 then (zb (f_X2_isTooLate σ q4) (fun r8 => (if r8 = 0 then
(zc (z_R σ l0 2) none (fun q9 => (zc (z_R σ l0 0) none (fun q11 => (if z_ob σ q9 1 then (zb (f_X1_save σ q9 q11) (fun σ15 => (f_X9_run_54 l0 l1 σ15 (0 : Int32)))) else none)))))
else
(some (.inl 1, z_gr σ))))) else none))) else none))))
set_option maxRecDepth 20000 in
set_option maxHeartbeats 4000000 in
theorem K_X9_run (hst : l.stackTraces = false) {σ : zSt} {l0 : Nat} {l1 : Int32} {out : (Nat ⊕ Int32) × zSt} (hf : f_X9_run σ l0 l1 = some out) : z_MX l D cA bs yX9_run cX9_run 3 (some .int) 6 148 1 6 [.ref l0, .int l1] σ out := by
  refine z_metX (own := RX9) (lv := [(0, .ref l0), (1, .int l1)]) (by decide) rfl (Nat.le_of_ble_eq_true rfl) rfl (fun p e s m below meth c ls B hX htab hW hl => ?_)
  have hx := B.1
  have hb := B.2.1
  have hown := B.2.2.2.1
  have hts := B.2.2.2.2.1
  unfold f_X9_run at hf
  refine lv_iload_n hx hb dX9_run_0 rfl (lv_at hl 1 rfl) ?_
  refine lv_iconst (v := (0 : Int32)) hx hb dX9_run_1 (by decide) ?_
  refine lv_sipush (v := (200 : Int32)) hx hb dX9_run_2 (by decide) ?_
  obtain ⟨r2, hq1, hf⟩ := z_b hf
  refine z_ci hW (z_runS (As := [.int l1, .int (0 : Int32), .int (200 : Int32)]) (rest := []) B hW zv_X9_80 (K_X9_isWithin hq1) rfl rfl (Nat.le_of_ble_eq_true rfl) hl.1 ⟨Nat.le_of_ble_eq_true rfl, Nat.le_of_ble_eq_true rfl⟩ dX9_run_5 ⟨Nat.le_of_ble_eq_true rfl, Nat.le_of_ble_eq_true rfl⟩) (fun H locs hW => ?_)
  refine lv_if_ne (tgt := 21) hx hb dX9_run_8 (by decide) (fun hc8 => ?_) (fun hc8 => ?_)
  · replace hf := z_in hc8 hf
    refine lv_aload_n hx hb dX9_run_21 rfl (lv_at hl 0 rfl) ?_
    obtain ⟨hg3, hf⟩ := z_g hf
    obtain ⟨q4, hv5, hf⟩ := z_nn hf
    refine z_getN B hW (Or.inr zf_X9_10) rfl hg3 hv5 dX9_run_22 ?_
    obtain ⟨hg6, hf⟩ := z_g hf
    obtain ⟨r8, hq7, hf⟩ := z_b hf
    refine z_ci hW (z_runV (As := []) (rest := []) B hW zv_X9_133 (K_X2_isTooLate hq7) hg6 rfl rfl rfl (Nat.le_of_ble_eq_true rfl) hl.1 ⟨Nat.le_of_ble_eq_true rfl, Nat.le_of_ble_eq_true rfl⟩ dX9_run_25 ⟨Nat.le_of_ble_eq_true rfl, Nat.le_of_ble_eq_true rfl⟩) (fun H locs hW => ?_)
    refine lv_if_eq (tgt := 41) hx hb dX9_run_28 (by decide) (fun hc28 => ?_) (fun hc28 => ?_)
    · replace hf := z_ip hc28 hf
      refine lv_aload_n hx hb dX9_run_41 rfl (lv_at hl 0 rfl) ?_
      obtain ⟨q9, hv10, hf⟩ := z_nn hf
      refine z_getN B hW (Or.inr zf_X9_22) rfl hg3 hv10 dX9_run_42 ?_
      refine lv_aload_n hx hb dX9_run_45 rfl (lv_at hl 0 rfl) ?_
      obtain ⟨q11, hv12, hf⟩ := z_nn hf
      refine z_getN B hW (Or.inr zf_X9_10) rfl hg3 hv12 dX9_run_46 ?_
      obtain ⟨hg13, hf⟩ := z_g hf
      obtain ⟨σ15, hq14, hf⟩ := z_b hf
      refine z_cv hW (z_runV (As := [.ref q11]) (rest := []) B hW zv_X9_54 (K_X1_save hq14) hg13 rfl rfl rfl (Nat.le_of_ble_eq_true rfl) hl.1 ⟨Nat.le_of_ble_eq_true rfl, Nat.le_of_ble_eq_true rfl⟩ dX9_run_49 ⟨Nat.le_of_ble_eq_true rfl, Nat.le_of_ble_eq_true rfl⟩) (fun H locs hW => ?_)
      refine lv_iconst (v := (0 : Int32)) hx hb dX9_run_52 (by decide) ?_
      refine lv_istore_n (lv' := [(2, .int (0 : Int32)), (0, .ref l0), (1, .int l1)]) hx hb dX9_run_53 rfl hl (by decide) rfl (fun ls hl => ?_)
      unfold f_X9_run_54 at hf
      exact t_X9_run_54 B hst hX htab  zN hf hW (lv_sub hl [1, 2, 0] rfl)
    · replace hf := z_in hc28 hf
      exact z_thr (rest := []) hst B hX htab hW zt_X9_49_136 hl.1 dX9_run_31 dX9_run_34 dX9_run_35 dX9_run_37 dX9_run_40 (Nat.le_of_ble_eq_true rfl) (Nat.le_of_ble_eq_true rfl) (Nat.le_of_ble_eq_true rfl) (Nat.le_of_ble_eq_true rfl) (z_e1 hf) (Nat.le_of_ble_eq_true rfl) (Nat.le_of_ble_eq_true rfl)
  · replace hf := z_ip hc8 hf
    exact z_thr (rest := []) hst B hX htab hW zt_X9_34_131 hl.1 dX9_run_11 dX9_run_14 dX9_run_15 dX9_run_17 dX9_run_20 (Nat.le_of_ble_eq_true rfl) (Nat.le_of_ble_eq_true rfl) (Nat.le_of_ble_eq_true rfl) (Nat.le_of_ble_eq_true rfl) (z_e1 hf) (Nat.le_of_ble_eq_true rfl) (Nat.le_of_ble_eq_true rfl)
set_option maxRecDepth 100000 in
def f_X9_setting (σ : zSt) (l0 : Nat) (l1 : Int32) : Option ((Nat ⊕ Int32) × zSt) :=
(zb (f_X9_isWithin σ l1 (0 : Int32) (8 : Int32)) (fun r2 => (if r2 = 0 then
(some (.inl 0, z_gr σ))
else
(if z_ob σ l0 8 then (zc (z_R σ l0 0) none (fun q4 => (if z_ob σ q4 2 then (zb (f_X2_settingValue σ q4 l1) (fun r8 => (some (.inr r8, σ)))) else none))) else none))))
set_option maxRecDepth 20000 in
set_option maxHeartbeats 4000000 in
theorem K_X9_setting (hst : l.stackTraces = false) {σ : zSt} {l0 : Nat} {l1 : Int32} {out : (Nat ⊕ Int32) × zSt} (hf : f_X9_setting σ l0 l1 = some out) : z_MX l D cA bs yX9_setting cX9_setting 2 (some .int) 6 100 1 6 [.ref l0, .int l1] σ out := by
  refine z_metX (own := RX9) (lv := [(0, .ref l0), (1, .int l1)]) (by decide) rfl (Nat.le_of_ble_eq_true rfl) rfl (fun p e s m below meth c ls B hX htab hW hl => ?_)
  have hx := B.1
  have hb := B.2.1
  have hown := B.2.2.2.1
  have hts := B.2.2.2.2.1
  unfold f_X9_setting at hf
  refine lv_iload_n hx hb dX9_setting_0 rfl (lv_at hl 1 rfl) ?_
  refine lv_iconst (v := (0 : Int32)) hx hb dX9_setting_1 (by decide) ?_
  refine lv_bipush (v := (8 : Int32)) hx hb dX9_setting_2 (by decide) ?_
  obtain ⟨r2, hq1, hf⟩ := z_b hf
  refine z_ci hW (z_runS (As := [.int l1, .int (0 : Int32), .int (8 : Int32)]) (rest := []) B hW zv_X9_80 (K_X9_isWithin hq1) rfl rfl (Nat.le_of_ble_eq_true rfl) hl.1 ⟨Nat.le_of_ble_eq_true rfl, Nat.le_of_ble_eq_true rfl⟩ dX9_setting_4 ⟨Nat.le_of_ble_eq_true rfl, Nat.le_of_ble_eq_true rfl⟩) (fun H locs hW => ?_)
  refine lv_if_ne (tgt := 20) hx hb dX9_setting_7 (by decide) (fun hc7 => ?_) (fun hc7 => ?_)
  · replace hf := z_in hc7 hf
    refine lv_aload_n hx hb dX9_setting_20 rfl (lv_at hl 0 rfl) ?_
    obtain ⟨hg3, hf⟩ := z_g hf
    obtain ⟨q4, hv5, hf⟩ := z_nn hf
    refine z_getN B hW (Or.inr zf_X9_10) rfl hg3 hv5 dX9_setting_21 ?_
    refine lv_iload_n hx hb dX9_setting_24 rfl (lv_at hl 1 rfl) ?_
    obtain ⟨hg6, hf⟩ := z_g hf
    obtain ⟨r8, hq7, hf⟩ := z_b hf
    refine z_ci hW (z_runV (As := [.int l1]) (rest := []) B hW zv_X9_148 (K_X2_settingValue hq7) hg6 rfl rfl rfl (Nat.le_of_ble_eq_true rfl) hl.1 ⟨Nat.le_of_ble_eq_true rfl, Nat.le_of_ble_eq_true rfl⟩ dX9_setting_25 ⟨Nat.le_of_ble_eq_true rfl, Nat.le_of_ble_eq_true rfl⟩) (fun H locs hW => ?_)
    exact z_rxi B hW (z_e1 hf) dX9_setting_28 (Nat.le_of_ble_eq_true rfl) (Nat.le_of_ble_eq_true rfl)
  · replace hf := z_ip hc7 hf
    exact z_thr (rest := []) hst B hX htab hW zt_X9_34_146 hl.1 dX9_setting_10 dX9_setting_13 dX9_setting_14 dX9_setting_16 dX9_setting_19 (Nat.le_of_ble_eq_true rfl) (Nat.le_of_ble_eq_true rfl) (Nat.le_of_ble_eq_true rfl) (Nat.le_of_ble_eq_true rfl) (z_e1 hf) (Nat.le_of_ble_eq_true rfl) (Nat.le_of_ble_eq_true rfl)
set_option maxRecDepth 100000 in
def f_X9_station (σ : zSt) (l0 : Nat) (l1 : Int32) (l2 : Int32) : Option ((Nat ⊕ Int32) × zSt) :=
(if z_ob σ l0 8 then (zc (z_R σ l0 0) none (fun q2 => (if z_ob σ q2 2 then (zb (f_X2_stationWith σ q2 l1) (fun r6 => (zc r6
(some (.inl 3, z_gr σ))
(fun a7 => (zb (f_X9_isWithin σ l2 (0 : Int32) (6 : Int32)) (fun r9 => (if r9 = 0 then
(some (.inl 0, z_gr σ))
else
(if z_ob σ a7 6 then (zb (f_X6_value σ a7 l2) (fun r12 => (some (.inr r12, σ)))) else none)))))))) else none))) else none)
set_option maxRecDepth 20000 in
set_option maxHeartbeats 4000000 in
theorem K_X9_station (hst : l.stackTraces = false) {σ : zSt} {l0 : Nat} {l1 : Int32} {l2 : Int32} {out : (Nat ⊕ Int32) × zSt} (hf : f_X9_station σ l0 l1 l2 = some out) : z_MX l D cA bs yX9_station cX9_station 4 (some .int) 6 100 1 6 [.ref l0, .int l1, .int l2] σ out := by
  refine z_metX (own := RX9) (lv := [(0, .ref l0), (1, .int l1), (2, .int l2)]) (by decide) rfl (Nat.le_of_ble_eq_true rfl) rfl (fun p e s m below meth c ls B hX htab hW hl => ?_)
  have hx := B.1
  have hb := B.2.1
  have hown := B.2.2.2.1
  have hts := B.2.2.2.2.1
  unfold f_X9_station at hf
  refine lv_aload_n hx hb dX9_station_0 rfl (lv_at hl 0 rfl) ?_
  obtain ⟨hg1, hf⟩ := z_g hf
  obtain ⟨q2, hv3, hf⟩ := z_nn hf
  refine z_getN B hW (Or.inr zf_X9_10) rfl hg1 hv3 dX9_station_1 ?_
  refine lv_iload_n hx hb dX9_station_4 rfl (lv_at hl 1 rfl) ?_
  obtain ⟨hg4, hf⟩ := z_g hf
  obtain ⟨r6, hq5, hf⟩ := z_b hf
  refine z_cq hW (z_runV (As := [.int l1]) (rest := []) B hW zv_X9_41 (K_X2_stationWith hq5) hg4 rfl rfl rfl (Nat.le_of_ble_eq_true rfl) hl.1 ⟨Nat.le_of_ble_eq_true rfl, Nat.le_of_ble_eq_true rfl⟩ dX9_station_5 ⟨Nat.le_of_ble_eq_true rfl, Nat.le_of_ble_eq_true rfl⟩) (fun H locs hW => ?_)
  refine z_astore_n (lv' := [(3, va_rf r6), (0, .ref l0), (1, .int l1), (2, .int l2)]) hx hb dX9_station_8 rfl hl (by decide) rfl (fun ls hl => ?_)
  refine z_aload_n hx hb dX9_station_9 rfl (lv_at hl 0 rfl) ?_
  refine z_ifnonnull (tgt := 23) hx hb dX9_station_10 (by decide) (fun hz13 => ?_) (fun a7 hz13 => ?_)
  · subst hz13
    replace hf := z_c0 hf
    exact z_thr (rest := []) hst B hX htab hW zt_X9_65_67 hl.1 dX9_station_13 dX9_station_16 dX9_station_17 dX9_station_19 dX9_station_22 (Nat.le_of_ble_eq_true rfl) (Nat.le_of_ble_eq_true rfl) (Nat.le_of_ble_eq_true rfl) (Nat.le_of_ble_eq_true rfl) (z_e1 hf) (Nat.le_of_ble_eq_true rfl) (Nat.le_of_ble_eq_true rfl)
  · subst hz13
    replace hf := z_c1 hf
    refine lv_iload_n hx hb dX9_station_23 rfl (lv_at hl 3 rfl) ?_
    refine lv_iconst (v := (0 : Int32)) hx hb dX9_station_24 (by decide) ?_
    refine lv_bipush (v := (6 : Int32)) hx hb dX9_station_25 (by decide) ?_
    obtain ⟨r9, hq8, hf⟩ := z_b hf
    refine z_ci hW (z_runS (As := [.int l2, .int (0 : Int32), .int (6 : Int32)]) (rest := []) B hW zv_X9_80 (K_X9_isWithin hq8) rfl rfl (Nat.le_of_ble_eq_true rfl) hl.1 ⟨Nat.le_of_ble_eq_true rfl, Nat.le_of_ble_eq_true rfl⟩ dX9_station_27 ⟨Nat.le_of_ble_eq_true rfl, Nat.le_of_ble_eq_true rfl⟩) (fun H locs hW => ?_)
    refine lv_if_ne (tgt := 43) hx hb dX9_station_30 (by decide) (fun hc30 => ?_) (fun hc30 => ?_)
    · replace hf := z_in hc30 hf
      refine lv_aload_n hx hb dX9_station_43 rfl (lv_at hl 0 rfl) ?_
      refine lv_iload_n hx hb dX9_station_44 rfl (lv_at hl 3 rfl) ?_
      obtain ⟨hg10, hf⟩ := z_g hf
      obtain ⟨r12, hq11, hf⟩ := z_b hf
      refine z_ci hW (z_runV (As := [.int l2]) (rest := []) B hW zv_X9_154 (K_X6_value hq11) hg10 rfl rfl rfl (Nat.le_of_ble_eq_true rfl) hl.1 ⟨Nat.le_of_ble_eq_true rfl, Nat.le_of_ble_eq_true rfl⟩ dX9_station_45 ⟨Nat.le_of_ble_eq_true rfl, Nat.le_of_ble_eq_true rfl⟩) (fun H locs hW => ?_)
      exact z_rxi B hW (z_e1 hf) dX9_station_48 (Nat.le_of_ble_eq_true rfl) (Nat.le_of_ble_eq_true rfl)
    · replace hf := z_ip hc30 hf
      exact z_thr (rest := []) hst B hX htab hW zt_X9_34_152 hl.1 dX9_station_33 dX9_station_36 dX9_station_37 dX9_station_39 dX9_station_42 (Nat.le_of_ble_eq_true rfl) (Nat.le_of_ble_eq_true rfl) (Nat.le_of_ble_eq_true rfl) (Nat.le_of_ble_eq_true rfl) (z_e1 hf) (Nat.le_of_ble_eq_true rfl) (Nat.le_of_ble_eq_true rfl)
set_option maxRecDepth 100000 in
def f_X9_addressAt (σ : zSt) (l0 : Nat) (l1 : Int32) : Option ((Nat ⊕ Int32) × zSt) :=
(if z_ob σ l0 8 then (zc (z_R σ l0 0) none (fun q2 => (if z_ob σ q2 2 then (zb (f_X2_stationIn σ q2 l1) (fun r6 => (zc r6
(some (.inl 2, z_gr σ))
(fun a7 => (if z_ob σ a7 6 then (some (.inr (z_I σ a7 0), σ)) else none))))) else none))) else none)
set_option maxRecDepth 20000 in
set_option maxHeartbeats 4000000 in
theorem K_X9_addressAt (hst : l.stackTraces = false) {σ : zSt} {l0 : Nat} {l1 : Int32} {out : (Nat ⊕ Int32) × zSt} (hf : f_X9_addressAt σ l0 l1 = some out) : z_MX l D cA bs yX9_addressAt cX9_addressAt 3 (some .int) 6 100 1 6 [.ref l0, .int l1] σ out := by
  refine z_metX (own := RX9) (lv := [(0, .ref l0), (1, .int l1)]) (by decide) rfl (Nat.le_of_ble_eq_true rfl) rfl (fun p e s m below meth c ls B hX htab hW hl => ?_)
  have hx := B.1
  have hb := B.2.1
  have hown := B.2.2.2.1
  have hts := B.2.2.2.2.1
  unfold f_X9_addressAt at hf
  refine lv_aload_n hx hb dX9_addressAt_0 rfl (lv_at hl 0 rfl) ?_
  obtain ⟨hg1, hf⟩ := z_g hf
  obtain ⟨q2, hv3, hf⟩ := z_nn hf
  refine z_getN B hW (Or.inr zf_X9_10) rfl hg1 hv3 dX9_addressAt_1 ?_
  refine lv_iload_n hx hb dX9_addressAt_4 rfl (lv_at hl 1 rfl) ?_
  obtain ⟨hg4, hf⟩ := z_g hf
  obtain ⟨r6, hq5, hf⟩ := z_b hf
  refine z_cq hW (z_runV (As := [.int l1]) (rest := []) B hW zv_X9_157 (K_X2_stationIn hq5) hg4 rfl rfl rfl (Nat.le_of_ble_eq_true rfl) hl.1 ⟨Nat.le_of_ble_eq_true rfl, Nat.le_of_ble_eq_true rfl⟩ dX9_addressAt_5 ⟨Nat.le_of_ble_eq_true rfl, Nat.le_of_ble_eq_true rfl⟩) (fun H locs hW => ?_)
  refine z_astore_n (lv' := [(2, va_rf r6), (0, .ref l0), (1, .int l1)]) hx hb dX9_addressAt_8 rfl hl (by decide) rfl (fun ls hl => ?_)
  refine z_aload_n hx hb dX9_addressAt_9 rfl (lv_at hl 0 rfl) ?_
  refine z_ifnonnull (tgt := 23) hx hb dX9_addressAt_10 (by decide) (fun hz9 => ?_) (fun a7 hz9 => ?_)
  · subst hz9
    replace hf := z_c0 hf
    exact z_thr (rest := []) hst B hX htab hW zt_X9_160_162 hl.1 dX9_addressAt_13 dX9_addressAt_16 dX9_addressAt_17 dX9_addressAt_19 dX9_addressAt_22 (Nat.le_of_ble_eq_true rfl) (Nat.le_of_ble_eq_true rfl) (Nat.le_of_ble_eq_true rfl) (Nat.le_of_ble_eq_true rfl) (z_e1 hf) (Nat.le_of_ble_eq_true rfl) (Nat.le_of_ble_eq_true rfl)
  · subst hz9
    replace hf := z_c1 hf
    refine lv_aload_n hx hb dX9_addressAt_23 rfl (lv_at hl 0 rfl) ?_
    obtain ⟨hg8, hf⟩ := z_g hf
    refine z_getI B hW (Or.inl zf_X9_165) rfl hg8 dX9_addressAt_24 ?_
    exact z_rxi B hW (z_e1 hf) dX9_addressAt_27 (Nat.le_of_ble_eq_true rfl) (Nat.le_of_ble_eq_true rfl)
set_option maxRecDepth 100000 in
def f_X9_queued (σ : zSt) (l0 : Nat) (l1 : Int32) (l2 : Int32) : Option ((Nat ⊕ Int32) × zSt) :=
(if z_ob σ l0 8 then (zc (z_R σ l0 0) none (fun q2 => (if z_ob σ q2 2 then (zb (f_X2_stationWith σ q2 l1) (fun r6 => (zc r6
(some (.inl 3, z_gr σ))
(fun a7 => (if z_ob σ a7 6 then (zb (f_X9_isWithin σ l2 (0 : Int32) ((z_I σ a7 6) - (1 : Int32))) (fun r10 => (if r10 = 0 then
(some (.inl 2, z_gr σ))
else
(zc (z_R σ l0 0) none (fun q11 => (if z_ob σ q11 2 then (zc (z_R σ q11 1) none (fun q14 => (if z_ob σ q14 3 then (zb (f_X3_inQueue σ q14 a7 l2) (fun r18 => (some (.inr r18, σ)))) else none))) else none)))))) else none))))) else none))) else none)
set_option maxRecDepth 20000 in
set_option maxHeartbeats 4000000 in
theorem K_X9_queued (hst : l.stackTraces = false) {σ : zSt} {l0 : Nat} {l1 : Int32} {l2 : Int32} {out : (Nat ⊕ Int32) × zSt} (hf : f_X9_queued σ l0 l1 l2 = some out) : z_MX l D cA bs yX9_queued cX9_queued 4 (some .int) 6 100 1 6 [.ref l0, .int l1, .int l2] σ out := by
  refine z_metX (own := RX9) (lv := [(0, .ref l0), (1, .int l1), (2, .int l2)]) (by decide) rfl (Nat.le_of_ble_eq_true rfl) rfl (fun p e s m below meth c ls B hX htab hW hl => ?_)
  have hx := B.1
  have hb := B.2.1
  have hown := B.2.2.2.1
  have hts := B.2.2.2.2.1
  unfold f_X9_queued at hf
  refine lv_aload_n hx hb dX9_queued_0 rfl (lv_at hl 0 rfl) ?_
  obtain ⟨hg1, hf⟩ := z_g hf
  obtain ⟨q2, hv3, hf⟩ := z_nn hf
  refine z_getN B hW (Or.inr zf_X9_10) rfl hg1 hv3 dX9_queued_1 ?_
  refine lv_iload_n hx hb dX9_queued_4 rfl (lv_at hl 1 rfl) ?_
  obtain ⟨hg4, hf⟩ := z_g hf
  obtain ⟨r6, hq5, hf⟩ := z_b hf
  refine z_cq hW (z_runV (As := [.int l1]) (rest := []) B hW zv_X9_41 (K_X2_stationWith hq5) hg4 rfl rfl rfl (Nat.le_of_ble_eq_true rfl) hl.1 ⟨Nat.le_of_ble_eq_true rfl, Nat.le_of_ble_eq_true rfl⟩ dX9_queued_5 ⟨Nat.le_of_ble_eq_true rfl, Nat.le_of_ble_eq_true rfl⟩) (fun H locs hW => ?_)
  refine z_astore_n (lv' := [(3, va_rf r6), (0, .ref l0), (1, .int l1), (2, .int l2)]) hx hb dX9_queued_8 rfl hl (by decide) rfl (fun ls hl => ?_)
  refine z_aload_n hx hb dX9_queued_9 rfl (lv_at hl 0 rfl) ?_
  refine z_ifnonnull (tgt := 23) hx hb dX9_queued_10 (by decide) (fun hz19 => ?_) (fun a7 hz19 => ?_)
  · subst hz19
    replace hf := z_c0 hf
    exact z_thr (rest := []) hst B hX htab hW zt_X9_65_67 hl.1 dX9_queued_13 dX9_queued_16 dX9_queued_17 dX9_queued_19 dX9_queued_22 (Nat.le_of_ble_eq_true rfl) (Nat.le_of_ble_eq_true rfl) (Nat.le_of_ble_eq_true rfl) (Nat.le_of_ble_eq_true rfl) (z_e1 hf) (Nat.le_of_ble_eq_true rfl) (Nat.le_of_ble_eq_true rfl)
  · subst hz19
    replace hf := z_c1 hf
    refine lv_iload_n hx hb dX9_queued_23 rfl (lv_at hl 3 rfl) ?_
    refine lv_iconst (v := (0 : Int32)) hx hb dX9_queued_24 (by decide) ?_
    refine lv_aload_n hx hb dX9_queued_25 rfl (lv_at hl 0 rfl) ?_
    obtain ⟨hg8, hf⟩ := z_g hf
    refine z_getI B hW (Or.inl zf_X9_168) rfl hg8 dX9_queued_26 ?_
    refine lv_iconst (v := (1 : Int32)) hx hb dX9_queued_29 (by decide) ?_
    refine lv_isub hx hb dX9_queued_30 ?_
    obtain ⟨r10, hq9, hf⟩ := z_b hf
    refine z_ci hW (z_runS (As := [.int l2, .int (0 : Int32), .int ((z_I σ a7 6) - (1 : Int32))]) (rest := []) B hW zv_X9_80 (K_X9_isWithin hq9) rfl rfl (Nat.le_of_ble_eq_true rfl) hl.1 ⟨Nat.le_of_ble_eq_true rfl, Nat.le_of_ble_eq_true rfl⟩ dX9_queued_31 ⟨Nat.le_of_ble_eq_true rfl, Nat.le_of_ble_eq_true rfl⟩) (fun H locs hW => ?_)
    refine lv_if_ne (tgt := 47) hx hb dX9_queued_34 (by decide) (fun hc34 => ?_) (fun hc34 => ?_)
    · replace hf := z_in hc34 hf
      refine lv_aload_n hx hb dX9_queued_47 rfl (lv_at hl 1 rfl) ?_
      obtain ⟨q11, hv12, hf⟩ := z_nn hf
      refine z_getN B hW (Or.inr zf_X9_10) rfl hg1 hv12 dX9_queued_48 ?_
      obtain ⟨hg13, hf⟩ := z_g hf
      obtain ⟨q14, hv15, hf⟩ := z_nn hf
      refine z_getN B hW (Or.inr zf_X9_97) rfl hg13 hv15 dX9_queued_51 ?_
      refine lv_aload_n hx hb dX9_queued_54 rfl (lv_at hl 0 rfl) ?_
      refine lv_iload_n hx hb dX9_queued_55 rfl (lv_at hl 3 rfl) ?_
      obtain ⟨hg16, hf⟩ := z_g hf
      obtain ⟨r18, hq17, hf⟩ := z_b hf
      refine z_ci hW (z_runV (As := [.ref a7, .int l2]) (rest := []) B hW zv_X9_173 (K_X3_inQueue hq17) hg16 rfl rfl rfl (Nat.le_of_ble_eq_true rfl) hl.1 ⟨Nat.le_of_ble_eq_true rfl, Nat.le_of_ble_eq_true rfl⟩ dX9_queued_56 ⟨Nat.le_of_ble_eq_true rfl, Nat.le_of_ble_eq_true rfl⟩) (fun H locs hW => ?_)
      exact z_rxi B hW (z_e1 hf) dX9_queued_59 (Nat.le_of_ble_eq_true rfl) (Nat.le_of_ble_eq_true rfl)
    · replace hf := z_ip hc34 hf
      exact z_thr (rest := []) hst B hX htab hW zt_X9_160_171 hl.1 dX9_queued_37 dX9_queued_40 dX9_queued_41 dX9_queued_43 dX9_queued_46 (Nat.le_of_ble_eq_true rfl) (Nat.le_of_ble_eq_true rfl) (Nat.le_of_ble_eq_true rfl) (Nat.le_of_ble_eq_true rfl) (z_e1 hf) (Nat.le_of_ble_eq_true rfl) (Nat.le_of_ble_eq_true rfl)
end GEN
