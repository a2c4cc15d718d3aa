section GEN
variable {p : Program} {l : Launch} {e : Env} {s : State} {m : MethodId} {args : Array Value} {below : List Frame} {meth : Method} {c : Code} {D : va_G} {cA : Nat → ClassId} {bs : Nat}
set_option maxRecDepth 100000 in
def f_L_addStation (σ : zSt) (l0 : Nat) (l1 : Int32) (l2 : Nat) : Option (Int32 × zSt) :=
(if z_ob σ l0 8 then (zb2 (f_X9_addStation σ l0 l1) (fun r2 σ3 => (zx r2 (fun k => (if k = 0 then (some ((1 : Int32), σ3)) else (if k = 1 then (some ((2 : Int32), σ3)) else none))) (fun r9 => (if z_ar σ3 l2 2 then (if z_ix (0 : Int32) (z_ln σ3 l2) then (zl (z_pJ σ3 l2 (0 : Int32).toNatClampNeg r9.toInt64) (fun σ7 => (some ((0 : Int32), σ7)))) else none) else none))))) else none)
set_option maxRecDepth 20000 in
set_option maxHeartbeats 4000000 in
theorem K_L_addStation (hst : l.stackTraces = false) {σ : zSt} {l0 : Nat} {l1 : Int32} {l2 : Nat} {r : Int32} {σ' : zSt} (hf : f_L_addStation σ l0 l1 l2 = some (r, σ')) : z_MW l D cA bs yL_addStation cL_addStation 4 (some .int) [(0, 9, 12, 13), (0, 9, 15, 15)] 7 169 1 6 [.ref l0, .int l1, .ref l2] σ r σ' := by
  refine z_metW (own := RL) (lv := [(0, .ref l0), (1, .int l1), (2, .ref l2)]) (by decide) rfl (Nat.le_of_ble_eq_true rfl) rfl (fun p e s m below meth c ls B hX htab hW hl => ?_)
  have hx := B.1
  have hb := B.2.1
  have hown := B.2.2.2.1
  have hts := B.2.2.2.2.1
  unfold f_L_addStation at hf
  refine lv_aload_n hx hb dL_addStation_0 rfl (lv_at hl 2 rfl) ?_
  refine lv_iconst (v := (0 : Int32)) hx hb dL_addStation_1 (by decide) ?_
  refine lv_aload_n hx hb dL_addStation_2 rfl (lv_at hl 0 rfl) ?_
  refine lv_iload_n hx hb dL_addStation_3 rfl (lv_at hl 1 rfl) ?_
  obtain ⟨hg1, hf⟩ := z_g hf
  obtain ⟨r2, σ3, hq4, hf⟩ := z_b2 hf
  refine z_xci hW (z_runX (As := [.int l1]) (rest := [.int (0 : Int32), .ref l2]) B hX hW zv_L_7 (K_X9_addStation hst hq4) hg1 rfl rfl rfl (Nat.le_of_ble_eq_true rfl) hl.1 ⟨Nat.le_of_ble_eq_true rfl, Nat.le_of_ble_eq_true rfl⟩ dL_addStation_4 ⟨Nat.le_of_ble_eq_true rfl, Nat.le_of_ble_eq_true rfl⟩) (fun k ce q9 H locs he hW hc1 hc2 hc3 => ?_) (fun r9 H locs he hW => ?_)
  · subst he
    replace hf := z_x0 hf
    by_cases hk0 : k = 0
    · subst hk0
      replace hf := z_ip rfl hf
      refine vx_catch (name := z_exn 0) hown [] ({ startPc := 0, endPc := 9, handlerPc := 12, catchType := 13 } : ExceptionTableEntry) [({ startPc := 0, endPc := 9, handlerPc := 15, catchType := 15 } : ExceptionTableEntry)] (by rw [htab]; rfl) (fun z hz => by cases hz) (by decide) (by decide) (hts _ zcl_L_13) (hX.2.2.2.2.1 0).use hc1 hc2 hc3 ?_
      refine lv_astore_n (lv' := [(3, .ref q9), (0, .ref l0), (1, .int l1), (2, .ref l2)]) hx hb dL_addStation_12 rfl hl (by decide) rfl (fun ls hl => ?_)
      refine lv_iconst (v := (1 : Int32)) hx hb dL_addStation_13 (by decide) ?_
      obtain ⟨rfl, rfl⟩ := z_e2 hf
      exact z_ri B hW dL_addStation_14 (Nat.le_of_ble_eq_true rfl) (Nat.le_of_ble_eq_true rfl)
    replace hf := z_in hk0 hf
    by_cases hk1 : k = 1
    · subst hk1
      replace hf := z_ip rfl hf
      refine vx_catch (name := z_exn 1) hown [({ startPc := 0, endPc := 9, handlerPc := 12, catchType := 13 } : ExceptionTableEntry)] ({ startPc := 0, endPc := 9, handlerPc := 15, catchType := 15 } : ExceptionTableEntry) [] (by rw [htab]; rfl) (List.forall_mem_cons.mpr ⟨Or.inr ⟨by decide, _, hts _ zcl_L_13, hX.2.2.2.2.2 1 0 (by decide +kernel)⟩, fun z hz => by cases hz⟩) (by decide) (by decide) (hts _ zcl_L_15) (hX.2.2.2.2.1 1).use hc1 hc2 hc3 ?_
      refine lv_astore_n (lv' := [(3, .ref q9), (0, .ref l0), (1, .int l1), (2, .ref l2)]) hx hb dL_addStation_15 rfl hl (by decide) rfl (fun ls hl => ?_)
      refine lv_iconst (v := (2 : Int32)) hx hb dL_addStation_16 (by decide) ?_
      obtain ⟨rfl, rfl⟩ := z_e2 hf
      exact z_ri B hW dL_addStation_17 (Nat.le_of_ble_eq_true rfl) (Nat.le_of_ble_eq_true rfl)
    replace hf := z_in hk1 hf
    cases hf
  subst he
  replace hf := z_x1 hf
  refine lv_i2l (v := r9.toInt64) hx hb dL_addStation_7 rfl ?_
  obtain ⟨hg5, hf⟩ := z_g hf
  obtain ⟨hg6, hf⟩ := z_g hf
  obtain ⟨σ7, hs8, hf⟩ := z_l hf
  refine z_last B hW hg5 hg6 hs8 dL_addStation_8 (fun H locs hW => ?_)
  refine lv_goto (tgt := 18) hx hb dL_addStation_9 (by decide) ?_
  refine lv_iconst (v := (0 : Int32)) hx hb dL_addStation_18 (by decide) ?_
  obtain ⟨rfl, rfl⟩ := z_e2 hf
  exact z_ri B hW dL_addStation_19 (Nat.le_of_ble_eq_true rfl) (Nat.le_of_ble_eq_true rfl)
set_option maxRecDepth 100000 in
def f_L_setOn_16 (σ : zSt) (s0 : Int64) (s1 : Int32) (s2 : Option Nat) : Option (Int32 × zSt) :=
(zc s2 none (fun a1 => (if z_ar σ a1 2 then (if z_ix s1 (z_ln σ a1) then (zl (z_pJ σ a1 s1.toNatClampNeg s0) (fun σ5 => (some ((0 : Int32), σ5)))) else none) else none)))
set_option maxRecDepth 20000 in
set_option maxHeartbeats 4000000 in
theorem t_L_setOn_16 (B : z_B p s m args meth c D cA bs RL cL_setOn 5 (some .int)) (hst : l.stackTraces = false) (hX : z_X bs s) (htab : c.exceptionTable.toList = tableOf [(0, 17, 20, 21)]) {r : Int32} {σ' : zSt} {σ : zSt} {s0 : Int64} {s1 : Int32} {s2 : Option Nat} (hf : f_L_setOn_16 σ s0 s1 s2 = some (r, σ')) {H : Heap} {locs : List Loc} {ls : Array Slot} (hW : z_Ok D cA bs s σ H locs) (hl : lv_has ls 5 [])  : W p l e (zrm 7 1 6 172) s m args below meth c H locs 1 6 (MQ below (z_Qi D cA bs r σ') args s 1 6 (fun q => bs ≤ q)) (F0 m 16 ls [.long s0, .int s1, va_rf s2]) := by
  have hx := B.1
  have hb := B.2.1
  have hown := B.2.2.2.1
  have hts := B.2.2.2.2.1
  unfold f_L_setOn_16 at hf
  obtain ⟨a1, hn2, hf⟩ := z_nn hf
  subst hn2
  obtain ⟨hg3, hf⟩ := z_g hf
  obtain ⟨hg4, hf⟩ := z_g hf
  obtain ⟨σ5, hs6, hf⟩ := z_l hf
  refine z_last B hW hg3 hg4 hs6 dL_setOn_16 (fun H locs hW => ?_)
  refine lv_goto (tgt := 24) hx hb dL_setOn_17 (by decide) ?_
  refine lv_iconst (v := (0 : Int32)) hx hb dL_setOn_24 (by decide) ?_
  obtain ⟨rfl, rfl⟩ := z_e2 hf
  exact z_ri B hW dL_setOn_25 (Nat.le_of_ble_eq_true rfl) (Nat.le_of_ble_eq_true rfl)
set_option maxRecDepth 100000 in
def f_L_setOn (σ : zSt) (l0 : Nat) (l1 : Int32) (l2 : Int32) (l3 : Nat) : Option (Int32 × zSt) :=
(if z_ob σ l0 8 then (zb2 (f_X9_setOn σ l0 l1 l2) (fun r2 σ3 => (zx r2 (fun k => (if k = 3 then (some ((1 : Int32), σ3)) else none)) (fun r9 => (if r9 = 0 then
(f_L_setOn_16 σ3 (0 : Int64) (0 : Int32) (some l3))
else
(f_L_setOn_16 σ3 (1 : Int64) (0 : Int32) (some l3))))))) else none)
set_option maxRecDepth 20000 in
set_option maxHeartbeats 4000000 in
theorem K_L_setOn (hst : l.stackTraces = false) {σ : zSt} {l0 : Nat} {l1 : Int32} {l2 : Int32} {l3 : Nat} {r : Int32} {σ' : zSt} (hf : f_L_setOn σ l0 l1 l2 l3 = some (r, σ')) : z_MW l D cA bs yL_setOn cL_setOn 5 (some .int) [(0, 17, 20, 21)] 7 172 1 6 [.ref l0, .int l1, .int l2, .ref l3] σ r σ' := by
  refine z_metW (own := RL) (lv := [(0, .ref l0), (1, .int l1), (2, .int l2), (3, .ref l3)]) (by decide) rfl (Nat.le_of_ble_eq_true rfl) rfl (fun p e s m below meth c ls B hX htab hW hl => ?_)
  have hx := B.1
  have hb := B.2.1
  have hown := B.2.2.2.1
  have hts := B.2.2.2.2.1
  unfold f_L_setOn at hf
  refine lv_aload_n hx hb dL_setOn_0 rfl (lv_at hl 3 rfl) ?_
  refine lv_iconst (v := (0 : Int32)) hx hb dL_setOn_1 (by decide) ?_
  refine lv_aload_n hx hb dL_setOn_2 rfl (lv_at hl 0 rfl) ?_
  refine lv_iload_n hx hb dL_setOn_3 rfl (lv_at hl 1 rfl) ?_
  refine lv_iload_n hx hb dL_setOn_4 rfl (lv_at hl 2 rfl) ?_
  obtain ⟨hg1, hf⟩ := z_g hf
  obtain ⟨r2, σ3, hq4, hf⟩ := z_b2 hf
  refine z_xci hW (z_runX (As := [.int l1, .int l2]) (rest := [.int (0 : Int32), .ref l3]) B hX hW zv_L_17 (K_X9_setOn hst hq4) hg1 rfl rfl rfl (Nat.le_of_ble_eq_true rfl) hl.1 ⟨Nat.le_of_ble_eq_true rfl, Nat.le_of_ble_eq_true rfl⟩ dL_setOn_5 ⟨Nat.le_of_ble_eq_true rfl, Nat.le_of_ble_eq_true rfl⟩) (fun k ce q9 H locs he hW hc1 hc2 hc3 => ?_) (fun r9 H locs he hW => ?_)
  · subst he
    replace hf := z_x0 hf
    by_cases hk0 : k = 3
    · subst hk0
      replace hf := z_ip rfl hf
      refine vx_catch (name := z_exn 3) hown [] ({ startPc := 0, endPc := 17, handlerPc := 20, catchType := 21 } : ExceptionTableEntry) [] (by rw [htab]; rfl) (fun z hz => by cases hz) (by decide) (by decide) (hts _ zcl_L_21) (hX.2.2.2.2.1 3).use hc1 hc2 hc3 ?_
      refine lv_astore (lv' := [(4, .ref q9), (0, .ref l0), (1, .int l1), (2, .int l2), (3, .ref l3)]) hx hb dL_setOn_20 hl (by decide) rfl (fun ls hl => ?_)
      refine lv_iconst (v := (1 : Int32)) hx hb dL_setOn_22 (by decide) ?_
      obtain ⟨rfl, rfl⟩ := z_e2 hf
      exact z_ri B hW dL_setOn_23 (Nat.le_of_ble_eq_true rfl) (Nat.le_of_ble_eq_true rfl)
    replace hf := z_in hk0 hf
    cases hf
  subst he
  replace hf := z_x1 hf
  refine lv_if_eq (tgt := 15) hx hb dL_setOn_8 (by decide) (fun hc8 => ?_) (fun hc8 => ?_)
  · replace hf := z_ip hc8 hf
    refine lv_lconst (v := (0 : Int64)) hx hb dL_setOn_15 (by decide) ?_
    exact t_L_setOn_16 B hst hX htab hf hW (lv_sub hl [] rfl) 
  · replace hf := z_in hc8 hf
    refine lv_lconst (v := (1 : Int64)) hx hb dL_setOn_11 (by decide) ?_
    refine lv_goto (tgt := 16) hx hb dL_setOn_12 (by decide) ?_
    exact t_L_setOn_16 B hst hX htab hf hW (lv_sub hl [] rfl) 
set_option maxRecDepth 100000 in
def f_L_setTimes (σ : zSt) (l0 : Nat) (l1 : Int32) (l2 : Int32) (l3 : Int32) (l4 : Nat) : Option (Int32 × zSt) :=
(if z_ob σ l0 8 then (zb2 (f_X9_setTimes σ l0 l1 l2 l3) (fun r2 σ3 => (zx r2 (fun k => (if k = 0 then (some ((1 : Int32), σ3)) else none)) (fun r9 => (if z_ar σ3 l4 2 then (if z_ix (0 : Int32) (z_ln σ3 l4) then (zl (z_pJ σ3 l4 (0 : Int32).toNatClampNeg r9.toInt64) (fun σ7 => (some ((0 : Int32), σ7)))) else none) else none))))) else none)
set_option maxRecDepth 20000 in
set_option maxHeartbeats 4000000 in
theorem K_L_setTimes (hst : l.stackTraces = false) {σ : zSt} {l0 : Nat} {l1 : Int32} {l2 : Int32} {l3 : Int32} {l4 : Nat} {r : Int32} {σ' : zSt} (hf : f_L_setTimes σ l0 l1 l2 l3 l4 = some (r, σ')) : z_MW l D cA bs yL_setTimes cL_setTimes 6 (some .int) [(0, 12, 15, 13)] 7 172 1 6 [.ref l0, .int l1, .int l2, .int l3, .ref l4] σ r σ' := by
  refine z_metW (own := RL) (lv := [(0, .ref l0), (1, .int l1), (2, .int l2), (3, .int l3), (4, .ref l4)]) (by decide) rfl (Nat.le_of_ble_eq_true rfl) rfl (fun p e s m below meth c ls B hX htab hW hl => ?_)
  have hx := B.1
  have hb := B.2.1
  have hown := B.2.2.2.1
  have hts := B.2.2.2.2.1
  unfold f_L_setTimes at hf
  refine lv_aload hx hb dL_setTimes_0 (lv_at hl 4 rfl) ?_
  refine lv_iconst (v := (0 : Int32)) hx hb dL_setTimes_2 (by decide) ?_
  refine lv_aload_n hx hb dL_setTimes_3 rfl (lv_at hl 0 rfl) ?_
  refine lv_iload_n hx hb dL_setTimes_4 rfl (lv_at hl 1 rfl) ?_
  refine lv_iload_n hx hb dL_setTimes_5 rfl (lv_at hl 2 rfl) ?_
  refine lv_iload_n hx hb dL_setTimes_6 rfl (lv_at hl 3 rfl) ?_
  obtain ⟨hg1, hf⟩ := z_g hf
  obtain ⟨r2, σ3, hq4, hf⟩ := z_b2 hf
  refine z_xci hW (z_runX (As := [.int l1, .int l2, .int l3]) (rest := [.int (0 : Int32), .ref l4]) B hX hW zv_L_23 (K_X9_setTimes hst hq4) hg1 rfl rfl rfl (Nat.le_of_ble_eq_true rfl) hl.1 ⟨Nat.le_of_ble_eq_true rfl, Nat.le_of_ble_eq_true rfl⟩ dL_setTimes_7 ⟨Nat.le_of_ble_eq_true rfl, Nat.le_of_ble_eq_true rfl⟩) (fun k ce q9 H locs he hW hc1 hc2 hc3 => ?_) (fun r9 H locs he hW => ?_)
  · subst he
    replace hf := z_x0 hf
    by_cases hk0 : k = 0
    · subst hk0
      replace hf := z_ip rfl hf
      refine vx_catch (name := z_exn 0) hown [] ({ startPc := 0, endPc := 12, handlerPc := 15, catchType := 13 } : ExceptionTableEntry) [] (by rw [htab]; rfl) (fun z hz => by cases hz) (by decide) (by decide) (hts _ zcl_L_13) (hX.2.2.2.2.1 0).use hc1 hc2 hc3 ?_
      refine lv_astore (lv' := [(5, .ref q9), (0, .ref l0), (1, .int l1), (2, .int l2), (3, .int l3), (4, .ref l4)]) hx hb dL_setTimes_15 hl (by decide) rfl (fun ls hl => ?_)
      refine lv_iconst (v := (1 : Int32)) hx hb dL_setTimes_17 (by decide) ?_
      obtain ⟨rfl, rfl⟩ := z_e2 hf
      exact z_ri B hW dL_setTimes_18 (Nat.le_of_ble_eq_true rfl) (Nat.le_of_ble_eq_true rfl)
    replace hf := z_in hk0 hf
    cases hf
  subst he
  replace hf := z_x1 hf
  refine lv_i2l (v := r9.toInt64) hx hb dL_setTimes_10 rfl ?_
  obtain ⟨hg5, hf⟩ := z_g hf
  obtain ⟨hg6, hf⟩ := z_g hf
  obtain ⟨σ7, hs8, hf⟩ := z_l hf
  refine z_last B hW hg5 hg6 hs8 dL_setTimes_11 (fun H locs hW => ?_)
  refine lv_goto (tgt := 19) hx hb dL_setTimes_12 (by decide) ?_
  refine lv_iconst (v := (0 : Int32)) hx hb dL_setTimes_19 (by decide) ?_
  obtain ⟨rfl, rfl⟩ := z_e2 hf
  exact z_ri B hW dL_setTimes_20 (Nat.le_of_ble_eq_true rfl) (Nat.le_of_ble_eq_true rfl)
set_option maxRecDepth 100000 in
def f_L_give (σ : zSt) (l0 : Nat) (l1 : Int32) (l2 : Int32) (l3 : Int32) (l4 : Nat) : Option (Int32 × zSt) :=
(if z_ob σ l0 8 then (zb2 (f_X9_give σ l0 l1 l2 l3) (fun r2 σ3 => (zx r2 (fun k => (if k = 3 then (some ((1 : Int32), σ3)) else (if k = 0 then (some ((2 : Int32), σ3)) else (if k = 1 then (some ((3 : Int32), σ3)) else none)))) (fun r9 => (if z_ar σ3 l4 2 then (if z_ix (0 : Int32) (z_ln σ3 l4) then (zl (z_pJ σ3 l4 (0 : Int32).toNatClampNeg r9.toInt64) (fun σ7 => (some ((0 : Int32), σ7)))) else none) else none))))) else none)
set_option maxRecDepth 20000 in
set_option maxHeartbeats 4000000 in
theorem K_L_give (hst : l.stackTraces = false) {σ : zSt} {l0 : Nat} {l1 : Int32} {l2 : Int32} {l3 : Int32} {l4 : Nat} {r : Int32} {σ' : zSt} (hf : f_L_give σ l0 l1 l2 l3 l4 = some (r, σ')) : z_MW l D cA bs yL_give cL_give 6 (some .int) [(0, 12, 15, 21), (0, 12, 19, 13), (0, 12, 23, 15)] 7 172 1 6 [.ref l0, .int l1, .int l2, .int l3, .ref l4] σ r σ' := by
  refine z_metW (own := RL) (lv := [(0, .ref l0), (1, .int l1), (2, .int l2), (3, .int l3), (4, .ref l4)]) (by decide) rfl (Nat.le_of_ble_eq_true rfl) rfl (fun p e s m below meth c ls B hX htab hW hl => ?_)
  have hx := B.1
  have hb := B.2.1
  have hown := B.2.2.2.1
  have hts := B.2.2.2.2.1
  unfold f_L_give at hf
  refine lv_aload hx hb dL_give_0 (lv_at hl 4 rfl) ?_
  refine lv_iconst (v := (0 : Int32)) hx hb dL_give_2 (by decide) ?_
  refine lv_aload_n hx hb dL_give_3 rfl (lv_at hl 0 rfl) ?_
  refine lv_iload_n hx hb dL_give_4 rfl (lv_at hl 1 rfl) ?_
  refine lv_iload_n hx hb dL_give_5 rfl (lv_at hl 2 rfl) ?_
  refine lv_iload_n hx hb dL_give_6 rfl (lv_at hl 3 rfl) ?_
  obtain ⟨hg1, hf⟩ := z_g hf
  obtain ⟨r2, σ3, hq4, hf⟩ := z_b2 hf
  refine z_xci hW (z_runX (As := [.int l1, .int l2, .int l3]) (rest := [.int (0 : Int32), .ref l4]) B hX hW zv_L_27 (K_X9_give hst hq4) hg1 rfl rfl rfl (Nat.le_of_ble_eq_true rfl) hl.1 ⟨Nat.le_of_ble_eq_true rfl, Nat.le_of_ble_eq_true rfl⟩ dL_give_7 ⟨Nat.le_of_ble_eq_true rfl, Nat.le_of_ble_eq_true rfl⟩) (fun k ce q9 H locs he hW hc1 hc2 hc3 => ?_) (fun r9 H locs he hW => ?_)
  · subst he
    replace hf := z_x0 hf
    by_cases hk0 : k = 3
    · subst hk0
      replace hf := z_ip rfl hf
      refine vx_catch (name := z_exn 3) hown [] ({ startPc := 0, endPc := 12, handlerPc := 15, catchType := 21 } : ExceptionTableEntry) [({ startPc := 0, endPc := 12, handlerPc := 19, catchType := 13 } : ExceptionTableEntry), ({ startPc := 0, endPc := 12, handlerPc := 23, catchType := 15 } : ExceptionTableEntry)] (by rw [htab]; rfl) (fun z hz => by cases hz) (by decide) (by decide) (hts _ zcl_L_21) (hX.2.2.2.2.1 3).use hc1 hc2 hc3 ?_
      refine lv_astore (lv' := [(5, .ref q9), (0, .ref l0), (1, .int l1), (2, .int l2), (3, .int l3), (4, .ref l4)]) hx hb dL_give_15 hl (by decide) rfl (fun ls hl => ?_)
      refine lv_iconst (v := (1 : Int32)) hx hb dL_give_17 (by decide) ?_
      obtain ⟨rfl, rfl⟩ := z_e2 hf
      exact z_ri B hW dL_give_18 (Nat.le_of_ble_eq_true rfl) (Nat.le_of_ble_eq_true rfl)
    replace hf := z_in hk0 hf
    by_cases hk1 : k = 0
    · subst hk1
      replace hf := z_ip rfl hf
      refine vx_catch (name := z_exn 0) hown [({ startPc := 0, endPc := 12, handlerPc := 15, catchType := 21 } : ExceptionTableEntry)] ({ startPc := 0, endPc := 12, handlerPc := 19, catchType := 13 } : ExceptionTableEntry) [({ startPc := 0, endPc := 12, handlerPc := 23, catchType := 15 } : ExceptionTableEntry)] (by rw [htab]; rfl) (List.forall_mem_cons.mpr ⟨Or.inr ⟨by decide, _, hts _ zcl_L_21, hX.2.2.2.2.2 0 3 (by decide +kernel)⟩, fun z hz => by cases hz⟩) (by decide) (by decide) (hts _ zcl_L_13) (hX.2.2.2.2.1 0).use hc1 hc2 hc3 ?_
      refine lv_astore (lv' := [(5, .ref q9), (0, .ref l0), (1, .int l1), (2, .int l2), (3, .int l3), (4, .ref l4)]) hx hb dL_give_19 hl (by decide) rfl (fun ls hl => ?_)
      refine lv_iconst (v := (2 : Int32)) hx hb dL_give_21 (by decide) ?_
      obtain ⟨rfl, rfl⟩ := z_e2 hf
      exact z_ri B hW dL_give_22 (Nat.le_of_ble_eq_true rfl) (Nat.le_of_ble_eq_true rfl)
    replace hf := z_in hk1 hf
    by_cases hk2 : k = 1
    · subst hk2
      replace hf := z_ip rfl hf
      refine vx_catch (name := z_exn 1) hown [({ startPc := 0, endPc := 12, handlerPc := 15, catchType := 21 } : ExceptionTableEntry), ({ startPc := 0, endPc := 12, handlerPc := 19, catchType := 13 } : ExceptionTableEntry)] ({ startPc := 0, endPc := 12, handlerPc := 23, catchType := 15 } : ExceptionTableEntry) [] (by rw [htab]; rfl) (List.forall_mem_cons.mpr ⟨Or.inr ⟨by decide, _, hts _ zcl_L_21, hX.2.2.2.2.2 1 3 (by decide +kernel)⟩, List.forall_mem_cons.mpr ⟨Or.inr ⟨by decide, _, hts _ zcl_L_13, hX.2.2.2.2.2 1 0 (by decide +kernel)⟩, fun z hz => by cases hz⟩⟩) (by decide) (by decide) (hts _ zcl_L_15) (hX.2.2.2.2.1 1).use hc1 hc2 hc3 ?_
      refine lv_astore (lv' := [(5, .ref q9), (0, .ref l0), (1, .int l1), (2, .int l2), (3, .int l3), (4, .ref l4)]) hx hb dL_give_23 hl (by decide) rfl (fun ls hl => ?_)
      refine lv_iconst (v := (3 : Int32)) hx hb dL_give_25 (by decide) ?_
      obtain ⟨rfl, rfl⟩ := z_e2 hf
      exact z_ri B hW dL_give_26 (Nat.le_of_ble_eq_true rfl) (Nat.le_of_ble_eq_true rfl)
    replace hf := z_in hk2 hf
    cases hf
  subst he
  replace hf := z_x1 hf
  refine lv_i2l (v := r9.toInt64) hx hb dL_give_10 rfl ?_
  obtain ⟨hg5, hf⟩ := z_g hf
  obtain ⟨hg6, hf⟩ := z_g hf
  obtain ⟨σ7, hs8, hf⟩ := z_l hf
  refine z_last B hW hg5 hg6 hs8 dL_give_11 (fun H locs hW => ?_)
  refine lv_goto (tgt := 27) hx hb dL_give_12 (by decide) ?_
  refine lv_iconst (v := (0 : Int32)) hx hb dL_give_27 (by decide) ?_
  obtain ⟨rfl, rfl⟩ := z_e2 hf
  exact z_ri B hW dL_give_28 (Nat.le_of_ble_eq_true rfl) (Nat.le_of_ble_eq_true rfl)
set_option maxRecDepth 100000 in
def f_L_addNoise (σ : zSt) (l0 : Nat) (l1 : Int32) (l2 : Int32) (l3 : Nat) : Option (Int32 × zSt) :=
(if z_ob σ l0 8 then (zb2 (f_X9_addNoise σ l0 l1 l2) (fun r2 σ3 => (zx r2 (fun k => (if k = 0 then (some ((1 : Int32), σ3)) else (if k = 1 then (some ((2 : Int32), σ3)) else none))) (fun r9 => (if z_ar σ3 l3 2 then (if z_ix (0 : Int32) (z_ln σ3 l3) then (zl (z_pJ σ3 l3 (0 : Int32).toNatClampNeg r9.toInt64) (fun σ7 => (some ((0 : Int32), σ7)))) else none) else none))))) else none)
set_option maxRecDepth 20000 in
set_option maxHeartbeats 4000000 in
theorem K_L_addNoise (hst : l.stackTraces = false) {σ : zSt} {l0 : Nat} {l1 : Int32} {l2 : Int32} {l3 : Nat} {r : Int32} {σ' : zSt} (hf : f_L_addNoise σ l0 l1 l2 l3 = some (r, σ')) : z_MW l D cA bs yL_addNoise cL_addNoise 5 (some .int) [(0, 10, 13, 13), (0, 10, 17, 15)] 7 170 1 6 [.ref l0, .int l1, .int l2, .ref l3] σ r σ' := by
  refine z_metW (own := RL) (lv := [(0, .ref l0), (1, .int l1), (2, .int l2), (3, .ref l3)]) (by decide) rfl (Nat.le_of_ble_eq_true rfl) rfl (fun p e s m below meth c ls B hX htab hW hl => ?_)
  have hx := B.1
  have hb := B.2.1
  have hown := B.2.2.2.1
  have hts := B.2.2.2.2.1
  unfold f_L_addNoise at hf
  refine lv_aload_n hx hb dL_addNoise_0 rfl (lv_at hl 3 rfl) ?_
  refine lv_iconst (v := (0 : Int32)) hx hb dL_addNoise_1 (by decide) ?_
  refine lv_aload_n hx hb dL_addNoise_2 rfl (lv_at hl 0 rfl) ?_
  refine lv_iload_n hx hb dL_addNoise_3 rfl (lv_at hl 1 rfl) ?_
  refine lv_iload_n hx hb dL_addNoise_4 rfl (lv_at hl 2 rfl) ?_
  obtain ⟨hg1, hf⟩ := z_g hf
  obtain ⟨r2, σ3, hq4, hf⟩ := z_b2 hf
  refine z_xci hW (z_runX (As := [.int l1, .int l2]) (rest := [.int (0 : Int32), .ref l3]) B hX hW zv_L_30 (K_X9_addNoise hst hq4) hg1 rfl rfl rfl (Nat.le_of_ble_eq_true rfl) hl.1 ⟨Nat.le_of_ble_eq_true rfl, Nat.le_of_ble_eq_true rfl⟩ dL_addNoise_5 ⟨Nat.le_of_ble_eq_true rfl, Nat.le_of_ble_eq_true rfl⟩) (fun k ce q9 H locs he hW hc1 hc2 hc3 => ?_) (fun r9 H locs he hW => ?_)
  · subst he
    replace hf := z_x0 hf
    by_cases hk0 : k = 0
    · subst hk0
      replace hf := z_ip rfl hf
      refine vx_catch (name := z_exn 0) hown [] ({ startPc := 0, endPc := 10, handlerPc := 13, catchType := 13 } : ExceptionTableEntry) [({ startPc := 0, endPc := 10, handlerPc := 17, catchType := 15 } : ExceptionTableEntry)] (by rw [htab]; rfl) (fun z hz => by cases hz) (by decide) (by decide) (hts _ zcl_L_13) (hX.2.2.2.2.1 0).use hc1 hc2 hc3 ?_
      refine lv_astore (lv' := [(4, .ref q9), (0, .ref l0), (1, .int l1), (2, .int l2), (3, .ref l3)]) hx hb dL_addNoise_13 hl (by decide) rfl (fun ls hl => ?_)
      refine lv_iconst (v := (1 : Int32)) hx hb dL_addNoise_15 (by decide) ?_
      obtain ⟨rfl, rfl⟩ := z_e2 hf
      exact z_ri B hW dL_addNoise_16 (Nat.le_of_ble_eq_true rfl) (Nat.le_of_ble_eq_true rfl)
    replace hf := z_in hk0 hf
    by_cases hk1 : k = 1
    · subst hk1
      replace hf := z_ip rfl hf
      refine vx_catch (name := z_exn 1) hown [({ startPc := 0, endPc := 10, handlerPc := 13, catchType := 13 } : ExceptionTableEntry)] ({ startPc := 0, endPc := 10, handlerPc := 17, catchType := 15 } : ExceptionTableEntry) [] (by rw [htab]; rfl) (List.forall_mem_cons.mpr ⟨Or.inr ⟨by decide, _, hts _ zcl_L_13, hX.2.2.2.2.2 1 0 (by decide +kernel)⟩, fun z hz => by cases hz⟩) (by decide) (by decide) (hts _ zcl_L_15) (hX.2.2.2.2.1 1).use hc1 hc2 hc3 ?_
      refine lv_astore (lv' := [(4, .ref q9), (0, .ref l0), (1, .int l1), (2, .int l2), (3, .ref l3)]) hx hb dL_addNoise_17 hl (by decide) rfl (fun ls hl => ?_)
      refine lv_iconst (v := (2 : Int32)) hx hb dL_addNoise_19 (by decide) ?_
      obtain ⟨rfl, rfl⟩ := z_e2 hf
      exact z_ri B hW dL_addNoise_20 (Nat.le_of_ble_eq_true rfl) (Nat.le_of_ble_eq_true rfl)
    replace hf := z_in hk1 hf
    cases hf
  subst he
  replace hf := z_x1 hf
  refine lv_i2l (v := r9.toInt64) hx hb dL_addNoise_8 rfl ?_
  obtain ⟨hg5, hf⟩ := z_g hf
  obtain ⟨hg6, hf⟩ := z_g hf
  obtain ⟨σ7, hs8, hf⟩ := z_l hf
  refine z_last B hW hg5 hg6 hs8 dL_addNoise_9 (fun H locs hW => ?_)
  refine lv_goto (tgt := 21) hx hb dL_addNoise_10 (by decide) ?_
  refine lv_iconst (v := (0 : Int32)) hx hb dL_addNoise_21 (by decide) ?_
  obtain ⟨rfl, rfl⟩ := z_e2 hf
  exact z_ri B hW dL_addNoise_22 (Nat.le_of_ble_eq_true rfl) (Nat.le_of_ble_eq_true rfl)
set_option maxRecDepth 100000 in
def f_L_run (σ : zSt) (l0 : Nat) (l1 : Int32) (l2 : Nat) : Option (Int32 × zSt) :=
(if z_ob σ l0 8 then (zb2 (f_X9_run σ l0 l1) (fun r2 σ3 => (zx r2 (fun k => (if k = 0 then (some ((1 : Int32), σ3)) else (if k = 1 then (some ((2 : Int32), σ3)) else none))) (fun r9 => (if z_ar σ3 l2 2 then (if z_ix (0 : Int32) (z_ln σ3 l2) then (zl (z_pJ σ3 l2 (0 : Int32).toNatClampNeg r9.toInt64) (fun σ7 => (some ((0 : Int32), σ7)))) else none) else none))))) else none)
set_option maxRecDepth 20000 in
set_option maxHeartbeats 4000000 in
theorem K_L_run (hst : l.stackTraces = false) {σ : zSt} {l0 : Nat} {l1 : Int32} {l2 : Nat} {r : Int32} {σ' : zSt} (hf : f_L_run σ l0 l1 l2 = some (r, σ')) : z_MW l D cA bs yL_run cL_run 4 (some .int) [(0, 9, 12, 13), (0, 9, 15, 15)] 7 170 1 6 [.ref l0, .int l1, .ref l2] σ r σ' := by
  refine z_metW (own := RL) (lv := [(0, .ref l0), (1, .int l1), (2, .ref l2)]) (by decide) rfl (Nat.le_of_ble_eq_true rfl) rfl (fun p e s m below meth c ls B hX htab hW hl => ?_)
  have hx := B.1
  have hb := B.2.1
  have hown := B.2.2.2.1
  have hts := B.2.2.2.2.1
  unfold f_L_run at hf
  refine lv_aload_n hx hb dL_run_0 rfl (lv_at hl 2 rfl) ?_
  refine lv_iconst (v := (0 : Int32)) hx hb dL_run_1 (by decide) ?_
  refine lv_aload_n hx hb dL_run_2 rfl (lv_at hl 0 rfl) ?_
  refine lv_iload_n hx hb dL_run_3 rfl (lv_at hl 1 rfl) ?_
  obtain ⟨hg1, hf⟩ := z_g hf
  obtain ⟨r2, σ3, hq4, hf⟩ := z_b2 hf
  refine z_xci hW (z_runX (As := [.int l1]) (rest := [.int (0 : Int32), .ref l2]) B hX hW zv_L_34 (K_X9_run hst hq4) hg1 rfl rfl rfl (Nat.le_of_ble_eq_true rfl) hl.1 ⟨Nat.le_of_ble_eq_true rfl, Nat.le_of_ble_eq_true rfl⟩ dL_run_4 ⟨Nat.le_of_ble_eq_true rfl, Nat.le_of_ble_eq_true rfl⟩) (fun k ce q9 H locs he hW hc1 hc2 hc3 => ?_) (fun r9 H locs he hW => ?_)
  · subst he
    replace hf := z_x0 hf
    by_cases hk0 : k = 0
    · subst hk0
      replace hf := z_ip rfl hf
      refine vx_catch (name := z_exn 0) hown [] ({ startPc := 0, endPc := 9, handlerPc := 12, catchType := 13 } : ExceptionTableEntry) [({ startPc := 0, endPc := 9, handlerPc := 15, catchType := 15 } : ExceptionTableEntry)] (by rw [htab]; rfl) (fun z hz => by cases hz) (by decide) (by decide) (hts _ zcl_L_13) (hX.2.2.2.2.1 0).use hc1 hc2 hc3 ?_
      refine lv_astore_n (lv' := [(3, .ref q9), (0, .ref l0), (1, .int l1), (2, .ref l2)]) hx hb dL_run_12 rfl hl (by decide) rfl (fun ls hl => ?_)
      refine lv_iconst (v := (1 : Int32)) hx hb dL_run_13 (by decide) ?_
      obtain ⟨rfl, rfl⟩ := z_e2 hf
      exact z_ri B hW dL_run_14 (Nat.le_of_ble_eq_true rfl) (Nat.le_of_ble_eq_true rfl)
    replace hf := z_in hk0 hf
    by_cases hk1 : k = 1
    · subst hk1
      replace hf := z_ip rfl hf
      refine vx_catch (name := z_exn 1) hown [({ startPc := 0, endPc := 9, handlerPc := 12, catchType := 13 } : ExceptionTableEntry)] ({ startPc := 0, endPc := 9, handlerPc := 15, catchType := 15 } : ExceptionTableEntry) [] (by rw [htab]; rfl) (List.forall_mem_cons.mpr ⟨Or.inr ⟨by decide, _, hts _ zcl_L_13, hX.2.2.2.2.2 1 0 (by decide +kernel)⟩, fun z hz => by cases hz⟩) (by decide) (by decide) (hts _ zcl_L_15) (hX.2.2.2.2.1 1).use hc1 hc2 hc3 ?_
      refine lv_astore_n (lv' := [(3, .ref q9), (0, .ref l0), (1, .int l1), (2, .ref l2)]) hx hb dL_run_15 rfl hl (by decide) rfl (fun ls hl => ?_)
      refine lv_iconst (v := (2 : Int32)) hx hb dL_run_16 (by decide) ?_
      obtain ⟨rfl, rfl⟩ := z_e2 hf
      exact z_ri B hW dL_run_17 (Nat.le_of_ble_eq_true rfl) (Nat.le_of_ble_eq_true rfl)
    replace hf := z_in hk1 hf
    cases hf
  subst he
  replace hf := z_x1 hf
  refine lv_i2l (v := r9.toInt64) hx hb dL_run_7 rfl ?_
  obtain ⟨hg5, hf⟩ := z_g hf
  obtain ⟨hg6, hf⟩ := z_g hf
  obtain ⟨σ7, hs8, hf⟩ := z_l hf
  refine z_last B hW hg5 hg6 hs8 dL_run_8 (fun H locs hW => ?_)
  refine lv_goto (tgt := 18) hx hb dL_run_9 (by decide) ?_
  refine lv_iconst (v := (0 : Int32)) hx hb dL_run_18 (by decide) ?_
  obtain ⟨rfl, rfl⟩ := z_e2 hf
  exact z_ri B hW dL_run_19 (Nat.le_of_ble_eq_true rfl) (Nat.le_of_ble_eq_true rfl)
set_option maxRecDepth 100000 in
def f_L_setting (σ : zSt) (l0 : Nat) (l1 : Int32) (l2 : Nat) : Option (Int32 × zSt) :=
(if z_ob σ l0 8 then (zb2 (f_X9_setting σ l0 l1) (fun r2 σ3 => (zx r2 (fun k => (if k = 0 then (some ((1 : Int32), σ3)) else none)) (fun r9 => (if z_ar σ3 l2 2 then (if z_ix (0 : Int32) (z_ln σ3 l2) then (zl (z_pJ σ3 l2 (0 : Int32).toNatClampNeg r9.toInt64) (fun σ7 => (some ((0 : Int32), σ7)))) else none) else none))))) else none)
set_option maxRecDepth 20000 in
set_option maxHeartbeats 4000000 in
theorem K_L_setting (hst : l.stackTraces = false) {σ : zSt} {l0 : Nat} {l1 : Int32} {l2 : Nat} {r : Int32} {σ' : zSt} (hf : f_L_setting σ l0 l1 l2 = some (r, σ')) : z_MW l D cA bs yL_setting cL_setting 4 (some .int) [(0, 9, 12, 13)] 7 121 1 6 [.ref l0, .int l1, .ref l2] σ r σ' := by
  refine z_metW (own := RL) (lv := [(0, .ref l0), (1, .int l1), (2, .ref l2)]) (by decide) rfl (Nat.le_of_ble_eq_true rfl) rfl (fun p e s m below meth c ls B hX htab hW hl => ?_)
  have hx := B.1
  have hb := B.2.1
  have hown := B.2.2.2.1
  have hts := B.2.2.2.2.1
  unfold f_L_setting at hf
  refine lv_aload_n hx hb dL_setting_0 rfl (lv_at hl 2 rfl) ?_
  refine lv_iconst (v := (0 : Int32)) hx hb dL_setting_1 (by decide) ?_
  refine lv_aload_n hx hb dL_setting_2 rfl (lv_at hl 0 rfl) ?_
  refine lv_iload_n hx hb dL_setting_3 rfl (lv_at hl 1 rfl) ?_
  obtain ⟨hg1, hf⟩ := z_g hf
  obtain ⟨r2, σ3, hq4, hf⟩ := z_b2 hf
  refine z_xci hW (z_runX (As := [.int l1]) (rest := [.int (0 : Int32), .ref l2]) B hX hW zv_L_37 (K_X9_setting hst hq4) hg1 rfl rfl rfl (Nat.le_of_ble_eq_true rfl) hl.1 ⟨Nat.le_of_ble_eq_true rfl, Nat.le_of_ble_eq_true rfl⟩ dL_setting_4 ⟨Nat.le_of_ble_eq_true rfl, Nat.le_of_ble_eq_true rfl⟩) (fun k ce q9 H locs he hW hc1 hc2 hc3 => ?_) (fun r9 H locs he hW => ?_)
  · subst he
    replace hf := z_x0 hf
    by_cases hk0 : k = 0
    · subst hk0
      replace hf := z_ip rfl hf
      refine vx_catch (name := z_exn 0) hown [] ({ startPc := 0, endPc := 9, handlerPc := 12, catchType := 13 } : ExceptionTableEntry) [] (by rw [htab]; rfl) (fun z hz => by cases hz) (by decide) (by decide) (hts _ zcl_L_13) (hX.2.2.2.2.1 0).use hc1 hc2 hc3 ?_
      refine lv_astore_n (lv' := [(3, .ref q9), (0, .ref l0), (1, .int l1), (2, .ref l2)]) hx hb dL_setting_12 rfl hl (by decide) rfl (fun ls hl => ?_)
      refine lv_iconst (v := (1 : Int32)) hx hb dL_setting_13 (by decide) ?_
      obtain ⟨rfl, rfl⟩ := z_e2 hf
      exact z_ri B hW dL_setting_14 (Nat.le_of_ble_eq_true rfl) (Nat.le_of_ble_eq_true rfl)
    replace hf := z_in hk0 hf
    cases hf
  subst he
  replace hf := z_x1 hf
  refine lv_i2l (v := r9.toInt64) hx hb dL_setting_7 rfl ?_
  obtain ⟨hg5, hf⟩ := z_g hf
  obtain ⟨hg6, hf⟩ := z_g hf
  obtain ⟨σ7, hs8, hf⟩ := z_l hf
  refine z_last B hW hg5 hg6 hs8 dL_setting_8 (fun H locs hW => ?_)
  refine lv_goto (tgt := 15) hx hb dL_setting_9 (by decide) ?_
  refine lv_iconst (v := (0 : Int32)) hx hb dL_setting_15 (by decide) ?_
  obtain ⟨rfl, rfl⟩ := z_e2 hf
  exact z_ri B hW dL_setting_16 (Nat.le_of_ble_eq_true rfl) (Nat.le_of_ble_eq_true rfl)
set_option maxRecDepth 100000 in
def f_L_station (σ : zSt) (l0 : Nat) (l1 : Int32) (l2 : Int32) (l3 : Nat) : Option (Int32 × zSt) :=
(if z_ob σ l0 8 then (zb2 (f_X9_station σ l0 l1 l2) (fun r2 σ3 => (zx r2 (fun k => (if k = 3 then (some ((1 : Int32), σ3)) else (if k = 0 then (some ((2 : Int32), σ3)) else none))) (fun r9 => (if z_ar σ3 l3 2 then (if z_ix (0 : Int32) (z_ln σ3 l3) then (zl (z_pJ σ3 l3 (0 : Int32).toNatClampNeg r9.toInt64) (fun σ7 => (some ((0 : Int32), σ7)))) else none) else none))))) else none)
set_option maxRecDepth 20000 in
set_option maxHeartbeats 4000000 in
theorem K_L_station (hst : l.stackTraces = false) {σ : zSt} {l0 : Nat} {l1 : Int32} {l2 : Int32} {l3 : Nat} {r : Int32} {σ' : zSt} (hf : f_L_station σ l0 l1 l2 l3 = some (r, σ')) : z_MW l D cA bs yL_station cL_station 5 (some .int) [(0, 10, 13, 21), (0, 10, 17, 13)] 7 123 1 6 [.ref l0, .int l1, .int l2, .ref l3] σ r σ' := by
  refine z_metW (own := RL) (lv := [(0, .ref l0), (1, .int l1), (2, .int l2), (3, .ref l3)]) (by decide) rfl (Nat.le_of_ble_eq_true rfl) rfl (fun p e s m below meth c ls B hX htab hW hl => ?_)
  have hx := B.1
  have hb := B.2.1
  have hown := B.2.2.2.1
  have hts := B.2.2.2.2.1
  unfold f_L_station at hf
  refine lv_aload_n hx hb dL_station_0 rfl (lv_at hl 3 rfl) ?_
  refine lv_iconst (v := (0 : Int32)) hx hb dL_station_1 (by decide) ?_
  refine lv_aload_n hx hb dL_station_2 rfl (lv_at hl 0 rfl) ?_
  refine lv_iload_n hx hb dL_station_3 rfl (lv_at hl 1 rfl) ?_
  refine lv_iload_n hx hb dL_station_4 rfl (lv_at hl 2 rfl) ?_
  obtain ⟨hg1, hf⟩ := z_g hf
  obtain ⟨r2, σ3, hq4, hf⟩ := z_b2 hf
  refine z_xci hW (z_runX (As := [.int l1, .int l2]) (rest := [.int (0 : Int32), .ref l3]) B hX hW zv_L_40 (K_X9_station hst hq4) hg1 rfl rfl rfl (Nat.le_of_ble_eq_true rfl) hl.1 ⟨Nat.le_of_ble_eq_true rfl, Nat.le_of_ble_eq_true rfl⟩ dL_station_5 ⟨Nat.le_of_ble_eq_true rfl, Nat.le_of_ble_eq_true rfl⟩) (fun k ce q9 H locs he hW hc1 hc2 hc3 => ?_) (fun r9 H locs he hW => ?_)
  · subst he
    replace hf := z_x0 hf
    by_cases hk0 : k = 3
    · subst hk0
      replace hf := z_ip rfl hf
      refine vx_catch (name := z_exn 3) hown [] ({ startPc := 0, endPc := 10, handlerPc := 13, catchType := 21 } : ExceptionTableEntry) [({ startPc := 0, endPc := 10, handlerPc := 17, catchType := 13 } : ExceptionTableEntry)] (by rw [htab]; rfl) (fun z hz => by cases hz) (by decide) (by decide) (hts _ zcl_L_21) (hX.2.2.2.2.1 3).use hc1 hc2 hc3 ?_
      refine lv_astore (lv' := [(4, .ref q9), (0, .ref l0), (1, .int l1), (2, .int l2), (3, .ref l3)]) hx hb dL_station_13 hl (by decide) rfl (fun ls hl => ?_)
      refine lv_iconst (v := (1 : Int32)) hx hb dL_station_15 (by decide) ?_
      obtain ⟨rfl, rfl⟩ := z_e2 hf
      exact z_ri B hW dL_station_16 (Nat.le_of_ble_eq_true rfl) (Nat.le_of_ble_eq_true rfl)
    replace hf := z_in hk0 hf
    by_cases hk1 : k = 0
    · subst hk1
      replace hf := z_ip rfl hf
      refine vx_catch (name := z_exn 0) hown [({ startPc := 0, endPc := 10, handlerPc := 13, catchType := 21 } : ExceptionTableEntry)] ({ startPc := 0, endPc := 10, handlerPc := 17, catchType := 13 } : ExceptionTableEntry) [] (by rw [htab]; rfl) (List.forall_mem_cons.mpr ⟨Or.inr ⟨by decide, _, hts _ zcl_L_21, hX.2.2.2.2.2 0 3 (by decide +kernel)⟩, fun z hz => by cases hz⟩) (by decide) (by decide) (hts _ zcl_L_13) (hX.2.2.2.2.1 0).use hc1 hc2 hc3 ?_
      refine lv_astore (lv' := [(4, .ref q9), (0, .ref l0), (1, .int l1), (2, .int l2), (3, .ref l3)]) hx hb dL_station_17 hl (by decide) rfl (fun ls hl => ?_)
      refine lv_iconst (v := (2 : Int32)) hx hb dL_station_19 (by decide) ?_
      obtain ⟨rfl, rfl⟩ := z_e2 hf
      exact z_ri B hW dL_station_20 (Nat.le_of_ble_eq_true rfl) (Nat.le_of_ble_eq_true rfl)
    replace hf := z_in hk1 hf
    cases hf
  subst he
  replace hf := z_x1 hf
  refine lv_i2l (v := r9.toInt64) hx hb dL_station_8 rfl ?_
  obtain ⟨hg5, hf⟩ := z_g hf
  obtain ⟨hg6, hf⟩ := z_g hf
  obtain ⟨σ7, hs8, hf⟩ := z_l hf
  refine z_last B hW hg5 hg6 hs8 dL_station_9 (fun H locs hW => ?_)
  refine lv_goto (tgt := 21) hx hb dL_station_10 (by decide) ?_
  refine lv_iconst (v := (0 : Int32)) hx hb dL_station_21 (by decide) ?_
  obtain ⟨rfl, rfl⟩ := z_e2 hf
  exact z_ri B hW dL_station_22 (Nat.le_of_ble_eq_true rfl) (Nat.le_of_ble_eq_true rfl)
set_option maxRecDepth 100000 in
def f_L_addressAt (σ : zSt) (l0 : Nat) (l1 : Int32) (l2 : Nat) : Option (Int32 × zSt) :=
(if z_ob σ l0 8 then (zb2 (f_X9_addressAt σ l0 l1) (fun r2 σ3 => (zx r2 (fun k => (if k = 2 then (some ((1 : Int32), σ3)) else none)) (fun r9 => (if z_ar σ3 l2 2 then (if z_ix (0 : Int32) (z_ln σ3 l2) then (zl (z_pJ σ3 l2 (0 : Int32).toNatClampNeg r9.toInt64) (fun σ7 => (some ((0 : Int32), σ7)))) else none) else none))))) else none)
set_option maxRecDepth 20000 in
set_option maxHeartbeats 4000000 in
theorem K_L_addressAt (hst : l.stackTraces = false) {σ : zSt} {l0 : Nat} {l1 : Int32} {l2 : Nat} {r : Int32} {σ' : zSt} (hf : f_L_addressAt σ l0 l1 l2 = some (r, σ')) : z_MW l D cA bs yL_addressAt cL_addressAt 4 (some .int) [(0, 9, 12, 46)] 7 122 1 6 [.ref l0, .int l1, .ref l2] σ r σ' := by
  refine z_metW (own := RL) (lv := [(0, .ref l0), (1, .int l1), (2, .ref l2)]) (by decide) rfl (Nat.le_of_ble_eq_true rfl) rfl (fun p e s m below meth c ls B hX htab hW hl => ?_)
  have hx := B.1
  have hb := B.2.1
  have hown := B.2.2.2.1
  have hts := B.2.2.2.2.1
  unfold f_L_addressAt at hf
  refine lv_aload_n hx hb dL_addressAt_0 rfl (lv_at hl 2 rfl) ?_
  refine lv_iconst (v := (0 : Int32)) hx hb dL_addressAt_1 (by decide) ?_
  refine lv_aload_n hx hb dL_addressAt_2 rfl (lv_at hl 0 rfl) ?_
  refine lv_iload_n hx hb dL_addressAt_3 rfl (lv_at hl 1 rfl) ?_
  obtain ⟨hg1, hf⟩ := z_g hf
  obtain ⟨r2, σ3, hq4, hf⟩ := z_b2 hf
  refine z_xci hW (z_runX (As := [.int l1]) (rest := [.int (0 : Int32), .ref l2]) B hX hW zv_L_43 (K_X9_addressAt hst hq4) hg1 rfl rfl rfl (Nat.le_of_ble_eq_true rfl) hl.1 ⟨Nat.le_of_ble_eq_true rfl, Nat.le_of_ble_eq_true rfl⟩ dL_addressAt_4 ⟨Nat.le_of_ble_eq_true rfl, Nat.le_of_ble_eq_true rfl⟩) (fun k ce q9 H locs he hW hc1 hc2 hc3 => ?_) (fun r9 H locs he hW => ?_)
  · subst he
    replace hf := z_x0 hf
    by_cases hk0 : k = 2
    · subst hk0
      replace hf := z_ip rfl hf
      refine vx_catch (name := z_exn 2) hown [] ({ startPc := 0, endPc := 9, handlerPc := 12, catchType := 46 } : ExceptionTableEntry) [] (by rw [htab]; rfl) (fun z hz => by cases hz) (by decide) (by decide) (hts _ zcl_L_46) (hX.2.2.2.2.1 2).use hc1 hc2 hc3 ?_
      refine lv_astore_n (lv' := [(3, .ref q9), (0, .ref l0), (1, .int l1), (2, .ref l2)]) hx hb dL_addressAt_12 rfl hl (by decide) rfl (fun ls hl => ?_)
      refine lv_iconst (v := (1 : Int32)) hx hb dL_addressAt_13 (by decide) ?_
      obtain ⟨rfl, rfl⟩ := z_e2 hf
      exact z_ri B hW dL_addressAt_14 (Nat.le_of_ble_eq_true rfl) (Nat.le_of_ble_eq_true rfl)
    replace hf := z_in hk0 hf
    cases hf
  subst he
  replace hf := z_x1 hf
  refine lv_i2l (v := r9.toInt64) hx hb dL_addressAt_7 rfl ?_
  obtain ⟨hg5, hf⟩ := z_g hf
  obtain ⟨hg6, hf⟩ := z_g hf
  obtain ⟨σ7, hs8, hf⟩ := z_l hf
  refine z_last B hW hg5 hg6 hs8 dL_addressAt_8 (fun H locs hW => ?_)
  refine lv_goto (tgt := 15) hx hb dL_addressAt_9 (by decide) ?_
  refine lv_iconst (v := (0 : Int32)) hx hb dL_addressAt_15 (by decide) ?_
  obtain ⟨rfl, rfl⟩ := z_e2 hf
  exact z_ri B hW dL_addressAt_16 (Nat.le_of_ble_eq_true rfl) (Nat.le_of_ble_eq_true rfl)
set_option maxRecDepth 100000 in
def f_L_queued (σ : zSt) (l0 : Nat) (l1 : Int32) (l2 : Int32) (l3 : Nat) : Option (Int32 × zSt) :=
(if z_ob σ l0 8 then (zb2 (f_X9_queued σ l0 l1 l2) (fun r2 σ3 => (zx r2 (fun k => (if k = 3 then (some ((1 : Int32), σ3)) else (if k = 2 then (some ((2 : Int32), σ3)) else none))) (fun r9 => (if z_ar σ3 l3 2 then (if z_ix (0 : Int32) (z_ln σ3 l3) then (zl (z_pJ σ3 l3 (0 : Int32).toNatClampNeg r9.toInt64) (fun σ7 => (some ((0 : Int32), σ7)))) else none) else none))))) else none)
set_option maxRecDepth 20000 in
set_option maxHeartbeats 4000000 in
theorem K_L_queued (hst : l.stackTraces = false) {σ : zSt} {l0 : Nat} {l1 : Int32} {l2 : Int32} {l3 : Nat} {r : Int32} {σ' : zSt} (hf : f_L_queued σ l0 l1 l2 l3 = some (r, σ')) : z_MW l D cA bs yL_queued cL_queued 5 (some .int) [(0, 10, 13, 21), (0, 10, 17, 46)] 7 123 1 6 [.ref l0, .int l1, .int l2, .ref l3] σ r σ' := by
  refine z_metW (own := RL) (lv := [(0, .ref l0), (1, .int l1), (2, .int l2), (3, .ref l3)]) (by decide) rfl (Nat.le_of_ble_eq_true rfl) rfl (fun p e s m below meth c ls B hX htab hW hl => ?_)
  have hx := B.1
  have hb := B.2.1
  have hown := B.2.2.2.1
  have hts := B.2.2.2.2.1
  unfold f_L_queued at hf
  refine lv_aload_n hx hb dL_queued_0 rfl (lv_at hl 3 rfl) ?_
  refine lv_iconst (v := (0 : Int32)) hx hb dL_queued_1 (by decide) ?_
  refine lv_aload_n hx hb dL_queued_2 rfl (lv_at hl 0 rfl) ?_
  refine lv_iload_n hx hb dL_queued_3 rfl (lv_at hl 1 rfl) ?_
  refine lv_iload_n hx hb dL_queued_4 rfl (lv_at hl 2 rfl) ?_
  obtain ⟨hg1, hf⟩ := z_g hf
  obtain ⟨r2, σ3, hq4, hf⟩ := z_b2 hf
  refine z_xci hW (z_runX (As := [.int l1, .int l2]) (rest := [.int (0 : Int32), .ref l3]) B hX hW zv_L_48 (K_X9_queued hst hq4) hg1 rfl rfl rfl (Nat.le_of_ble_eq_true rfl) hl.1 ⟨Nat.le_of_ble_eq_true rfl, Nat.le_of_ble_eq_true rfl⟩ dL_queued_5 ⟨Nat.le_of_ble_eq_true rfl, Nat.le_of_ble_eq_true rfl⟩) (fun k ce q9 H locs he hW hc1 hc2 hc3 => ?_) (fun r9 H locs he hW => ?_)
  · subst he
    replace hf := z_x0 hf
    by_cases hk0 : k = 3
    · subst hk0
      replace hf := z_ip rfl hf
      refine vx_catch (name := z_exn 3) hown [] ({ startPc := 0, endPc := 10, handlerPc := 13, catchType := 21 } : ExceptionTableEntry) [({ startPc := 0, endPc := 10, handlerPc := 17, catchType := 46 } : ExceptionTableEntry)] (by rw [htab]; rfl) (fun z hz => by cases hz) (by decide) (by decide) (hts _ zcl_L_21) (hX.2.2.2.2.1 3).use hc1 hc2 hc3 ?_
      refine lv_astore (lv' := [(4, .ref q9), (0, .ref l0), (1, .int l1), (2, .int l2), (3, .ref l3)]) hx hb dL_queued_13 hl (by decide) rfl (fun ls hl => ?_)
      refine lv_iconst (v := (1 : Int32)) hx hb dL_queued_15 (by decide) ?_
      obtain ⟨rfl, rfl⟩ := z_e2 hf
      exact z_ri B hW dL_queued_16 (Nat.le_of_ble_eq_true rfl) (Nat.le_of_ble_eq_true rfl)
    replace hf := z_in hk0 hf
    by_cases hk1 : k = 2
    · subst hk1
      replace hf := z_ip rfl hf
      refine vx_catch (name := z_exn 2) hown [({ startPc := 0, endPc := 10, handlerPc := 13, catchType := 21 } : ExceptionTableEntry)] ({ startPc := 0, endPc := 10, handlerPc := 17, catchType := 46 } : ExceptionTableEntry) [] (by rw [htab]; rfl) (List.forall_mem_cons.mpr ⟨Or.inr ⟨by decide, _, hts _ zcl_L_21, hX.2.2.2.2.2 2 3 (by decide +kernel)⟩, fun z hz => by cases hz⟩) (by decide) (by decide) (hts _ zcl_L_46) (hX.2.2.2.2.1 2).use hc1 hc2 hc3 ?_
      refine lv_astore (lv' := [(4, .ref q9), (0, .ref l0), (1, .int l1), (2, .int l2), (3, .ref l3)]) hx hb dL_queued_17 hl (by decide) rfl (fun ls hl => ?_)
      refine lv_iconst (v := (2 : Int32)) hx hb dL_queued_19 (by decide) ?_
      obtain ⟨rfl, rfl⟩ := z_e2 hf
      exact z_ri B hW dL_queued_20 (Nat.le_of_ble_eq_true rfl) (Nat.le_of_ble_eq_true rfl)
    replace hf := z_in hk1 hf
    cases hf
  subst he
  replace hf := z_x1 hf
  refine lv_i2l (v := r9.toInt64) hx hb dL_queued_8 rfl ?_
  obtain ⟨hg5, hf⟩ := z_g hf
  obtain ⟨hg6, hf⟩ := z_g hf
  obtain ⟨σ7, hs8, hf⟩ := z_l hf
  refine z_last B hW hg5 hg6 hs8 dL_queued_9 (fun H locs hW => ?_)
  refine lv_goto (tgt := 21) hx hb dL_queued_10 (by decide) ?_
  refine lv_iconst (v := (0 : Int32)) hx hb dL_queued_21 (by decide) ?_
  obtain ⟨rfl, rfl⟩ := z_e2 hf
  exact z_ri B hW dL_queued_22 (Nat.le_of_ble_eq_true rfl) (Nat.le_of_ble_eq_true rfl)
set_option maxRecDepth 100000 in
def f_L_message (σ : zSt) (l0 : Nat) (l1 : Int32) (l2 : Int32) (l3 : Nat) : Option (Int32 × zSt) :=
(if z_ob σ l0 8 then (zb2 (f_X9_message σ l0 l1 l2) (fun r2 σ3 => (zx r2 (fun k => (if k = 2 then (some ((1 : Int32), σ3)) else (if k = 0 then (some ((2 : Int32), σ3)) else none))) (fun r9 => (if z_ar σ3 l3 2 then (if z_ix (0 : Int32) (z_ln σ3 l3) then (zl (z_pJ σ3 l3 (0 : Int32).toNatClampNeg r9.toInt64) (fun σ7 => (some ((0 : Int32), σ7)))) else none) else none))))) else none)
set_option maxRecDepth 20000 in
set_option maxHeartbeats 4000000 in
theorem K_L_message (hst : l.stackTraces = false) {σ : zSt} {l0 : Nat} {l1 : Int32} {l2 : Int32} {l3 : Nat} {r : Int32} {σ' : zSt} (hf : f_L_message σ l0 l1 l2 l3 = some (r, σ')) : z_MW l D cA bs yL_message cL_message 5 (some .int) [(0, 10, 13, 46), (0, 10, 17, 13)] 7 122 1 6 [.ref l0, .int l1, .int l2, .ref l3] σ r σ' := by
  refine z_metW (own := RL) (lv := [(0, .ref l0), (1, .int l1), (2, .int l2), (3, .ref l3)]) (by decide) rfl (Nat.le_of_ble_eq_true rfl) rfl (fun p e s m below meth c ls B hX htab hW hl => ?_)
  have hx := B.1
  have hb := B.2.1
  have hown := B.2.2.2.1
  have hts := B.2.2.2.2.1
  unfold f_L_message at hf
  refine lv_aload_n hx hb dL_message_0 rfl (lv_at hl 3 rfl) ?_
  refine lv_iconst (v := (0 : Int32)) hx hb dL_message_1 (by decide) ?_
  refine lv_aload_n hx hb dL_message_2 rfl (lv_at hl 0 rfl) ?_
  refine lv_iload_n hx hb dL_message_3 rfl (lv_at hl 1 rfl) ?_
  refine lv_iload_n hx hb dL_message_4 rfl (lv_at hl 2 rfl) ?_
  obtain ⟨hg1, hf⟩ := z_g hf
  obtain ⟨r2, σ3, hq4, hf⟩ := z_b2 hf
  refine z_xci hW (z_runX (As := [.int l1, .int l2]) (rest := [.int (0 : Int32), .ref l3]) B hX hW zv_L_51 (K_X9_message hst hq4) hg1 rfl rfl rfl (Nat.le_of_ble_eq_true rfl) hl.1 ⟨Nat.le_of_ble_eq_true rfl, Nat.le_of_ble_eq_true rfl⟩ dL_message_5 ⟨Nat.le_of_ble_eq_true rfl, Nat.le_of_ble_eq_true rfl⟩) (fun k ce q9 H locs he hW hc1 hc2 hc3 => ?_) (fun r9 H locs he hW => ?_)
  · subst he
    replace hf := z_x0 hf
    by_cases hk0 : k = 2
    · subst hk0
      replace hf := z_ip rfl hf
      refine vx_catch (name := z_exn 2) hown [] ({ startPc := 0, endPc := 10, handlerPc := 13, catchType := 46 } : ExceptionTableEntry) [({ startPc := 0, endPc := 10, handlerPc := 17, catchType := 13 } : ExceptionTableEntry)] (by rw [htab]; rfl) (fun z hz => by cases hz) (by decide) (by decide) (hts _ zcl_L_46) (hX.2.2.2.2.1 2).use hc1 hc2 hc3 ?_
      refine lv_astore (lv' := [(4, .ref q9), (0, .ref l0), (1, .int l1), (2, .int l2), (3, .ref l3)]) hx hb dL_message_13 hl (by decide) rfl (fun ls hl => ?_)
      refine lv_iconst (v := (1 : Int32)) hx hb dL_message_15 (by decide) ?_
      obtain ⟨rfl, rfl⟩ := z_e2 hf
      exact z_ri B hW dL_message_16 (Nat.le_of_ble_eq_true rfl) (Nat.le_of_ble_eq_true rfl)
    replace hf := z_in hk0 hf
    by_cases hk1 : k = 0
    · subst hk1
      replace hf := z_ip rfl hf
      refine vx_catch (name := z_exn 0) hown [({ startPc := 0, endPc := 10, handlerPc := 13, catchType := 46 } : ExceptionTableEntry)] ({ startPc := 0, endPc := 10, handlerPc := 17, catchType := 13 } : ExceptionTableEntry) [] (by rw [htab]; rfl) (List.forall_mem_cons.mpr ⟨Or.inr ⟨by decide, _, hts _ zcl_L_46, hX.2.2.2.2.2 0 2 (by decide +kernel)⟩, fun z hz => by cases hz⟩) (by decide) (by decide) (hts _ zcl_L_13) (hX.2.2.2.2.1 0).use hc1 hc2 hc3 ?_
      refine lv_astore (lv' := [(4, .ref q9), (0, .ref l0), (1, .int l1), (2, .int l2), (3, .ref l3)]) hx hb dL_message_17 hl (by decide) rfl (fun ls hl => ?_)
      refine lv_iconst (v := (2 : Int32)) hx hb dL_message_19 (by decide) ?_
      obtain ⟨rfl, rfl⟩ := z_e2 hf
      exact z_ri B hW dL_message_20 (Nat.le_of_ble_eq_true rfl) (Nat.le_of_ble_eq_true rfl)
    replace hf := z_in hk1 hf
    cases hf
  subst he
  replace hf := z_x1 hf
  refine lv_i2l (v := r9.toInt64) hx hb dL_message_8 rfl ?_
  obtain ⟨hg5, hf⟩ := z_g hf
  obtain ⟨hg6, hf⟩ := z_g hf
  obtain ⟨σ7, hs8, hf⟩ := z_l hf
  refine z_last B hW hg5 hg6 hs8 dL_message_9 (fun H locs hW => ?_)
  refine lv_goto (tgt := 21) hx hb dL_message_10 (by decide) ?_
  refine lv_iconst (v := (0 : Int32)) hx hb dL_message_21 (by decide) ?_
  obtain ⟨rfl, rfl⟩ := z_e2 hf
  exact z_ri B hW dL_message_22 (Nat.le_of_ble_eq_true rfl) (Nat.le_of_ble_eq_true rfl)
set_option maxRecDepth 100000 in
def f_L_count (σ : zSt) (l0 : Nat) (l1 : Int32) (l2 : Nat) : Option (Int32 × zSt) :=
(if z_ob σ l0 8 then (zb2 (f_X9_count σ l0 l1) (fun r2 σ3 => (zx r2 (fun k => (if k = 0 then (some ((1 : Int32), σ3)) else none)) (fun r9 => (if z_ar σ3 l2 2 then (if z_ix (0 : Int32) (z_ln σ3 l2) then (zl (z_pJ σ3 l2 (0 : Int32).toNatClampNeg r9.toInt64) (fun σ7 => (some ((0 : Int32), σ7)))) else none) else none))))) else none)
set_option maxRecDepth 20000 in
set_option maxHeartbeats 4000000 in
theorem K_L_count (hst : l.stackTraces = false) {σ : zSt} {l0 : Nat} {l1 : Int32} {l2 : Nat} {r : Int32} {σ' : zSt} (hf : f_L_count σ l0 l1 l2 = some (r, σ')) : z_MW l D cA bs yL_count cL_count 4 (some .int) [(0, 9, 12, 13)] 7 121 1 6 [.ref l0, .int l1, .ref l2] σ r σ' := by
  refine z_metW (own := RL) (lv := [(0, .ref l0), (1, .int l1), (2, .ref l2)]) (by decide) rfl (Nat.le_of_ble_eq_true rfl) rfl (fun p e s m below meth c ls B hX htab hW hl => ?_)
  have hx := B.1
  have hb := B.2.1
  have hown := B.2.2.2.1
  have hts := B.2.2.2.2.1
  unfold f_L_count at hf
  refine lv_aload_n hx hb dL_count_0 rfl (lv_at hl 2 rfl) ?_
  refine lv_iconst (v := (0 : Int32)) hx hb dL_count_1 (by decide) ?_
  refine lv_aload_n hx hb dL_count_2 rfl (lv_at hl 0 rfl) ?_
  refine lv_iload_n hx hb dL_count_3 rfl (lv_at hl 1 rfl) ?_
  obtain ⟨hg1, hf⟩ := z_g hf
  obtain ⟨r2, σ3, hq4, hf⟩ := z_b2 hf
  refine z_xci hW (z_runX (As := [.int l1]) (rest := [.int (0 : Int32), .ref l2]) B hX hW zv_L_54 (K_X9_count hst hq4) hg1 rfl rfl rfl (Nat.le_of_ble_eq_true rfl) hl.1 ⟨Nat.le_of_ble_eq_true rfl, Nat.le_of_ble_eq_true rfl⟩ dL_count_4 ⟨Nat.le_of_ble_eq_true rfl, Nat.le_of_ble_eq_true rfl⟩) (fun k ce q9 H locs he hW hc1 hc2 hc3 => ?_) (fun r9 H locs he hW => ?_)
  · subst he
    replace hf := z_x0 hf
    by_cases hk0 : k = 0
    · subst hk0
      replace hf := z_ip rfl hf
      refine vx_catch (name := z_exn 0) hown [] ({ startPc := 0, endPc := 9, handlerPc := 12, catchType := 13 } : ExceptionTableEntry) [] (by rw [htab]; rfl) (fun z hz => by cases hz) (by decide) (by decide) (hts _ zcl_L_13) (hX.2.2.2.2.1 0).use hc1 hc2 hc3 ?_
      refine lv_astore_n (lv' := [(3, .ref q9), (0, .ref l0), (1, .int l1), (2, .ref l2)]) hx hb dL_count_12 rfl hl (by decide) rfl (fun ls hl => ?_)
      refine lv_iconst (v := (1 : Int32)) hx hb dL_count_13 (by decide) ?_
      obtain ⟨rfl, rfl⟩ := z_e2 hf
      exact z_ri B hW dL_count_14 (Nat.le_of_ble_eq_true rfl) (Nat.le_of_ble_eq_true rfl)
    replace hf := z_in hk0 hf
    cases hf
  subst he
  replace hf := z_x1 hf
  refine lv_i2l (v := r9.toInt64) hx hb dL_count_7 rfl ?_
  obtain ⟨hg5, hf⟩ := z_g hf
  obtain ⟨hg6, hf⟩ := z_g hf
  obtain ⟨σ7, hs8, hf⟩ := z_l hf
  refine z_last B hW hg5 hg6 hs8 dL_count_8 (fun H locs hW => ?_)
  refine lv_goto (tgt := 15) hx hb dL_count_9 (by decide) ?_
  refine lv_iconst (v := (0 : Int32)) hx hb dL_count_15 (by decide) ?_
  obtain ⟨rfl, rfl⟩ := z_e2 hf
  exact z_ri B hW dL_count_16 (Nat.le_of_ble_eq_true rfl) (Nat.le_of_ble_eq_true rfl)
set_option maxRecDepth 100000 in
def f_L_isNoisy_15 (σ : zSt) (s0 : Int64) (s1 : Int32) (s2 : Option Nat) : Option (Int32 × zSt) :=
(zc s2 none (fun a1 => (if z_ar σ a1 2 then (if z_ix s1 (z_ln σ a1) then (zl (z_pJ σ a1 s1.toNatClampNeg s0) (fun σ5 => (some ((0 : Int32), σ5)))) else none) else none)))
set_option maxRecDepth 20000 in
set_option maxHeartbeats 4000000 in
theorem t_L_isNoisy_15 (B : z_B p s m args meth c D cA bs RL cL_isNoisy 4 (some .int)) (hst : l.stackTraces = false) (hX : z_X bs s) (htab : c.exceptionTable.toList = tableOf [(0, 16, 19, 13)]) {r : Int32} {σ' : zSt} {σ : zSt} {s0 : Int64} {s1 : Int32} {s2 : Option Nat} (hf : f_L_isNoisy_15 σ s0 s1 s2 = some (r, σ')) {H : Heap} {locs : List Loc} {ls : Array Slot} (hW : z_Ok D cA bs s σ H locs) (hl : lv_has ls 4 [])  : W p l e (zrm 7 1 6 121) s m args below meth c H locs 1 6 (MQ below (z_Qi D cA bs r σ') args s 1 6 (fun q => bs ≤ q)) (F0 m 15 ls [.long s0, .int s1, va_rf s2]) := by
  have hx := B.1
  have hb := B.2.1
  have hown := B.2.2.2.1
  have hts := B.2.2.2.2.1
  unfold f_L_isNoisy_15 at hf
  obtain ⟨a1, hn2, hf⟩ := z_nn hf
  subst hn2
  obtain ⟨hg3, hf⟩ := z_g hf
  obtain ⟨hg4, hf⟩ := z_g hf
  obtain ⟨σ5, hs6, hf⟩ := z_l hf
  refine z_last B hW hg3 hg4 hs6 dL_isNoisy_15 (fun H locs hW => ?_)
  refine lv_goto (tgt := 22) hx hb dL_isNoisy_16 (by decide) ?_
  refine lv_iconst (v := (0 : Int32)) hx hb dL_isNoisy_22 (by decide) ?_
  obtain ⟨rfl, rfl⟩ := z_e2 hf
  exact z_ri B hW dL_isNoisy_23 (Nat.le_of_ble_eq_true rfl) (Nat.le_of_ble_eq_true rfl)
set_option maxRecDepth 100000 in
def f_L_isNoisy (σ : zSt) (l0 : Nat) (l1 : Int32) (l2 : Nat) : Option (Int32 × zSt) :=
(if z_ob σ l0 8 then (zb2 (f_X9_isNoisy σ l0 l1) (fun r2 σ3 => (zx r2 (fun k => (if k = 0 then (some ((1 : Int32), σ3)) else none)) (fun r9 => (if r9 = 0 then
(f_L_isNoisy_15 σ3 (0 : Int64) (0 : Int32) (some l2))
else
(f_L_isNoisy_15 σ3 (1 : Int64) (0 : Int32) (some l2))))))) else none)
set_option maxRecDepth 20000 in
set_option maxHeartbeats 4000000 in
theorem K_L_isNoisy (hst : l.stackTraces = false) {σ : zSt} {l0 : Nat} {l1 : Int32} {l2 : Nat} {r : Int32} {σ' : zSt} (hf : f_L_isNoisy σ l0 l1 l2 = some (r, σ')) : z_MW l D cA bs yL_isNoisy cL_isNoisy 4 (some .int) [(0, 16, 19, 13)] 7 121 1 6 [.ref l0, .int l1, .ref l2] σ r σ' := by
  refine z_metW (own := RL) (lv := [(0, .ref l0), (1, .int l1), (2, .ref l2)]) (by decide) rfl (Nat.le_of_ble_eq_true rfl) rfl (fun p e s m below meth c ls B hX htab hW hl => ?_)
  have hx := B.1
  have hb := B.2.1
  have hown := B.2.2.2.1
  have hts := B.2.2.2.2.1
  unfold f_L_isNoisy at hf
  refine lv_aload_n hx hb dL_isNoisy_0 rfl (lv_at hl 2 rfl) ?_
  refine lv_iconst (v := (0 : Int32)) hx hb dL_isNoisy_1 (by decide) ?_
  refine lv_aload_n hx hb dL_isNoisy_2 rfl (lv_at hl 0 rfl) ?_
  refine lv_iload_n hx hb dL_isNoisy_3 rfl (lv_at hl 1 rfl) ?_
  obtain ⟨hg1, hf⟩ := z_g hf
  obtain ⟨r2, σ3, hq4, hf⟩ := z_b2 hf
  refine z_xci hW (z_runX (As := [.int l1]) (rest := [.int (0 : Int32), .ref l2]) B hX hW zv_L_57 (K_X9_isNoisy hst hq4) hg1 rfl rfl rfl (Nat.le_of_ble_eq_true rfl) hl.1 ⟨Nat.le_of_ble_eq_true rfl, Nat.le_of_ble_eq_true rfl⟩ dL_isNoisy_4 ⟨Nat.le_of_ble_eq_true rfl, Nat.le_of_ble_eq_true rfl⟩) (fun k ce q9 H locs he hW hc1 hc2 hc3 => ?_) (fun r9 H locs he hW => ?_)
  · subst he
    replace hf := z_x0 hf
    by_cases hk0 : k = 0
    · subst hk0
      replace hf := z_ip rfl hf
      refine vx_catch (name := z_exn 0) hown [] ({ startPc := 0, endPc := 16, handlerPc := 19, catchType := 13 } : ExceptionTableEntry) [] (by rw [htab]; rfl) (fun z hz => by cases hz) (by decide) (by decide) (hts _ zcl_L_13) (hX.2.2.2.2.1 0).use hc1 hc2 hc3 ?_
      refine lv_astore_n (lv' := [(3, .ref q9), (0, .ref l0), (1, .int l1), (2, .ref l2)]) hx hb dL_isNoisy_19 rfl hl (by decide) rfl (fun ls hl => ?_)
      refine lv_iconst (v := (1 : Int32)) hx hb dL_isNoisy_20 (by decide) ?_
      obtain ⟨rfl, rfl⟩ := z_e2 hf
      exact z_ri B hW dL_isNoisy_21 (Nat.le_of_ble_eq_true rfl) (Nat.le_of_ble_eq_true rfl)
    replace hf := z_in hk0 hf
    cases hf
  subst he
  replace hf := z_x1 hf
  refine lv_if_eq (tgt := 14) hx hb dL_isNoisy_7 (by decide) (fun hc7 => ?_) (fun hc7 => ?_)
  · replace hf := z_ip hc7 hf
    refine lv_lconst (v := (0 : Int64)) hx hb dL_isNoisy_14 (by decide) ?_
    exact t_L_isNoisy_15 B hst hX htab hf hW (lv_sub hl [] rfl) 
  · replace hf := z_in hc7 hf
    refine lv_lconst (v := (1 : Int64)) hx hb dL_isNoisy_10 (by decide) ?_
    refine lv_goto (tgt := 15) hx hb dL_isNoisy_11 (by decide) ?_
    exact t_L_isNoisy_15 B hst hX htab hf hW (lv_sub hl [] rfl) 
set_option maxRecDepth 100000 in
def f_L_visit (σ : zSt) (l0 : Nat) (l1 : Int32) (l2 : Int32) (l3 : Nat) : Option (Int32 × zSt) :=
(if z_ob σ l0 8 then (zb2 (f_X9_visit σ l0 l1 l2) (fun r2 σ3 => (zx r2 (fun k => (if k = 2 then (some ((1 : Int32), σ3)) else (if k = 0 then (some ((2 : Int32), σ3)) else none))) (fun r9 => (if z_ar σ3 l3 2 then (if z_ix (0 : Int32) (z_ln σ3 l3) then (zl (z_pJ σ3 l3 (0 : Int32).toNatClampNeg r9.toInt64) (fun σ7 => (some ((0 : Int32), σ7)))) else none) else none))))) else none)
set_option maxRecDepth 20000 in
set_option maxHeartbeats 4000000 in
theorem K_L_visit (hst : l.stackTraces = false) {σ : zSt} {l0 : Nat} {l1 : Int32} {l2 : Int32} {l3 : Nat} {r : Int32} {σ' : zSt} (hf : f_L_visit σ l0 l1 l2 l3 = some (r, σ')) : z_MW l D cA bs yL_visit cL_visit 5 (some .int) [(0, 10, 13, 46), (0, 10, 17, 13)] 7 122 1 6 [.ref l0, .int l1, .int l2, .ref l3] σ r σ' := by
  refine z_metW (own := RL) (lv := [(0, .ref l0), (1, .int l1), (2, .int l2), (3, .ref l3)]) (by decide) rfl (Nat.le_of_ble_eq_true rfl) rfl (fun p e s m below meth c ls B hX htab hW hl => ?_)
  have hx := B.1
  have hb := B.2.1
  have hown := B.2.2.2.1
  have hts := B.2.2.2.2.1
  unfold f_L_visit at hf
  refine lv_aload_n hx hb dL_visit_0 rfl (lv_at hl 3 rfl) ?_
  refine lv_iconst (v := (0 : Int32)) hx hb dL_visit_1 (by decide) ?_
  refine lv_aload_n hx hb dL_visit_2 rfl (lv_at hl 0 rfl) ?_
  refine lv_iload_n hx hb dL_visit_3 rfl (lv_at hl 1 rfl) ?_
  refine lv_iload_n hx hb dL_visit_4 rfl (lv_at hl 2 rfl) ?_
  obtain ⟨hg1, hf⟩ := z_g hf
  obtain ⟨r2, σ3, hq4, hf⟩ := z_b2 hf
  refine z_xci hW (z_runX (As := [.int l1, .int l2]) (rest := [.int (0 : Int32), .ref l3]) B hX hW zv_L_61 (K_X9_visit hst hq4) hg1 rfl rfl rfl (Nat.le_of_ble_eq_true rfl) hl.1 ⟨Nat.le_of_ble_eq_true rfl, Nat.le_of_ble_eq_true rfl⟩ dL_visit_5 ⟨Nat.le_of_ble_eq_true rfl, Nat.le_of_ble_eq_true rfl⟩) (fun k ce q9 H locs he hW hc1 hc2 hc3 => ?_) (fun r9 H locs he hW => ?_)
  · subst he
    replace hf := z_x0 hf
    by_cases hk0 : k = 2
    · subst hk0
      replace hf := z_ip rfl hf
      refine vx_catch (name := z_exn 2) hown [] ({ startPc := 0, endPc := 10, handlerPc := 13, catchType := 46 } : ExceptionTableEntry) [({ startPc := 0, endPc := 10, handlerPc := 17, catchType := 13 } : ExceptionTableEntry)] (by rw [htab]; rfl) (fun z hz => by cases hz) (by decide) (by decide) (hts _ zcl_L_46) (hX.2.2.2.2.1 2).use hc1 hc2 hc3 ?_
      refine lv_astore (lv' := [(4, .ref q9), (0, .ref l0), (1, .int l1), (2, .int l2), (3, .ref l3)]) hx hb dL_visit_13 hl (by decide) rfl (fun ls hl => ?_)
      refine lv_iconst (v := (1 : Int32)) hx hb dL_visit_15 (by decide) ?_
      obtain ⟨rfl, rfl⟩ := z_e2 hf
      exact z_ri B hW dL_visit_16 (Nat.le_of_ble_eq_true rfl) (Nat.le_of_ble_eq_true rfl)
    replace hf := z_in hk0 hf
    by_cases hk1 : k = 0
    · subst hk1
      replace hf := z_ip rfl hf
      refine vx_catch (name := z_exn 0) hown [({ startPc := 0, endPc := 10, handlerPc := 13, catchType := 46 } : ExceptionTableEntry)] ({ startPc := 0, endPc := 10, handlerPc := 17, catchType := 13 } : ExceptionTableEntry) [] (by rw [htab]; rfl) (List.forall_mem_cons.mpr ⟨Or.inr ⟨by decide, _, hts _ zcl_L_46, hX.2.2.2.2.2 0 2 (by decide +kernel)⟩, fun z hz => by cases hz⟩) (by decide) (by decide) (hts _ zcl_L_13) (hX.2.2.2.2.1 0).use hc1 hc2 hc3 ?_
      refine lv_astore (lv' := [(4, .ref q9), (0, .ref l0), (1, .int l1), (2, .int l2), (3, .ref l3)]) hx hb dL_visit_17 hl (by decide) rfl (fun ls hl => ?_)
      refine lv_iconst (v := (2 : Int32)) hx hb dL_visit_19 (by decide) ?_
      obtain ⟨rfl, rfl⟩ := z_e2 hf
      exact z_ri B hW dL_visit_20 (Nat.le_of_ble_eq_true rfl) (Nat.le_of_ble_eq_true rfl)
    replace hf := z_in hk1 hf
    cases hf
  subst he
  replace hf := z_x1 hf
  refine lv_i2l (v := r9.toInt64) hx hb dL_visit_8 rfl ?_
  obtain ⟨hg5, hf⟩ := z_g hf
  obtain ⟨hg6, hf⟩ := z_g hf
  obtain ⟨σ7, hs8, hf⟩ := z_l hf
  refine z_last B hW hg5 hg6 hs8 dL_visit_9 (fun H locs hW => ?_)
  refine lv_goto (tgt := 21) hx hb dL_visit_10 (by decide) ?_
  refine lv_iconst (v := (0 : Int32)) hx hb dL_visit_21 (by decide) ?_
  obtain ⟨rfl, rfl⟩ := z_e2 hf
  exact z_ri B hW dL_visit_22 (Nat.le_of_ble_eq_true rfl) (Nat.le_of_ble_eq_true rfl)
set_option maxRecDepth 100000 in
def f_L_waitOf (σ : zSt) (l0 : Nat) (l1 : Int32) (l2 : Nat) : Option (Int32 × zSt) :=
(if z_ob σ l0 8 then (zb2 (f_X9_waitOf σ l0 l1) (fun r2 σ3 => (zx r2 (fun k => (if k = 2 then (some ((1 : Int32), σ3)) else (if k = 1 then (some ((2 : Int32), σ3)) else none))) (fun r9 => (if z_ar σ3 l2 2 then (if z_ix (0 : Int32) (z_ln σ3 l2) then (zl (z_pJ σ3 l2 (0 : Int32).toNatClampNeg r9.toInt64) (fun σ7 => (some ((0 : Int32), σ7)))) else none) else none))))) else none)
set_option maxRecDepth 20000 in
set_option maxHeartbeats 4000000 in
theorem K_L_waitOf (hst : l.stackTraces = false) {σ : zSt} {l0 : Nat} {l1 : Int32} {l2 : Nat} {r : Int32} {σ' : zSt} (hf : f_L_waitOf σ l0 l1 l2 = some (r, σ')) : z_MW l D cA bs yL_waitOf cL_waitOf 4 (some .int) [(0, 9, 12, 46), (0, 9, 15, 15)] 7 149 1 6 [.ref l0, .int l1, .ref l2] σ r σ' := by
  refine z_metW (own := RL) (lv := [(0, .ref l0), (1, .int l1), (2, .ref l2)]) (by decide) rfl (Nat.le_of_ble_eq_true rfl) rfl (fun p e s m below meth c ls B hX htab hW hl => ?_)
  have hx := B.1
  have hb := B.2.1
  have hown := B.2.2.2.1
  have hts := B.2.2.2.2.1
  unfold f_L_waitOf at hf
  refine lv_aload_n hx hb dL_waitOf_0 rfl (lv_at hl 2 rfl) ?_
  refine lv_iconst (v := (0 : Int32)) hx hb dL_waitOf_1 (by decide) ?_
  refine lv_aload_n hx hb dL_waitOf_2 rfl (lv_at hl 0 rfl) ?_
  refine lv_iload_n hx hb dL_waitOf_3 rfl (lv_at hl 1 rfl) ?_
  obtain ⟨hg1, hf⟩ := z_g hf
  obtain ⟨r2, σ3, hq4, hf⟩ := z_b2 hf
  refine z_xci hW (z_runX (As := [.int l1]) (rest := [.int (0 : Int32), .ref l2]) B hX hW zv_L_64 (K_X9_waitOf hst hq4) hg1 rfl rfl rfl (Nat.le_of_ble_eq_true rfl) hl.1 ⟨Nat.le_of_ble_eq_true rfl, Nat.le_of_ble_eq_true rfl⟩ dL_waitOf_4 ⟨Nat.le_of_ble_eq_true rfl, Nat.le_of_ble_eq_true rfl⟩) (fun k ce q9 H locs he hW hc1 hc2 hc3 => ?_) (fun r9 H locs he hW => ?_)
  · subst he
    replace hf := z_x0 hf
    by_cases hk0 : k = 2
    · subst hk0
      replace hf := z_ip rfl hf
      refine vx_catch (name := z_exn 2) hown [] ({ startPc := 0, endPc := 9, handlerPc := 12, catchType := 46 } : ExceptionTableEntry) [({ startPc := 0, endPc := 9, handlerPc := 15, catchType := 15 } : ExceptionTableEntry)] (by rw [htab]; rfl) (fun z hz => by cases hz) (by decide) (by decide) (hts _ zcl_L_46) (hX.2.2.2.2.1 2).use hc1 hc2 hc3 ?_
      refine lv_astore_n (lv' := [(3, .ref q9), (0, .ref l0), (1, .int l1), (2, .ref l2)]) hx hb dL_waitOf_12 rfl hl (by decide) rfl (fun ls hl => ?_)
      refine lv_iconst (v := (1 : Int32)) hx hb dL_waitOf_13 (by decide) ?_
      obtain ⟨rfl, rfl⟩ := z_e2 hf
      exact z_ri B hW dL_waitOf_14 (Nat.le_of_ble_eq_true rfl) (Nat.le_of_ble_eq_true rfl)
    replace hf := z_in hk0 hf
    by_cases hk1 : k = 1
    · subst hk1
      replace hf := z_ip rfl hf
      refine vx_catch (name := z_exn 1) hown [({ startPc := 0, endPc := 9, handlerPc := 12, catchType := 46 } : ExceptionTableEntry)] ({ startPc := 0, endPc := 9, handlerPc := 15, catchType := 15 } : ExceptionTableEntry) [] (by rw [htab]; rfl) (List.forall_mem_cons.mpr ⟨Or.inr ⟨by decide, _, hts _ zcl_L_46, hX.2.2.2.2.2 1 2 (by decide +kernel)⟩, fun z hz => by cases hz⟩) (by decide) (by decide) (hts _ zcl_L_15) (hX.2.2.2.2.1 1).use hc1 hc2 hc3 ?_
      refine lv_astore_n (lv' := [(3, .ref q9), (0, .ref l0), (1, .int l1), (2, .ref l2)]) hx hb dL_waitOf_15 rfl hl (by decide) rfl (fun ls hl => ?_)
      refine lv_iconst (v := (2 : Int32)) hx hb dL_waitOf_16 (by decide) ?_
      obtain ⟨rfl, rfl⟩ := z_e2 hf
      exact z_ri B hW dL_waitOf_17 (Nat.le_of_ble_eq_true rfl) (Nat.le_of_ble_eq_true rfl)
    replace hf := z_in hk1 hf
    cases hf
  subst he
  replace hf := z_x1 hf
  refine lv_i2l (v := r9.toInt64) hx hb dL_waitOf_7 rfl ?_
  obtain ⟨hg5, hf⟩ := z_g hf
  obtain ⟨hg6, hf⟩ := z_g hf
  obtain ⟨σ7, hs8, hf⟩ := z_l hf
  refine z_last B hW hg5 hg6 hs8 dL_waitOf_8 (fun H locs hW => ?_)
  refine lv_goto (tgt := 18) hx hb dL_waitOf_9 (by decide) ?_
  refine lv_iconst (v := (0 : Int32)) hx hb dL_waitOf_18 (by decide) ?_
  obtain ⟨rfl, rfl⟩ := z_e2 hf
  exact z_ri B hW dL_waitOf_19 (Nat.le_of_ble_eq_true rfl) (Nat.le_of_ble_eq_true rfl)
set_option maxRecDepth 100000 in
def f_L_completeAfter (σ : zSt) (l0 : Nat) (l1 : Nat) : Option (Int32 × zSt) :=
(if z_ob σ l0 8 then (zb2 (f_X9_completeAfter σ l0) (fun r2 σ3 => (zx r2 (fun k => (if k = 1 then (some ((1 : Int32), σ3)) else none)) (fun r9 => (if z_ar σ3 l1 2 then (if z_ix (0 : Int32) (z_ln σ3 l1) then (zl (z_pJ σ3 l1 (0 : Int32).toNatClampNeg r9.toInt64) (fun σ7 => (some ((0 : Int32), σ7)))) else none) else none))))) else none)
set_option maxRecDepth 20000 in
set_option maxHeartbeats 4000000 in
theorem K_L_completeAfter (hst : l.stackTraces = false) {σ : zSt} {l0 : Nat} {l1 : Nat} {r : Int32} {σ' : zSt} (hf : f_L_completeAfter σ l0 l1 = some (r, σ')) : z_MW l D cA bs yL_completeAfter cL_completeAfter 3 (some .int) [(0, 8, 11, 15)] 7 147 1 6 [.ref l0, .ref l1] σ r σ' := by
  refine z_metW (own := RL) (lv := [(0, .ref l0), (1, .ref l1)]) (by decide) rfl (Nat.le_of_ble_eq_true rfl) rfl (fun p e s m below meth c ls B hX htab hW hl => ?_)
  have hx := B.1
  have hb := B.2.1
  have hown := B.2.2.2.1
  have hts := B.2.2.2.2.1
  unfold f_L_completeAfter at hf
  refine lv_aload_n hx hb dL_completeAfter_0 rfl (lv_at hl 1 rfl) ?_
  refine lv_iconst (v := (0 : Int32)) hx hb dL_completeAfter_1 (by decide) ?_
  refine lv_aload_n hx hb dL_completeAfter_2 rfl (lv_at hl 0 rfl) ?_
  obtain ⟨hg1, hf⟩ := z_g hf
  obtain ⟨r2, σ3, hq4, hf⟩ := z_b2 hf
  refine z_xci hW (z_runX (As := []) (rest := [.int (0 : Int32), .ref l1]) B hX hW zv_L_67 (K_X9_completeAfter hst hq4) hg1 rfl rfl rfl (Nat.le_of_ble_eq_true rfl) hl.1 ⟨Nat.le_of_ble_eq_true rfl, Nat.le_of_ble_eq_true rfl⟩ dL_completeAfter_3 ⟨Nat.le_of_ble_eq_true rfl, Nat.le_of_ble_eq_true rfl⟩) (fun k ce q9 H locs he hW hc1 hc2 hc3 => ?_) (fun r9 H locs he hW => ?_)
  · subst he
    replace hf := z_x0 hf
    by_cases hk0 : k = 1
    · subst hk0
      replace hf := z_ip rfl hf
      refine vx_catch (name := z_exn 1) hown [] ({ startPc := 0, endPc := 8, handlerPc := 11, catchType := 15 } : ExceptionTableEntry) [] (by rw [htab]; rfl) (fun z hz => by cases hz) (by decide) (by decide) (hts _ zcl_L_15) (hX.2.2.2.2.1 1).use hc1 hc2 hc3 ?_
      refine lv_astore_n (lv' := [(2, .ref q9), (0, .ref l0), (1, .ref l1)]) hx hb dL_completeAfter_11 rfl hl (by decide) rfl (fun ls hl => ?_)
      refine lv_iconst (v := (1 : Int32)) hx hb dL_completeAfter_12 (by decide) ?_
      obtain ⟨rfl, rfl⟩ := z_e2 hf
      exact z_ri B hW dL_completeAfter_13 (Nat.le_of_ble_eq_true rfl) (Nat.le_of_ble_eq_true rfl)
    replace hf := z_in hk0 hf
    cases hf
  subst he
  replace hf := z_x1 hf
  refine lv_i2l (v := r9.toInt64) hx hb dL_completeAfter_6 rfl ?_
  obtain ⟨hg5, hf⟩ := z_g hf
  obtain ⟨hg6, hf⟩ := z_g hf
  obtain ⟨σ7, hs8, hf⟩ := z_l hf
  refine z_last B hW hg5 hg6 hs8 dL_completeAfter_7 (fun H locs hW => ?_)
  refine lv_goto (tgt := 14) hx hb dL_completeAfter_8 (by decide) ?_
  refine lv_iconst (v := (0 : Int32)) hx hb dL_completeAfter_14 (by decide) ?_
  obtain ⟨rfl, rfl⟩ := z_e2 hf
  exact z_ri B hW dL_completeAfter_15 (Nat.le_of_ble_eq_true rfl) (Nat.le_of_ble_eq_true rfl)
set_option maxRecDepth 100000 in
def f_L_leastTarget (σ : zSt) (l0 : Nat) (l1 : Int32) (l2 : Nat) : Option (Int32 × zSt) :=
(if z_ob σ l0 8 then (zb2 (f_X9_leastTarget σ l0 l1) (fun r2 σ3 => (zx r2 (fun k => (if k = 0 then (some ((1 : Int32), σ3)) else (if k = 1 then (some ((2 : Int32), σ3)) else none))) (fun r9 => (if z_ar σ3 l2 2 then (if z_ix (0 : Int32) (z_ln σ3 l2) then (zl (z_pJ σ3 l2 (0 : Int32).toNatClampNeg r9.toInt64) (fun σ7 => (some ((0 : Int32), σ7)))) else none) else none))))) else none)
set_option maxRecDepth 20000 in
set_option maxHeartbeats 4000000 in
theorem K_L_leastTarget (hst : l.stackTraces = false) {σ : zSt} {l0 : Nat} {l1 : Int32} {l2 : Nat} {r : Int32} {σ' : zSt} (hf : f_L_leastTarget σ l0 l1 l2 = some (r, σ')) : z_MW l D cA bs yL_leastTarget cL_leastTarget 4 (some .int) [(0, 9, 12, 13), (0, 9, 15, 15)] 7 171 1 6 [.ref l0, .int l1, .ref l2] σ r σ' := by
  refine z_metW (own := RL) (lv := [(0, .ref l0), (1, .int l1), (2, .ref l2)]) (by decide) rfl (Nat.le_of_ble_eq_true rfl) rfl (fun p e s m below meth c ls B hX htab hW hl => ?_)
  have hx := B.1
  have hb := B.2.1
  have hown := B.2.2.2.1
  have hts := B.2.2.2.2.1
  unfold f_L_leastTarget at hf
  refine lv_aload_n hx hb dL_leastTarget_0 rfl (lv_at hl 2 rfl) ?_
  refine lv_iconst (v := (0 : Int32)) hx hb dL_leastTarget_1 (by decide) ?_
  refine lv_aload_n hx hb dL_leastTarget_2 rfl (lv_at hl 0 rfl) ?_
  refine lv_iload_n hx hb dL_leastTarget_3 rfl (lv_at hl 1 rfl) ?_
  obtain ⟨hg1, hf⟩ := z_g hf
  obtain ⟨r2, σ3, hq4, hf⟩ := z_b2 hf
  refine z_xci hW (z_runX (As := [.int l1]) (rest := [.int (0 : Int32), .ref l2]) B hX hW zv_L_71 (K_X9_leastTarget hst hq4) hg1 rfl rfl rfl (Nat.le_of_ble_eq_true rfl) hl.1 ⟨Nat.le_of_ble_eq_true rfl, Nat.le_of_ble_eq_true rfl⟩ dL_leastTarget_4 ⟨Nat.le_of_ble_eq_true rfl, Nat.le_of_ble_eq_true rfl⟩) (fun k ce q9 H locs he hW hc1 hc2 hc3 => ?_) (fun r9 H locs he hW => ?_)
  · subst he
    replace hf := z_x0 hf
    by_cases hk0 : k = 0
    · subst hk0
      replace hf := z_ip rfl hf
      refine vx_catch (name := z_exn 0) hown [] ({ startPc := 0, endPc := 9, handlerPc := 12, catchType := 13 } : ExceptionTableEntry) [({ startPc := 0, endPc := 9, handlerPc := 15, catchType := 15 } : ExceptionTableEntry)] (by rw [htab]; rfl) (fun z hz => by cases hz) (by decide) (by decide) (hts _ zcl_L_13) (hX.2.2.2.2.1 0).use hc1 hc2 hc3 ?_
      refine lv_astore_n (lv' := [(3, .ref q9), (0, .ref l0), (1, .int l1), (2, .ref l2)]) hx hb dL_leastTarget_12 rfl hl (by decide) rfl (fun ls hl => ?_)
      refine lv_iconst (v := (1 : Int32)) hx hb dL_leastTarget_13 (by decide) ?_
      obtain ⟨rfl, rfl⟩ := z_e2 hf
      exact z_ri B hW dL_leastTarget_14 (Nat.le_of_ble_eq_true rfl) (Nat.le_of_ble_eq_true rfl)
    replace hf := z_in hk0 hf
    by_cases hk1 : k = 1
    · subst hk1
      replace hf := z_ip rfl hf
      refine vx_catch (name := z_exn 1) hown [({ startPc := 0, endPc := 9, handlerPc := 12, catchType := 13 } : ExceptionTableEntry)] ({ startPc := 0, endPc := 9, handlerPc := 15, catchType := 15 } : ExceptionTableEntry) [] (by rw [htab]; rfl) (List.forall_mem_cons.mpr ⟨Or.inr ⟨by decide, _, hts _ zcl_L_13, hX.2.2.2.2.2 1 0 (by decide +kernel)⟩, fun z hz => by cases hz⟩) (by decide) (by decide) (hts _ zcl_L_15) (hX.2.2.2.2.1 1).use hc1 hc2 hc3 ?_
      refine lv_astore_n (lv' := [(3, .ref q9), (0, .ref l0), (1, .int l1), (2, .ref l2)]) hx hb dL_leastTarget_15 rfl hl (by decide) rfl (fun ls hl => ?_)
      refine lv_iconst (v := (2 : Int32)) hx hb dL_leastTarget_16 (by decide) ?_
      obtain ⟨rfl, rfl⟩ := z_e2 hf
      exact z_ri B hW dL_leastTarget_17 (Nat.le_of_ble_eq_true rfl) (Nat.le_of_ble_eq_true rfl)
    replace hf := z_in hk1 hf
    cases hf
  subst he
  replace hf := z_x1 hf
  refine lv_i2l (v := r9.toInt64) hx hb dL_leastTarget_7 rfl ?_
  obtain ⟨hg5, hf⟩ := z_g hf
  obtain ⟨hg6, hf⟩ := z_g hf
  obtain ⟨σ7, hs8, hf⟩ := z_l hf
  refine z_last B hW hg5 hg6 hs8 dL_leastTarget_8 (fun H locs hW => ?_)
  refine lv_goto (tgt := 18) hx hb dL_leastTarget_9 (by decide) ?_
  refine lv_iconst (v := (0 : Int32)) hx hb dL_leastTarget_18 (by decide) ?_
  obtain ⟨rfl, rfl⟩ := z_e2 hf
  exact z_ri B hW dL_leastTarget_19 (Nat.le_of_ble_eq_true rfl) (Nat.le_of_ble_eq_true rfl)
set_option maxRecDepth 100000 in
def f_L_append (σ : zSt) (l0 : Nat) (l1 : Int32) (l2 : Nat) : Option (Int32 × zSt) :=
(if z_ob σ l0 8 then (zb2 (f_X9_append σ l0 l1) (fun r2 σ3 => (zx r2 (fun k => (if k = 0 then (some ((1 : Int32), σ3)) else (if k = 1 then (some ((2 : Int32), σ3)) else none))) (fun r9 => (if z_ar σ3 l2 2 then (if z_ix (0 : Int32) (z_ln σ3 l2) then (zl (z_pJ σ3 l2 (0 : Int32).toNatClampNeg r9.toInt64) (fun σ7 => (some ((0 : Int32), σ7)))) else none) else none))))) else none)
set_option maxRecDepth 20000 in
set_option maxHeartbeats 4000000 in
theorem K_L_append (hst : l.stackTraces = false) {σ : zSt} {l0 : Nat} {l1 : Int32} {l2 : Nat} {r : Int32} {σ' : zSt} (hf : f_L_append σ l0 l1 l2 = some (r, σ')) : z_MW l D cA bs yL_append cL_append 4 (some .int) [(0, 9, 12, 13), (0, 9, 15, 15)] 7 121 1 6 [.ref l0, .int l1, .ref l2] σ r σ' := by
  refine z_metW (own := RL) (lv := [(0, .ref l0), (1, .int l1), (2, .ref l2)]) (by decide) rfl (Nat.le_of_ble_eq_true rfl) rfl (fun p e s m below meth c ls B hX htab hW hl => ?_)
  have hx := B.1
  have hb := B.2.1
  have hown := B.2.2.2.1
  have hts := B.2.2.2.2.1
  unfold f_L_append at hf
  refine lv_aload_n hx hb dL_append_0 rfl (lv_at hl 2 rfl) ?_
  refine lv_iconst (v := (0 : Int32)) hx hb dL_append_1 (by decide) ?_
  refine lv_aload_n hx hb dL_append_2 rfl (lv_at hl 0 rfl) ?_
  refine lv_iload_n hx hb dL_append_3 rfl (lv_at hl 1 rfl) ?_
  obtain ⟨hg1, hf⟩ := z_g hf
  obtain ⟨r2, σ3, hq4, hf⟩ := z_b2 hf
  refine z_xci hW (z_runX (As := [.int l1]) (rest := [.int (0 : Int32), .ref l2]) B hX hW zv_L_74 (K_X9_append hst hq4) hg1 rfl rfl rfl (Nat.le_of_ble_eq_true rfl) hl.1 ⟨Nat.le_of_ble_eq_true rfl, Nat.le_of_ble_eq_true rfl⟩ dL_append_4 ⟨Nat.le_of_ble_eq_true rfl, Nat.le_of_ble_eq_true rfl⟩) (fun k ce q9 H locs he hW hc1 hc2 hc3 => ?_) (fun r9 H locs he hW => ?_)
  · subst he
    replace hf := z_x0 hf
    by_cases hk0 : k = 0
    · subst hk0
      replace hf := z_ip rfl hf
      refine vx_catch (name := z_exn 0) hown [] ({ startPc := 0, endPc := 9, handlerPc := 12, catchType := 13 } : ExceptionTableEntry) [({ startPc := 0, endPc := 9, handlerPc := 15, catchType := 15 } : ExceptionTableEntry)] (by rw [htab]; rfl) (fun z hz => by cases hz) (by decide) (by decide) (hts _ zcl_L_13) (hX.2.2.2.2.1 0).use hc1 hc2 hc3 ?_
      refine lv_astore_n (lv' := [(3, .ref q9), (0, .ref l0), (1, .int l1), (2, .ref l2)]) hx hb dL_append_12 rfl hl (by decide) rfl (fun ls hl => ?_)
      refine lv_iconst (v := (1 : Int32)) hx hb dL_append_13 (by decide) ?_
      obtain ⟨rfl, rfl⟩ := z_e2 hf
      exact z_ri B hW dL_append_14 (Nat.le_of_ble_eq_true rfl) (Nat.le_of_ble_eq_true rfl)
    replace hf := z_in hk0 hf
    by_cases hk1 : k = 1
    · subst hk1
      replace hf := z_ip rfl hf
      refine vx_catch (name := z_exn 1) hown [({ startPc := 0, endPc := 9, handlerPc := 12, catchType := 13 } : ExceptionTableEntry)] ({ startPc := 0, endPc := 9, handlerPc := 15, catchType := 15 } : ExceptionTableEntry) [] (by rw [htab]; rfl) (List.forall_mem_cons.mpr ⟨Or.inr ⟨by decide, _, hts _ zcl_L_13, hX.2.2.2.2.2 1 0 (by decide +kernel)⟩, fun z hz => by cases hz⟩) (by decide) (by decide) (hts _ zcl_L_15) (hX.2.2.2.2.1 1).use hc1 hc2 hc3 ?_
      refine lv_astore_n (lv' := [(3, .ref q9), (0, .ref l0), (1, .int l1), (2, .ref l2)]) hx hb dL_append_15 rfl hl (by decide) rfl (fun ls hl => ?_)
      refine lv_iconst (v := (2 : Int32)) hx hb dL_append_16 (by decide) ?_
      obtain ⟨rfl, rfl⟩ := z_e2 hf
      exact z_ri B hW dL_append_17 (Nat.le_of_ble_eq_true rfl) (Nat.le_of_ble_eq_true rfl)
    replace hf := z_in hk1 hf
    cases hf
  subst he
  replace hf := z_x1 hf
  refine lv_i2l (v := r9.toInt64) hx hb dL_append_7 rfl ?_
  obtain ⟨hg5, hf⟩ := z_g hf
  obtain ⟨hg6, hf⟩ := z_g hf
  obtain ⟨σ7, hs8, hf⟩ := z_l hf
  refine z_last B hW hg5 hg6 hs8 dL_append_8 (fun H locs hW => ?_)
  refine lv_goto (tgt := 18) hx hb dL_append_9 (by decide) ?_
  refine lv_iconst (v := (0 : Int32)) hx hb dL_append_18 (by decide) ?_
  obtain ⟨rfl, rfl⟩ := z_e2 hf
  exact z_ri B hW dL_append_19 (Nat.le_of_ble_eq_true rfl) (Nat.le_of_ble_eq_true rfl)
set_option maxRecDepth 100000 in
def f_L_undo (σ : zSt) (l0 : Nat) (l1 : Nat) : Option (Int32 × zSt) :=
(if z_ob σ l0 8 then (zb2 (f_X9_undo σ l0) (fun r2 σ3 => (zx r2 (fun k => (if k = 1 then (some ((1 : Int32), σ3)) else none)) (fun r9 => (if z_ar σ3 l1 2 then (if z_ix (0 : Int32) (z_ln σ3 l1) then (zl (z_pJ σ3 l1 (0 : Int32).toNatClampNeg r9.toInt64) (fun σ7 => (some ((0 : Int32), σ7)))) else none) else none))))) else none)
set_option maxRecDepth 20000 in
set_option maxHeartbeats 4000000 in
theorem K_L_undo (hst : l.stackTraces = false) {σ : zSt} {l0 : Nat} {l1 : Nat} {r : Int32} {σ' : zSt} (hf : f_L_undo σ l0 l1 = some (r, σ')) : z_MW l D cA bs yL_undo cL_undo 3 (some .int) [(0, 8, 11, 15)] 7 168 1 6 [.ref l0, .ref l1] σ r σ' := by
  refine z_metW (own := RL) (lv := [(0, .ref l0), (1, .ref l1)]) (by decide) rfl (Nat.le_of_ble_eq_true rfl) rfl (fun p e s m below meth c ls B hX htab hW hl => ?_)
  have hx := B.1
  have hb := B.2.1
  have hown := B.2.2.2.1
  have hts := B.2.2.2.2.1
  unfold f_L_undo at hf
  refine lv_aload_n hx hb dL_undo_0 rfl (lv_at hl 1 rfl) ?_
  refine lv_iconst (v := (0 : Int32)) hx hb dL_undo_1 (by decide) ?_
  refine lv_aload_n hx hb dL_undo_2 rfl (lv_at hl 0 rfl) ?_
  obtain ⟨hg1, hf⟩ := z_g hf
  obtain ⟨r2, σ3, hq4, hf⟩ := z_b2 hf
  refine z_xci hW (z_runX (As := []) (rest := [.int (0 : Int32), .ref l1]) B hX hW zv_L_77 (K_X9_undo hst hq4) hg1 rfl rfl rfl (Nat.le_of_ble_eq_true rfl) hl.1 ⟨Nat.le_of_ble_eq_true rfl, Nat.le_of_ble_eq_true rfl⟩ dL_undo_3 ⟨Nat.le_of_ble_eq_true rfl, Nat.le_of_ble_eq_true rfl⟩) (fun k ce q9 H locs he hW hc1 hc2 hc3 => ?_) (fun r9 H locs he hW => ?_)
  · subst he
    replace hf := z_x0 hf
    by_cases hk0 : k = 1
    · subst hk0
      replace hf := z_ip rfl hf
      refine vx_catch (name := z_exn 1) hown [] ({ startPc := 0, endPc := 8, handlerPc := 11, catchType := 15 } : ExceptionTableEntry) [] (by rw [htab]; rfl) (fun z hz => by cases hz) (by decide) (by decide) (hts _ zcl_L_15) (hX.2.2.2.2.1 1).use hc1 hc2 hc3 ?_
      refine lv_astore_n (lv' := [(2, .ref q9), (0, .ref l0), (1, .ref l1)]) hx hb dL_undo_11 rfl hl (by decide) rfl (fun ls hl => ?_)
      refine lv_iconst (v := (1 : Int32)) hx hb dL_undo_12 (by decide) ?_
      obtain ⟨rfl, rfl⟩ := z_e2 hf
      exact z_ri B hW dL_undo_13 (Nat.le_of_ble_eq_true rfl) (Nat.le_of_ble_eq_true rfl)
    replace hf := z_in hk0 hf
    cases hf
  subst he
  replace hf := z_x1 hf
  refine lv_i2l (v := r9.toInt64) hx hb dL_undo_6 rfl ?_
  obtain ⟨hg5, hf⟩ := z_g hf
  obtain ⟨hg6, hf⟩ := z_g hf
  obtain ⟨σ7, hs8, hf⟩ := z_l hf
  refine z_last B hW hg5 hg6 hs8 dL_undo_7 (fun H locs hW => ?_)
  refine lv_goto (tgt := 14) hx hb dL_undo_8 (by decide) ?_
  refine lv_iconst (v := (0 : Int32)) hx hb dL_undo_14 (by decide) ?_
  obtain ⟨rfl, rfl⟩ := z_e2 hf
  exact z_ri B hW dL_undo_15 (Nat.le_of_ble_eq_true rfl) (Nat.le_of_ble_eq_true rfl)
end GEN
