section GEN
variable {p : Program} {l : Launch} {e : Env} {s : State} {m : MethodId} {args : Array Value} {below : List Frame} {meth : Method} {c : Code} {D : va_G} {cA : Nat → ClassId} {bs : Nat}
set_option maxRecDepth 100000 in
def f_X8_comesIn_39 (σ : zSt) : Option (Int32 × zSt) :=
(some ((0 : Int32), σ))
set_option maxRecDepth 20000 in
set_option maxHeartbeats 4000000 in
theorem t_X8_comesIn_39 (B : z_B p s m args meth c D cA bs RX8 cX8_comesIn 3 (some .boolean)) {r : Int32} {σ' : zSt} {σ : zSt} (hf : f_X8_comesIn_39 σ = some (r, σ')) {H : Heap} {locs : List Loc} {ls : Array Slot} (hW : z_Ok D cA bs s σ H locs) (hl : lv_has ls 3 [])  : W p l e (zrm 2 0 0 45) s m args below meth c H locs 0 0 (MQ below (z_Qi D cA bs r σ') args s 0 0 (fun q => bs ≤ q)) (F0 m 39 ls []) := by
  have hx := B.1
  have hb := B.2.1
  have hown := B.2.2.2.1
  have hts := B.2.2.2.2.1
  unfold f_X8_comesIn_39 at hf
  refine lv_iconst (v := (0 : Int32)) hx hb dX8_comesIn_39 (by decide) ?_
  obtain ⟨rfl, rfl⟩ := z_e2 hf
  exact z_rz (by decide) B hW dX8_comesIn_40 (Nat.le_of_ble_eq_true rfl) (Nat.le_of_ble_eq_true rfl)
set_option maxRecDepth 100000 in
def f_X8_comesIn_20 (σ : zSt) (l0 : Nat) (l1 : Nat) (s0 : Option Nat) : Option (Int32 × zSt) :=
(zc s0
(f_X8_comesIn_39 σ)
(fun a1 => (if z_ob σ a1 6 then (if (z_I σ a1 1) = 0 then
(f_X8_comesIn_39 σ)
else
(if (z_I σ a1 2) = 0 then
(if z_ob σ l0 2 then (zb2 (f_X2_transmit σ l0 (1 : Int32)) (fun r5 σ6 => (if r5 = 0 then
(some ((0 : Int32), σ6))
else
(if z_ob σ6 a1 6 then (zl (z_pI σ6 a1 2 (1 : Int32)) (fun σ8 => (if z_ob σ8 l1 6 then (if z_ob σ8 a1 6 then (zl (z_pI σ8 a1 3 (z_I σ8 l1 3)) (fun σ12 => (if z_ob σ12 a1 6 then (zl (z_pI σ12 a1 4 (z_I σ12 a1 0)) (fun σ15 => (if z_ob σ15 a1 6 then (if z_ob σ15 l1 6 then (zl (z_pI σ15 l1 3 (z_I σ15 a1 0)) (fun σ19 => (if z_ob σ19 l0 2 then (zc (z_R σ19 l0 3) none (fun q22 => (if z_ob σ19 q22 0 then (zl (z_pI σ19 q22 4 ((z_I σ19 q22 4) + (1 : Int32))) (fun σ25 => (some ((1 : Int32), σ25)))) else none))) else none))) else none) else none))) else none))) else none) else none))) else none)))) else none)
else
(f_X8_comesIn_39 σ))) else none)))
set_option maxRecDepth 20000 in
set_option maxHeartbeats 4000000 in
theorem t_X8_comesIn_20 (B : z_B p s m args meth c D cA bs RX8 cX8_comesIn 3 (some .boolean)) {r : Int32} {σ' : zSt} {σ : zSt} {l0 : Nat} {l1 : Nat} {s0 : Option Nat} (hf : f_X8_comesIn_20 σ l0 l1 s0 = some (r, σ')) {H : Heap} {locs : List Loc} {ls : Array Slot} (hW : z_Ok D cA bs s σ H locs) (hl : lv_has ls 3 [(0, .ref l0), (1, .ref l1)])  : W p l e (zrm 2 0 0 45) s m args below meth c H locs 0 0 (MQ below (z_Qi D cA bs r σ') args s 0 0 (fun q => bs ≤ q)) (F0 m 20 ls [va_rf s0]) := by
  have hx := B.1
  have hb := B.2.1
  have hown := B.2.2.2.1
  have hts := B.2.2.2.2.1
  unfold f_X8_comesIn_20 at hf
  refine z_astore_n (lv' := [(2, va_rf s0), (0, .ref l0), (1, .ref l1)]) hx hb dX8_comesIn_20 rfl hl (by decide) rfl (fun ls hl => ?_)
  refine z_aload_n hx hb dX8_comesIn_21 rfl (lv_at hl 0 rfl) ?_
  refine z_ifnull (tgt := 39) hx hb dX8_comesIn_22 (by decide) (fun hz27 => ?_) (fun a1 hz27 => ?_)
  · subst hz27
    replace hf := z_c0 hf
    exact t_X8_comesIn_39 B hf hW (lv_sub hl [] rfl) 
  · subst hz27
    replace hf := z_c1 hf
    refine lv_aload_n hx hb dX8_comesIn_25 rfl (lv_at hl 0 rfl) ?_
    obtain ⟨hg2, hf⟩ := z_g hf
    refine z_getI B hW (Or.inl zf_X8_91) rfl hg2 dX8_comesIn_26 ?_
    refine lv_if_eq (tgt := 39) hx hb dX8_comesIn_29 (by decide) (fun hc29 => ?_) (fun hc29 => ?_)
    · replace hf := z_ip hc29 hf
      exact t_X8_comesIn_39 B hf hW (lv_sub hl [] rfl) 
    · replace hf := z_in hc29 hf
      refine lv_aload_n hx hb dX8_comesIn_32 rfl (lv_at hl 0 rfl) ?_
      refine z_getI B hW (Or.inl zf_X8_69) rfl hg2 dX8_comesIn_33 ?_
      refine lv_if_eq (tgt := 41) hx hb dX8_comesIn_36 (by decide) (fun hc36 => ?_) (fun hc36 => ?_)
      · replace hf := z_ip hc36 hf
        refine lv_aload_n hx hb dX8_comesIn_41 rfl (lv_at hl 1 rfl) ?_
        refine lv_iconst (v := (1 : Int32)) hx hb dX8_comesIn_42 (by decide) ?_
        obtain ⟨hg3, hf⟩ := z_g hf
        obtain ⟨r5, σ6, hq4, hf⟩ := z_b2 hf
        refine z_ci hW (z_runV (As := [.int (1 : Int32)]) (rest := []) B hW zv_X8_132 (K_X2_transmit hq4) hg3 rfl rfl rfl (Nat.le_of_ble_eq_true rfl) hl.1 ⟨Nat.le_of_ble_eq_true rfl, Nat.le_of_ble_eq_true rfl⟩ dX8_comesIn_43 ⟨Nat.le_of_ble_eq_true rfl, Nat.le_of_ble_eq_true rfl⟩) (fun H locs hW => ?_)
        refine lv_if_ne (tgt := 51) hx hb dX8_comesIn_46 (by decide) (fun hc46 => ?_) (fun hc46 => ?_)
        · replace hf := z_in hc46 hf
          refine lv_aload_n hx hb dX8_comesIn_51 rfl (lv_at hl 0 rfl) ?_
          refine lv_iconst (v := (1 : Int32)) hx hb dX8_comesIn_52 (by decide) ?_
          obtain ⟨hg7, hf⟩ := z_g hf
          obtain ⟨σ8, hs9, hf⟩ := z_l hf
          refine z_putI B hW zf_X8_69 hg7 (by decide) hs9 dX8_comesIn_53 (fun H locs hW => ?_)
          refine lv_aload_n hx hb dX8_comesIn_56 rfl (lv_at hl 0 rfl) ?_
          refine lv_aload_n hx hb dX8_comesIn_57 rfl (lv_at hl 2 rfl) ?_
          obtain ⟨hg10, hf⟩ := z_g hf
          refine z_getI B hW (Or.inl zf_X8_73) rfl hg10 dX8_comesIn_58 ?_
          obtain ⟨hg11, hf⟩ := z_g hf
          obtain ⟨σ12, hs13, hf⟩ := z_l hf
          refine z_putI B hW zf_X8_73 hg11 rfl hs13 dX8_comesIn_61 (fun H locs hW => ?_)
          refine lv_aload_n hx hb dX8_comesIn_64 rfl (lv_at hl 0 rfl) ?_
          refine lv_aload_n hx hb dX8_comesIn_65 rfl (lv_at hl 0 rfl) ?_
          obtain ⟨hg14, hf⟩ := z_g hf
          refine z_getI B hW (Or.inl zf_X8_53) rfl hg14 dX8_comesIn_66 ?_
          obtain ⟨σ15, hs16, hf⟩ := z_l hf
          refine z_putI B hW zf_X8_146 hg14 rfl hs16 dX8_comesIn_69 (fun H locs hW => ?_)
          refine lv_aload_n hx hb dX8_comesIn_72 rfl (lv_at hl 2 rfl) ?_
          refine lv_aload_n hx hb dX8_comesIn_73 rfl (lv_at hl 0 rfl) ?_
          obtain ⟨hg17, hf⟩ := z_g hf
          refine z_getI B hW (Or.inl zf_X8_53) rfl hg17 dX8_comesIn_74 ?_
          obtain ⟨hg18, hf⟩ := z_g hf
          obtain ⟨σ19, hs20, hf⟩ := z_l hf
          refine z_putI B hW zf_X8_73 hg18 rfl hs20 dX8_comesIn_77 (fun H locs hW => ?_)
          refine lv_aload_n hx hb dX8_comesIn_80 rfl (lv_at hl 1 rfl) ?_
          obtain ⟨hg21, hf⟩ := z_g hf
          obtain ⟨q22, hv23, hf⟩ := z_nn hf
          refine z_getN B hW (Or.inr zf_X8_76) rfl hg21 hv23 dX8_comesIn_81 ?_
          refine lv_dup hx hb dX8_comesIn_84 rfl ?_
          obtain ⟨hg24, hf⟩ := z_g hf
          refine z_getI B hW (Or.inl zf_X8_156) rfl hg24 dX8_comesIn_85 ?_
          refine lv_iconst (v := (1 : Int32)) hx hb dX8_comesIn_88 (by decide) ?_
          refine lv_iadd hx hb dX8_comesIn_89 ?_
          obtain ⟨σ25, hs26, hf⟩ := z_l hf
          refine z_putI B hW zf_X8_156 hg24 rfl hs26 dX8_comesIn_90 (fun H locs hW => ?_)
          refine lv_iconst (v := (1 : Int32)) hx hb dX8_comesIn_93 (by decide) ?_
          obtain ⟨rfl, rfl⟩ := z_e2 hf
          exact z_rz (by decide) B hW dX8_comesIn_94 (Nat.le_of_ble_eq_true rfl) (Nat.le_of_ble_eq_true rfl)
        · replace hf := z_ip hc46 hf
          refine lv_iconst (v := (0 : Int32)) hx hb dX8_comesIn_49 (by decide) ?_
          obtain ⟨rfl, rfl⟩ := z_e2 hf
          exact z_rz (by decide) B hW dX8_comesIn_50 (Nat.le_of_ble_eq_true rfl) (Nat.le_of_ble_eq_true rfl)
      · replace hf := z_in hc36 hf
        exact t_X8_comesIn_39 B hf hW (lv_sub hl [] rfl) 
set_option maxRecDepth 100000 in
def f_X8_comesIn (σ : zSt) (l0 : Nat) (l1 : Nat) : Option (Int32 × zSt) :=
(if z_ob σ l0 2 then (zb2 (f_X2_transmit σ l0 (1 : Int32)) (fun r3 σ4 => (if r3 = 0 then
(f_X8_comesIn_20 σ4 l0 l1 none)
else
(if z_ob σ4 l1 6 then (if z_ob σ4 l0 2 then (zb (f_X2_stationWith σ4 l0 (z_I σ4 l1 4)) (fun r8 => (f_X8_comesIn_20 σ4 l0 l1 r8))) else none) else none)))) else none)
set_option maxRecDepth 20000 in
set_option maxHeartbeats 4000000 in
theorem K_X8_comesIn {σ : zSt} {l0 : Nat} {l1 : Nat} {r : Int32} {σ' : zSt} (hf : f_X8_comesIn σ l0 l1 = some (r, σ')) : z_M l D cA bs yX8_comesIn cX8_comesIn 3 (some .boolean) 2 45 0 0 [.ref l0, .ref l1] σ (z_Qi D cA bs r σ') := by
  refine z_met (own := RX8) (lv := [(0, .ref l0), (1, .ref l1)]) (by decide) rfl (Nat.le_of_ble_eq_true rfl) rfl (fun p e s m below meth c ls B hnm hW hl => ?_)
  have hx := B.1
  have hb := B.2.1
  have hown := B.2.2.2.1
  have hts := B.2.2.2.2.1
  unfold f_X8_comesIn at hf
  refine lv_aload_n hx hb dX8_comesIn_0 rfl (lv_at hl 0 rfl) ?_
  refine lv_iconst (v := (1 : Int32)) hx hb dX8_comesIn_1 (by decide) ?_
  obtain ⟨hg1, hf⟩ := z_g hf
  obtain ⟨r3, σ4, hq2, hf⟩ := z_b2 hf
  refine z_ci hW (z_runV (As := [.int (1 : Int32)]) (rest := []) B hW zv_X8_132 (K_X2_transmit hq2) hg1 rfl rfl rfl (Nat.le_of_ble_eq_true rfl) hl.1 ⟨Nat.le_of_ble_eq_true rfl, Nat.le_of_ble_eq_true rfl⟩ dX8_comesIn_2 ⟨Nat.le_of_ble_eq_true rfl, Nat.le_of_ble_eq_true rfl⟩) (fun H locs hW => ?_)
  refine lv_if_eq (tgt := 19) hx hb dX8_comesIn_5 (by decide) (fun hc5 => ?_) (fun hc5 => ?_)
  · replace hf := z_ip hc5 hf
    refine lv_null hx hb dX8_comesIn_19 ?_
    exact t_X8_comesIn_20 B hf hW hl 
  · replace hf := z_in hc5 hf
    refine lv_aload_n hx hb dX8_comesIn_8 rfl (lv_at hl 0 rfl) ?_
    refine lv_aload_n hx hb dX8_comesIn_9 rfl (lv_at hl 1 rfl) ?_
    obtain ⟨hg5, hf⟩ := z_g hf
    refine z_getI B hW (Or.inl zf_X8_146) rfl hg5 dX8_comesIn_10 ?_
    obtain ⟨hg6, hf⟩ := z_g hf
    obtain ⟨r8, hq7, hf⟩ := z_b hf
    refine z_cq hW (z_runV (As := [.int (z_I σ4 l1 4)]) (rest := []) B hW zv_X8_15 (K_X2_stationWith hq7) hg6 rfl rfl rfl (Nat.le_of_ble_eq_true rfl) hl.1 ⟨Nat.le_of_ble_eq_true rfl, Nat.le_of_ble_eq_true rfl⟩ dX8_comesIn_13 ⟨Nat.le_of_ble_eq_true rfl, Nat.le_of_ble_eq_true rfl⟩) (fun H locs hW => ?_)
    refine lv_goto (tgt := 20) hx hb dX8_comesIn_16 (by decide) ?_
    exact t_X8_comesIn_20 B hf hW hl 
set_option maxRecDepth 100000 in
def f_X8_pollGap_20 (σ : zSt) : Option (zSt) :=
(some σ)
set_option maxRecDepth 20000 in
set_option maxHeartbeats 4000000 in
theorem t_X8_pollGap_20 (B : z_B p s m args meth c D cA bs RX8 cX8_pollGap 5 none)  {σ' : zSt} {σ : zSt} (hf : f_X8_pollGap_20 σ = some σ') {H : Heap} {locs : List Loc} {ls : Array Slot} (hW : z_Ok D cA bs s σ H locs) (hl : lv_has ls 5 [])  : W p l e (zrm 3 0 0 67) s m args below meth c H locs 0 0 (MQ below (z_Qv D cA bs σ') args s 0 0 (fun q => bs ≤ q)) (F0 m 20 ls []) := by
  have hx := B.1
  have hb := B.2.1
  have hown := B.2.2.2.1
  have hts := B.2.2.2.2.1
  unfold f_X8_pollGap_20 at hf
  obtain rfl := z_e1 hf
  exact z_rv B hW dX8_pollGap_20 (Nat.le_of_ble_eq_true rfl) (Nat.le_of_ble_eq_true rfl)
set_option maxRecDepth 100000 in
def f_X8_pollGap_121 (σ : zSt) : Option (zSt) :=
(some σ)
set_option maxRecDepth 20000 in
set_option maxHeartbeats 4000000 in
theorem t_X8_pollGap_121 (B : z_B p s m args meth c D cA bs RX8 cX8_pollGap 5 none)  {σ' : zSt} {σ : zSt} (hf : f_X8_pollGap_121 σ = some σ') {H : Heap} {locs : List Loc} {ls : Array Slot} (hW : z_Ok D cA bs s σ H locs) (hl : lv_has ls 5 [])  : W p l e (zrm 3 0 0 67) s m args below meth c H locs 0 0 (MQ below (z_Qv D cA bs σ') args s 0 0 (fun q => bs ≤ q)) (F0 m 121 ls []) := by
  have hx := B.1
  have hb := B.2.1
  have hown := B.2.2.2.1
  have hts := B.2.2.2.2.1
  unfold f_X8_pollGap_121 at hf
  obtain rfl := z_e1 hf
  exact z_rv B hW dX8_pollGap_121 (Nat.le_of_ble_eq_true rfl) (Nat.le_of_ble_eq_true rfl)
set_option maxRecDepth 100000 in
def f_X8_pollGap_97 (σ : zSt) (l0 : Nat) (l1 : Nat) (s0 : Int32) (s1 : Option Nat) : Option (zSt) :=
(zc s1 none (fun a1 => (if z_ob σ a1 6 then (zl (z_pI σ a1 4 s0) (fun σ4 => (zb2 (f_X8_comesIn σ4 l0 l1) (fun r7 σ8 => (if r7 = 0 then
(if z_ob σ8 l0 2 then (zl (z_pI σ8 l0 9 ((z_I σ8 l0 9) + (z_I σ8 l0 7))) (fun σ10 => (f_X8_pollGap_121 σ10))) else none)
else
(f_X8_pollGap_121 σ8)))))) else none)))
set_option maxRecDepth 20000 in
set_option maxHeartbeats 4000000 in
theorem t_X8_pollGap_97 (B : z_B p s m args meth c D cA bs RX8 cX8_pollGap 5 none)  {σ' : zSt} {σ : zSt} {l0 : Nat} {l1 : Nat} {s0 : Int32} {s1 : Option Nat} (hf : f_X8_pollGap_97 σ l0 l1 s0 s1 = some σ') {H : Heap} {locs : List Loc} {ls : Array Slot} (hW : z_Ok D cA bs s σ H locs) (hl : lv_has ls 5 [(0, .ref l0), (1, .ref l1)])  : W p l e (zrm 3 0 0 67) s m args below meth c H locs 0 0 (MQ below (z_Qv D cA bs σ') args s 0 0 (fun q => bs ≤ q)) (F0 m 97 ls [.int s0, va_rf s1]) := by
  have hx := B.1
  have hb := B.2.1
  have hown := B.2.2.2.1
  have hts := B.2.2.2.2.1
  unfold f_X8_pollGap_97 at hf
  obtain ⟨a1, hn2, hf⟩ := z_nn hf
  subst hn2
  obtain ⟨hg3, hf⟩ := z_g hf
  obtain ⟨σ4, hs5, hf⟩ := z_l hf
  refine z_putI B hW zf_X8_146 hg3 rfl hs5 dX8_pollGap_97 (fun H locs hW => ?_)
  refine lv_aload_n hx hb dX8_pollGap_100 rfl (lv_at hl 0 rfl) ?_
  refine lv_aload_n hx hb dX8_pollGap_101 rfl (lv_at hl 1 rfl) ?_
  obtain ⟨r7, σ8, hq6, hf⟩ := z_b2 hf
  refine z_ci hW (z_runS (As := [.ref l0, .ref l1]) (rest := []) B hW zv_X8_153 (K_X8_comesIn hq6) rfl rfl (Nat.le_of_ble_eq_true rfl) hl.1 ⟨Nat.le_of_ble_eq_true rfl, Nat.le_of_ble_eq_true rfl⟩ dX8_pollGap_102 ⟨Nat.le_of_ble_eq_true rfl, Nat.le_of_ble_eq_true rfl⟩) (fun H locs hW => ?_)
  refine lv_if_ne (tgt := 121) hx hb dX8_pollGap_105 (by decide) (fun hc105 => ?_) (fun hc105 => ?_)
  · replace hf := z_in hc105 hf
    exact t_X8_pollGap_121 B hf hW (lv_sub hl [] rfl) 
  · replace hf := z_ip hc105 hf
    refine lv_aload_n hx hb dX8_pollGap_108 rfl (lv_at hl 0 rfl) ?_
    refine lv_dup hx hb dX8_pollGap_109 rfl ?_
    obtain ⟨hg9, hf⟩ := z_g hf
    refine z_getI B hW (Or.inl zf_X8_25) rfl hg9 dX8_pollGap_110 ?_
    refine lv_aload_n hx hb dX8_pollGap_113 rfl (lv_at hl 0 rfl) ?_
    refine z_getI B hW (Or.inl zf_X8_66) rfl hg9 dX8_pollGap_114 ?_
    refine lv_iadd hx hb dX8_pollGap_117 ?_
    obtain ⟨σ10, hs11, hf⟩ := z_l hf
    refine z_putI B hW zf_X8_25 hg9 rfl hs11 dX8_pollGap_118 (fun H locs hW => ?_)
    exact t_X8_pollGap_121 B hf hW (lv_sub hl [] rfl) 
set_option maxRecDepth 100000 in
def f_X8_pollGap_72 (σ : zSt) (l0 : Nat) (l1 : Nat) (s0 : Int32) : Option (zSt) :=
(if s0 = 0 then
(if z_ob σ l1 6 then (zb (f_X9_addressBehind σ (z_I σ l1 0)) (fun r3 => (f_X8_pollGap_97 σ l0 l1 r3 (some l1)))) else none)
else
(if z_ob σ l1 6 then (zb (f_X9_addressBehind σ (z_I σ l1 4)) (fun r6 => (f_X8_pollGap_97 σ l0 l1 r6 (some l1)))) else none))
set_option maxRecDepth 20000 in
set_option maxHeartbeats 4000000 in
theorem t_X8_pollGap_72 (B : z_B p s m args meth c D cA bs RX8 cX8_pollGap 5 none)  {σ' : zSt} {σ : zSt} {l0 : Nat} {l1 : Nat} {s0 : Int32} (hf : f_X8_pollGap_72 σ l0 l1 s0 = some σ') {H : Heap} {locs : List Loc} {ls : Array Slot} (hW : z_Ok D cA bs s σ H locs) (hl : lv_has ls 5 [(0, .ref l0), (1, .ref l1)])  : W p l e (zrm 3 0 0 67) s m args below meth c H locs 0 0 (MQ below (z_Qv D cA bs σ') args s 0 0 (fun q => bs ≤ q)) (F0 m 72 ls [.int s0]) := by
  have hx := B.1
  have hb := B.2.1
  have hown := B.2.2.2.1
  have hts := B.2.2.2.2.1
  unfold f_X8_pollGap_72 at hf
  refine lv_istore (lv' := [(4, .int s0), (0, .ref l0), (1, .ref l1)]) hx hb dX8_pollGap_72 hl (by decide) rfl (fun ls hl => ?_)
  refine lv_aload_n hx hb dX8_pollGap_74 rfl (lv_at hl 2 rfl) ?_
  refine lv_iload hx hb dX8_pollGap_75 (lv_at hl 0 rfl) ?_
  refine lv_if_eq (tgt := 90) hx hb dX8_pollGap_77 (by decide) (fun hc77 => ?_) (fun hc77 => ?_)
  · replace hf := z_ip hc77 hf
    refine lv_aload_n hx hb dX8_pollGap_90 rfl (lv_at hl 2 rfl) ?_
    obtain ⟨hg1, hf⟩ := z_g hf
    refine z_getI B hW (Or.inl zf_X8_53) rfl hg1 dX8_pollGap_91 ?_
    obtain ⟨r3, hq2, hf⟩ := z_b hf
    refine z_ci hW (z_runSN (As := [.int (z_I σ l1 0)]) (rest := [.ref l1]) B hW zv_X8_149 (K_X9_addressBehind hq2) rfl rfl (Nat.le_of_ble_eq_true rfl) hl.1 ⟨Nat.le_of_ble_eq_true rfl, Nat.le_of_ble_eq_true rfl⟩ dX8_pollGap_94 ⟨Nat.le_of_ble_eq_true rfl, Nat.le_of_ble_eq_true rfl⟩) (fun H locs hW => ?_)
    exact t_X8_pollGap_97 B hf hW (lv_sub hl [1, 2] rfl) 
  · replace hf := z_in hc77 hf
    refine lv_aload_n hx hb dX8_pollGap_80 rfl (lv_at hl 2 rfl) ?_
    obtain ⟨hg4, hf⟩ := z_g hf
    refine z_getI B hW (Or.inl zf_X8_146) rfl hg4 dX8_pollGap_81 ?_
    obtain ⟨r6, hq5, hf⟩ := z_b hf
    refine z_ci hW (z_runSN (As := [.int (z_I σ l1 4)]) (rest := [.ref l1]) B hW zv_X8_149 (K_X9_addressBehind hq5) rfl rfl (Nat.le_of_ble_eq_true rfl) hl.1 ⟨Nat.le_of_ble_eq_true rfl, Nat.le_of_ble_eq_true rfl⟩ dX8_pollGap_84 ⟨Nat.le_of_ble_eq_true rfl, Nat.le_of_ble_eq_true rfl⟩) (fun H locs hW => ?_)
    refine lv_goto (tgt := 97) hx hb dX8_pollGap_87 (by decide) ?_
    exact t_X8_pollGap_97 B hf hW (lv_sub hl [1, 2] rfl) 
set_option maxRecDepth 100000 in
def f_X8_pollGap_71 (σ : zSt) (l0 : Nat) (l1 : Nat) : Option (zSt) :=
(f_X8_pollGap_72 σ l0 l1 (0 : Int32))
set_option maxRecDepth 20000 in
set_option maxHeartbeats 4000000 in
theorem t_X8_pollGap_71 (B : z_B p s m args meth c D cA bs RX8 cX8_pollGap 5 none)  {σ' : zSt} {σ : zSt} {l0 : Nat} {l1 : Nat} (hf : f_X8_pollGap_71 σ l0 l1 = some σ') {H : Heap} {locs : List Loc} {ls : Array Slot} (hW : z_Ok D cA bs s σ H locs) (hl : lv_has ls 5 [(0, .ref l0), (1, .ref l1)])  : W p l e (zrm 3 0 0 67) s m args below meth c H locs 0 0 (MQ below (z_Qv D cA bs σ') args s 0 0 (fun q => bs ≤ q)) (F0 m 71 ls []) := by
  have hx := B.1
  have hb := B.2.1
  have hown := B.2.2.2.1
  have hts := B.2.2.2.2.1
  unfold f_X8_pollGap_71 at hf
  refine lv_iconst (v := (0 : Int32)) hx hb dX8_pollGap_71 (by decide) ?_
  exact t_X8_pollGap_72 B hf hW hl 
set_option maxRecDepth 100000 in
def f_X8_pollGap (σ : zSt) (l0 : Nat) (l1 : Nat) : Option (zSt) :=
(if z_ob σ l0 2 then (if (z_I σ l0 8) < (1 : Int32) then
(f_X8_pollGap_20 σ)
else
(if z_ob σ l1 6 then (if ¬ (z_I σ l0 8) = 0 then (if ((z_I σ l1 7) - (z_I σ l1 7) / (z_I σ l0 8) * (z_I σ l0 8)) = 0 then
(zl ((((z_I σ l1 3) - (z_I σ l1 0)) - (1 : Int32)) &&& (31 : Int32)) (fun x4 => (if x4 = 0 then
(some σ)
else
(zb (f_X9_addressBehind σ (z_I σ l1 4)) (fun r7 => (zl ((r7 - (z_I σ l1 0)) &&& (31 : Int32)) (fun x8 => (if x8 < (1 : Int32) then
(f_X8_pollGap_71 σ l0 l1)
else
(if x4 < x8 then
(f_X8_pollGap_71 σ l0 l1)
else
(f_X8_pollGap_72 σ l0 l1 (1 : Int32)))))))))))
else
(f_X8_pollGap_20 σ)) else none) else none)) else none)
set_option maxRecDepth 20000 in
set_option maxHeartbeats 4000000 in
theorem K_X8_pollGap {σ : zSt} {l0 : Nat} {l1 : Nat}  {σ' : zSt} (hf : f_X8_pollGap σ l0 l1 = some σ') : z_M l D cA bs yX8_pollGap cX8_pollGap 5 none 3 67 0 0 [.ref l0, .ref l1] σ (z_Qv D cA bs σ') := by
  refine z_met (own := RX8) (lv := [(0, .ref l0), (1, .ref l1)]) (by decide) rfl (Nat.le_of_ble_eq_true rfl) rfl (fun p e s m below meth c ls B hnm hW hl => ?_)
  have hx := B.1
  have hb := B.2.1
  have hown := B.2.2.2.1
  have hts := B.2.2.2.2.1
  unfold f_X8_pollGap at hf
  refine lv_aload_n hx hb dX8_pollGap_0 rfl (lv_at hl 0 rfl) ?_
  obtain ⟨hg1, hf⟩ := z_g hf
  refine z_getI B hW (Or.inl zf_X8_143) rfl hg1 dX8_pollGap_1 ?_
  refine lv_iconst (v := (1 : Int32)) hx hb dX8_pollGap_4 (by decide) ?_
  refine lv_icmp_lt (tgt := 20) hx hb dX8_pollGap_5 (by decide) (fun hc5 => ?_) (fun hc5 => ?_)
  · replace hf := z_ip hc5 hf
    exact t_X8_pollGap_20 B hf hW (lv_sub hl [] rfl) 
  · replace hf := z_in hc5 hf
    refine lv_aload_n hx hb dX8_pollGap_8 rfl (lv_at hl 1 rfl) ?_
    obtain ⟨hg2, hf⟩ := z_g hf
    refine z_getI B hW (Or.inl zf_X8_97) rfl hg2 dX8_pollGap_9 ?_
    refine lv_aload_n hx hb dX8_pollGap_12 rfl (lv_at hl 0 rfl) ?_
    refine z_getI B hW (Or.inl zf_X8_143) rfl hg1 dX8_pollGap_13 ?_
    obtain ⟨hg3, hf⟩ := z_gp hf
    refine lv_irem hx hb dX8_pollGap_16 hg3 ?_
    refine lv_if_eq (tgt := 21) hx hb dX8_pollGap_17 (by decide) (fun hc17 => ?_) (fun hc17 => ?_)
    · replace hf := z_ip hc17 hf
      refine lv_aload_n hx hb dX8_pollGap_21 rfl (lv_at hl 1 rfl) ?_
      refine z_getI B hW (Or.inl zf_X8_73) rfl hg2 dX8_pollGap_22 ?_
      refine lv_aload_n hx hb dX8_pollGap_25 rfl (lv_at hl 1 rfl) ?_
      refine z_getI B hW (Or.inl zf_X8_53) rfl hg2 dX8_pollGap_26 ?_
      refine lv_isub hx hb dX8_pollGap_29 ?_
      refine lv_iconst (v := (1 : Int32)) hx hb dX8_pollGap_30 (by decide) ?_
      refine lv_isub hx hb dX8_pollGap_31 ?_
      refine lv_bipush (v := (31 : Int32)) hx hb dX8_pollGap_32 (by decide) ?_
      refine lv_iand hx hb dX8_pollGap_34 ?_
      obtain ⟨x4, hx5, hf⟩ := z_l hf
      rw [hx5]
      refine lv_istore_n (lv' := [(2, .int x4), (0, .ref l0), (1, .ref l1)]) hx hb dX8_pollGap_35 rfl hl (by decide) rfl (fun ls hl => ?_)
      refine lv_iload_n hx hb dX8_pollGap_36 rfl (lv_at hl 0 rfl) ?_
      refine lv_if_ne (tgt := 41) hx hb dX8_pollGap_37 (by decide) (fun hc37 => ?_) (fun hc37 => ?_)
      · replace hf := z_in hc37 hf
        refine lv_aload_n hx hb dX8_pollGap_41 rfl (lv_at hl 2 rfl) ?_
        refine z_getI B hW (Or.inl zf_X8_146) rfl hg2 dX8_pollGap_42 ?_
        obtain ⟨r7, hq6, hf⟩ := z_b hf
        refine z_ci hW (z_runSN (As := [.int (z_I σ l1 4)]) (rest := []) B hW zv_X8_149 (K_X9_addressBehind hq6) rfl rfl (Nat.le_of_ble_eq_true rfl) hl.1 ⟨Nat.le_of_ble_eq_true rfl, Nat.le_of_ble_eq_true rfl⟩ dX8_pollGap_45 ⟨Nat.le_of_ble_eq_true rfl, Nat.le_of_ble_eq_true rfl⟩) (fun H locs hW => ?_)
        refine lv_aload_n hx hb dX8_pollGap_48 rfl (lv_at hl 2 rfl) ?_
        refine z_getI B hW (Or.inl zf_X8_53) rfl hg2 dX8_pollGap_49 ?_
        refine lv_isub hx hb dX8_pollGap_52 ?_
        refine lv_bipush (v := (31 : Int32)) hx hb dX8_pollGap_53 (by decide) ?_
        refine lv_iand hx hb dX8_pollGap_55 ?_
        obtain ⟨x8, hx9, hf⟩ := z_l hf
        rw [hx9]
        refine lv_istore_n (lv' := [(3, .int x8), (2, .int x4), (0, .ref l0), (1, .ref l1)]) hx hb dX8_pollGap_56 rfl hl (by decide) rfl (fun ls hl => ?_)
        refine lv_iload_n hx hb dX8_pollGap_57 rfl (lv_at hl 0 rfl) ?_
        refine lv_iconst (v := (1 : Int32)) hx hb dX8_pollGap_58 (by decide) ?_
        refine lv_icmp_lt (tgt := 71) hx hb dX8_pollGap_59 (by decide) (fun hc59 => ?_) (fun hc59 => ?_)
        · replace hf := z_ip hc59 hf
          exact t_X8_pollGap_71 B hf hW (lv_sub hl [2, 3] rfl) 
        · replace hf := z_in hc59 hf
          refine lv_iload_n hx hb dX8_pollGap_62 rfl (lv_at hl 0 rfl) ?_
          refine lv_iload_n hx hb dX8_pollGap_63 rfl (lv_at hl 1 rfl) ?_
          refine lv_icmp_gt (tgt := 71) hx hb dX8_pollGap_64 (by decide) (fun hc64 => ?_) (fun hc64 => ?_)
          · replace hf := z_ip hc64 hf
            exact t_X8_pollGap_71 B hf hW (lv_sub hl [2, 3] rfl) 
          · replace hf := z_in hc64 hf
            refine lv_iconst (v := (1 : Int32)) hx hb dX8_pollGap_67 (by decide) ?_
            refine lv_goto (tgt := 72) hx hb dX8_pollGap_68 (by decide) ?_
            exact t_X8_pollGap_72 B hf hW (lv_sub hl [2, 3] rfl) 
      · replace hf := z_ip hc37 hf
        obtain rfl := z_e1 hf
        exact z_rv B hW dX8_pollGap_40 (Nat.le_of_ble_eq_true rfl) (Nat.le_of_ble_eq_true rfl)
    · replace hf := z_in hc17 hf
      exact t_X8_pollGap_20 B hf hW (lv_sub hl [] rfl) 
set_option maxRecDepth 100000 in
def f_X8_reaches_38 (σ : zSt) (l0 : Nat) : Option (Int32 × zSt) :=
(if z_ob σ l0 2 then (zl (z_pI σ l0 9 ((z_I σ l0 9) + (z_I σ l0 7))) (fun σ2 => (some ((0 : Int32), σ2)))) else none)
set_option maxRecDepth 20000 in
set_option maxHeartbeats 4000000 in
theorem t_X8_reaches_38 (B : z_B p s m args meth c D cA bs RX8 cX8_reaches 3 (some .boolean)) {r : Int32} {σ' : zSt} {σ : zSt} {l0 : Nat} (hf : f_X8_reaches_38 σ l0 = some (r, σ')) {H : Heap} {locs : List Loc} {ls : Array Slot} (hW : z_Ok D cA bs s σ H locs) (hl : lv_has ls 3 [(0, .ref l0)])  : W p l e (zrm 2 0 0 45) s m args below meth c H locs 0 0 (MQ below (z_Qi D cA bs r σ') args s 0 0 (fun q => bs ≤ q)) (F0 m 38 ls []) := by
  have hx := B.1
  have hb := B.2.1
  have hown := B.2.2.2.1
  have hts := B.2.2.2.2.1
  unfold f_X8_reaches_38 at hf
  refine lv_aload_n hx hb dX8_reaches_38 rfl (lv_at hl 0 rfl) ?_
  refine lv_dup hx hb dX8_reaches_39 rfl ?_
  obtain ⟨hg1, hf⟩ := z_g hf
  refine z_getI B hW (Or.inl zf_X8_25) rfl hg1 dX8_reaches_40 ?_
  refine lv_aload_n hx hb dX8_reaches_43 rfl (lv_at hl 0 rfl) ?_
  refine z_getI B hW (Or.inl zf_X8_66) rfl hg1 dX8_reaches_44 ?_
  refine lv_iadd hx hb dX8_reaches_47 ?_
  obtain ⟨σ2, hs3, hf⟩ := z_l hf
  refine z_putI B hW zf_X8_25 hg1 rfl hs3 dX8_reaches_48 (fun H locs hW => ?_)
  refine lv_iconst (v := (0 : Int32)) hx hb dX8_reaches_51 (by decide) ?_
  obtain ⟨rfl, rfl⟩ := z_e2 hf
  exact z_rz (by decide) B hW dX8_reaches_52 (Nat.le_of_ble_eq_true rfl) (Nat.le_of_ble_eq_true rfl)
set_option maxRecDepth 100000 in
def f_X8_reaches_17 (σ : zSt) (l0 : Nat) (s0 : Option Nat) : Option (Int32 × zSt) :=
(zc s0
(f_X8_reaches_38 σ l0)
(fun a1 => (if z_ob σ a1 6 then (if (z_I σ a1 1) = 0 then
(f_X8_reaches_38 σ l0)
else
(if (z_I σ a1 2) = 0 then
(f_X8_reaches_38 σ l0)
else
(some ((1 : Int32), σ)))) else none)))
set_option maxRecDepth 20000 in
set_option maxHeartbeats 4000000 in
theorem t_X8_reaches_17 (B : z_B p s m args meth c D cA bs RX8 cX8_reaches 3 (some .boolean)) {r : Int32} {σ' : zSt} {σ : zSt} {l0 : Nat} {s0 : Option Nat} (hf : f_X8_reaches_17 σ l0 s0 = some (r, σ')) {H : Heap} {locs : List Loc} {ls : Array Slot} (hW : z_Ok D cA bs s σ H locs) (hl : lv_has ls 3 [(0, .ref l0)])  : W p l e (zrm 2 0 0 45) s m args below meth c H locs 0 0 (MQ below (z_Qi D cA bs r σ') args s 0 0 (fun q => bs ≤ q)) (F0 m 17 ls [va_rf s0]) := by
  have hx := B.1
  have hb := B.2.1
  have hown := B.2.2.2.1
  have hts := B.2.2.2.2.1
  unfold f_X8_reaches_17 at hf
  refine z_astore_n (lv' := [(2, va_rf s0), (0, .ref l0)]) hx hb dX8_reaches_17 rfl hl (by decide) rfl (fun ls hl => ?_)
  refine z_aload_n hx hb dX8_reaches_18 rfl (lv_at hl 0 rfl) ?_
  refine z_ifnull (tgt := 38) hx hb dX8_reaches_19 (by decide) (fun hz3 => ?_) (fun a1 hz3 => ?_)
  · subst hz3
    replace hf := z_c0 hf
    exact t_X8_reaches_38 B hf hW (lv_sub hl [1] rfl) 
  · subst hz3
    replace hf := z_c1 hf
    refine lv_aload_n hx hb dX8_reaches_22 rfl (lv_at hl 0 rfl) ?_
    obtain ⟨hg2, hf⟩ := z_g hf
    refine z_getI B hW (Or.inl zf_X8_91) rfl hg2 dX8_reaches_23 ?_
    refine lv_if_eq (tgt := 38) hx hb dX8_reaches_26 (by decide) (fun hc26 => ?_) (fun hc26 => ?_)
    · replace hf := z_ip hc26 hf
      exact t_X8_reaches_38 B hf hW (lv_sub hl [1] rfl) 
    · replace hf := z_in hc26 hf
      refine lv_aload_n hx hb dX8_reaches_29 rfl (lv_at hl 0 rfl) ?_
      refine z_getI B hW (Or.inl zf_X8_69) rfl hg2 dX8_reaches_30 ?_
      refine lv_if_eq (tgt := 38) hx hb dX8_reaches_33 (by decide) (fun hc33 => ?_) (fun hc33 => ?_)
      · replace hf := z_ip hc33 hf
        exact t_X8_reaches_38 B hf hW (lv_sub hl [1] rfl) 
      · replace hf := z_in hc33 hf
        refine lv_iconst (v := (1 : Int32)) hx hb dX8_reaches_36 (by decide) ?_
        obtain ⟨rfl, rfl⟩ := z_e2 hf
        exact z_rz (by decide) B hW dX8_reaches_37 (Nat.le_of_ble_eq_true rfl) (Nat.le_of_ble_eq_true rfl)
set_option maxRecDepth 100000 in
def f_X8_reaches (σ : zSt) (l0 : Nat) (l1 : Int32) : Option (Int32 × zSt) :=
(if z_ob σ l0 2 then (zb2 (f_X2_transmit σ l0 (1 : Int32)) (fun r3 σ4 => (if r3 = 0 then
(f_X8_reaches_17 σ4 l0 none)
else
(if z_ob σ4 l0 2 then (zb (f_X2_stationWith σ4 l0 l1) (fun r7 => (f_X8_reaches_17 σ4 l0 r7))) else none)))) else none)
set_option maxRecDepth 20000 in
set_option maxHeartbeats 4000000 in
theorem K_X8_reaches {σ : zSt} {l0 : Nat} {l1 : Int32} {r : Int32} {σ' : zSt} (hf : f_X8_reaches σ l0 l1 = some (r, σ')) : z_M l D cA bs yX8_reaches cX8_reaches 3 (some .boolean) 2 45 0 0 [.ref l0, .int l1] σ (z_Qi D cA bs r σ') := by
  refine z_met (own := RX8) (lv := [(0, .ref l0), (1, .int l1)]) (by decide) rfl (Nat.le_of_ble_eq_true rfl) rfl (fun p e s m below meth c ls B hnm hW hl => ?_)
  have hx := B.1
  have hb := B.2.1
  have hown := B.2.2.2.1
  have hts := B.2.2.2.2.1
  unfold f_X8_reaches at hf
  refine lv_aload_n hx hb dX8_reaches_0 rfl (lv_at hl 0 rfl) ?_
  refine lv_iconst (v := (1 : Int32)) hx hb dX8_reaches_1 (by decide) ?_
  obtain ⟨hg1, hf⟩ := z_g hf
  obtain ⟨r3, σ4, hq2, hf⟩ := z_b2 hf
  refine z_ci hW (z_runV (As := [.int (1 : Int32)]) (rest := []) B hW zv_X8_132 (K_X2_transmit hq2) hg1 rfl rfl rfl (Nat.le_of_ble_eq_true rfl) hl.1 ⟨Nat.le_of_ble_eq_true rfl, Nat.le_of_ble_eq_true rfl⟩ dX8_reaches_2 ⟨Nat.le_of_ble_eq_true rfl, Nat.le_of_ble_eq_true rfl⟩) (fun H locs hW => ?_)
  refine lv_if_eq (tgt := 16) hx hb dX8_reaches_5 (by decide) (fun hc5 => ?_) (fun hc5 => ?_)
  · replace hf := z_ip hc5 hf
    refine lv_null hx hb dX8_reaches_16 ?_
    exact t_X8_reaches_17 B hf hW (lv_sub hl [0] rfl) 
  · replace hf := z_in hc5 hf
    refine lv_aload_n hx hb dX8_reaches_8 rfl (lv_at hl 0 rfl) ?_
    refine lv_iload_n hx hb dX8_reaches_9 rfl (lv_at hl 1 rfl) ?_
    obtain ⟨hg5, hf⟩ := z_g hf
    obtain ⟨r7, hq6, hf⟩ := z_b hf
    refine z_cq hW (z_runV (As := [.int l1]) (rest := []) B hW zv_X8_15 (K_X2_stationWith hq6) hg5 rfl rfl rfl (Nat.le_of_ble_eq_true rfl) hl.1 ⟨Nat.le_of_ble_eq_true rfl, Nat.le_of_ble_eq_true rfl⟩ dX8_reaches_10 ⟨Nat.le_of_ble_eq_true rfl, Nat.le_of_ble_eq_true rfl⟩) (fun H locs hW => ?_)
    refine lv_goto (tgt := 17) hx hb dX8_reaches_13 (by decide) ?_
    exact t_X8_reaches_17 B hf hW (lv_sub hl [0] rfl) 
set_option maxRecDepth 100000 in
def b_X8_passToNext_2 (l0 : Nat) (l1 : Nat) (σ : zSt) (l2 : Int32) : Option ((zSt × Int32) ⊕ (Int32 × zSt)) :=
(if (3 : Int32) ≤ l2 then
(zex (some ((0 : Int32), σ)))
else
(if z_ob σ l1 6 then (zb2 (f_X8_reaches σ l0 (z_I σ l1 3)) (fun r4 σ5 => (if r4 = 0 then
(some (.inl (σ5, (l2 + (1 : Int32)))))
else
(zex (if z_ob σ5 l1 6 then (if z_ob σ5 l0 2 then (zl (z_pI σ5 l0 10 (z_I σ5 l1 3)) (fun σ8 => (some ((1 : Int32), σ8)))) else none) else none))))) else none))
set_option maxRecDepth 100000 in
def f_X8_passToNext_2 (l0 : Nat) (l1 : Nat) (σ : zSt) (l2 : Int32) : Option (Int32 × zSt) := zloop (fun (t : zSt × Int32) => b_X8_passToNext_2 l0 l1 t.1 t.2) zN (σ, l2)
set_option maxRecDepth 20000 in
set_option maxHeartbeats 4000000 in
theorem tb_X8_passToNext_2 (B : z_B p s m args meth c D cA bs RX8 cX8_passToNext 3 (some .boolean)) {r : Int32} {σ' : zSt} {o1 : (zSt × Int32) ⊕ (Int32 × zSt)} {l0 : Nat} {l1 : Nat} {σ : zSt} {l2 : Int32} (hf : b_X8_passToNext_2 l0 l1 σ l2 = some o1) {H : Heap} {locs : List Loc} {ls : Array Slot} (hW : z_Ok D cA bs s σ H locs) (hl : lv_has ls 3 [(0, .ref l0), (1, .ref l1), (2, .int l2)]) (hk1 : ∀ (σ : zSt) (l2 : Int32), o1 = .inl (σ, l2) → ∀ {H : Heap} {locs : List Loc} {ls : Array Slot}, z_Ok D cA bs s σ H locs → lv_has ls 3 [(0, .ref l0), (1, .ref l1), (2, .int l2)] → W p l e (zrm 3 0 0 67) s m args below meth c H locs 0 0 (MQ below (z_Qi D cA bs r σ') args s 0 0 (fun q => bs ≤ q)) (F0 m 2 ls [])) (hr1 : ∀ x, o1 = .inr x → x = (r, σ')) : W p l e (zrm 3 0 0 67) s m args below meth c H locs 0 0 (MQ below (z_Qi D cA bs r σ') args s 0 0 (fun q => bs ≤ q)) (F0 m 2 ls []) := by
  have hx := B.1
  have hb := B.2.1
  have hown := B.2.2.2.1
  have hts := B.2.2.2.2.1
  unfold b_X8_passToNext_2 at hf
  refine lv_iload_n hx hb dX8_passToNext_2 rfl (lv_at hl 2 rfl) ?_
  refine lv_iconst (v := (3 : Int32)) hx hb dX8_passToNext_3 (by decide) ?_
  refine lv_icmp_ge (tgt := 34) hx hb dX8_passToNext_4 (by decide) (fun hc4 => ?_) (fun hc4 => ?_)
  · replace hf := z_ip hc4 hf
    obtain ⟨w1, hf, ho1⟩ := z_x hf
    obtain rfl := hr1 _ ho1
    refine lv_iconst (v := (0 : Int32)) hx hb dX8_passToNext_34 (by decide) ?_
    obtain ⟨rfl, rfl⟩ := z_e2 hf
    exact z_rz (by decide) B hW dX8_passToNext_35 (Nat.le_of_ble_eq_true rfl) (Nat.le_of_ble_eq_true rfl)
  · replace hf := z_in hc4 hf
    refine lv_aload_n hx hb dX8_passToNext_7 rfl (lv_at hl 0 rfl) ?_
    refine lv_aload_n hx hb dX8_passToNext_8 rfl (lv_at hl 1 rfl) ?_
    obtain ⟨hg2, hf⟩ := z_g hf
    refine z_getI B hW (Or.inl zf_X8_73) rfl hg2 dX8_passToNext_9 ?_
    obtain ⟨r4, σ5, hq3, hf⟩ := z_b2 hf
    refine z_ci hW (z_runS (As := [.ref l0, .int (z_I σ l1 3)]) (rest := []) B hW zv_X8_159 (K_X8_reaches hq3) rfl rfl (Nat.le_of_ble_eq_true rfl) hl.1 ⟨Nat.le_of_ble_eq_true rfl, Nat.le_of_ble_eq_true rfl⟩ dX8_passToNext_12 ⟨Nat.le_of_ble_eq_true rfl, Nat.le_of_ble_eq_true rfl⟩) (fun H locs hW => ?_)
    refine lv_if_eq (tgt := 28) hx hb dX8_passToNext_15 (by decide) (fun hc15 => ?_) (fun hc15 => ?_)
    · replace hf := z_ip hc15 hf
      refine lv_iinc (v := (l2 + (1 : Int32))) (lv' := [(2, .int (l2 + (1 : Int32))), (0, .ref l0), (1, .ref l1)]) hx hb dX8_passToNext_28 hl (k := 2) rfl rfl (by decide) rfl (fun ls hl => ?_)
      refine lv_goto (tgt := 2) hx hb dX8_passToNext_31 (by decide) ?_
      exact hk1 _ _ (Option.some.inj hf).symm hW (lv_sub hl [1, 2, 0] rfl)
    · replace hf := z_in hc15 hf
      obtain ⟨w1, hf, ho10⟩ := z_x hf
      obtain rfl := hr1 _ ho10
      refine lv_aload_n hx hb dX8_passToNext_18 rfl (lv_at hl 0 rfl) ?_
      refine lv_aload_n hx hb dX8_passToNext_19 rfl (lv_at hl 1 rfl) ?_
      obtain ⟨hg6, hf⟩ := z_g hf
      refine z_getI B hW (Or.inl zf_X8_73) rfl hg6 dX8_passToNext_20 ?_
      obtain ⟨hg7, hf⟩ := z_g hf
      obtain ⟨σ8, hs9, hf⟩ := z_l hf
      refine z_putI B hW zf_X8_9 hg7 rfl hs9 dX8_passToNext_23 (fun H locs hW => ?_)
      refine lv_iconst (v := (1 : Int32)) hx hb dX8_passToNext_26 (by decide) ?_
      obtain ⟨rfl, rfl⟩ := z_e2 hf
      exact z_rz (by decide) B hW dX8_passToNext_27 (Nat.le_of_ble_eq_true rfl) (Nat.le_of_ble_eq_true rfl)
set_option maxRecDepth 20000 in
set_option maxHeartbeats 4000000 in
theorem t_X8_passToNext_2 (B : z_B p s m args meth c D cA bs RX8 cX8_passToNext 3 (some .boolean)) {r : Int32} {σ' : zSt} {l0 : Nat} {l1 : Nat}  : ∀ (n : Nat) {σ : zSt} {l2 : Int32}, zloop (fun (t : zSt × Int32) => b_X8_passToNext_2 l0 l1 t.1 t.2) n (σ, l2) = some (r, σ') → ∀ {H : Heap} {locs : List Loc} {ls : Array Slot}, z_Ok D cA bs s σ H locs → lv_has ls 3 [(0, .ref l0), (1, .ref l1), (2, .int l2)] → W p l e (zrm 3 0 0 67) s m args below meth c H locs 0 0 (MQ below (z_Qi D cA bs r σ') args s 0 0 (fun q => bs ≤ q)) (F0 m 2 ls []) := by
  intro n
  induction n with
  | zero => intro σ l2 hf; cases hf
  | succ n ih =>
    intro σ l2 hf H locs ls hW hl
    obtain ⟨o1, hb1, hf⟩ := z_lp hf
    refine tb_X8_passToNext_2 B hb1 hW hl  (fun σ l2 he H locs ls hW hl => ?_) (fun x he => ?_)
    · rcases hf with ⟨t, ht, hf⟩ | hf
      · rw [he] at ht
        cases ht
        exact ih hf hW hl
      · rw [he] at hf
        cases hf
    · rcases hf with ⟨t, ht, hf⟩ | hf
      · rw [he] at ht
        cases ht
      · rw [he] at hf
        exact Sum.inr.inj hf
set_option maxRecDepth 100000 in
def f_X8_passToNext (σ : zSt) (l0 : Nat) (l1 : Nat) : Option (Int32 × zSt) :=
(f_X8_passToNext_2 l0 l1 σ (0 : Int32))
set_option maxRecDepth 20000 in
set_option maxHeartbeats 4000000 in
theorem K_X8_passToNext {σ : zSt} {l0 : Nat} {l1 : Nat} {r : Int32} {σ' : zSt} (hf : f_X8_passToNext σ l0 l1 = some (r, σ')) : z_M l D cA bs yX8_passToNext cX8_passToNext 3 (some .boolean) 3 67 0 0 [.ref l0, .ref l1] σ (z_Qi D cA bs r σ') := by
  refine z_met (own := RX8) (lv := [(0, .ref l0), (1, .ref l1)]) (by decide) rfl (Nat.le_of_ble_eq_true rfl) rfl (fun p e s m below meth c ls B hnm hW hl => ?_)
  have hx := B.1
  have hb := B.2.1
  have hown := B.2.2.2.1
  have hts := B.2.2.2.2.1
  unfold f_X8_passToNext at hf
  refine lv_iconst (v := (0 : Int32)) hx hb dX8_passToNext_0 (by decide) ?_
  refine lv_istore_n (lv' := [(2, .int (0 : Int32)), (0, .ref l0), (1, .ref l1)]) hx hb dX8_passToNext_1 rfl hl (by decide) rfl (fun ls hl => ?_)
  unfold f_X8_passToNext_2 at hf
  exact t_X8_passToNext_2 B  zN hf hW (lv_sub hl [1, 2, 0] rfl)
set_option maxRecDepth 100000 in
def f_X8_dropSilent_43 (σ : zSt) : Option (zSt) :=
(some σ)
set_option maxRecDepth 20000 in
set_option maxHeartbeats 4000000 in
theorem t_X8_dropSilent_43 (B : z_B p s m args meth c D cA bs RX8 cX8_dropSilent 3 none)  {σ' : zSt} {σ : zSt} (hf : f_X8_dropSilent_43 σ = some σ') {H : Heap} {locs : List Loc} {ls : Array Slot} (hW : z_Ok D cA bs s σ H locs) (hl : lv_has ls 3 [])  : W p l e (zrm 1 0 0 23) s m args below meth c H locs 0 0 (MQ below (z_Qv D cA bs σ') args s 0 0 (fun q => bs ≤ q)) (F0 m 43 ls []) := by
  have hx := B.1
  have hb := B.2.1
  have hown := B.2.2.2.1
  have hts := B.2.2.2.2.1
  unfold f_X8_dropSilent_43 at hf
  obtain rfl := z_e1 hf
  exact z_rv B hW dX8_dropSilent_43 (Nat.le_of_ble_eq_true rfl) (Nat.le_of_ble_eq_true rfl)
set_option maxRecDepth 100000 in
def f_X8_dropSilent (σ : zSt) (l0 : Nat) (l1 : Nat) : Option (zSt) :=
(if z_ob σ l1 6 then (if z_ob σ l0 2 then (zb (f_X2_stationWith σ l0 (z_I σ l1 3)) (fun r4 => (zc r4
(f_X8_dropSilent_43 σ)
(fun a5 => (if (some a5) = (some l1) then
(f_X8_dropSilent_43 σ)
else
(if z_ob σ a5 6 then (if (z_I σ a5 2) = 0 then
(f_X8_dropSilent_43 σ)
else
(zl (z_pI σ a5 2 (0 : Int32)) (fun σ7 => (if z_ob σ7 l0 2 then (zc (z_R σ7 l0 3) none (fun q10 => (if z_ob σ7 q10 0 then (zl (z_pI σ7 q10 5 ((z_I σ7 q10 5) + (1 : Int32))) (fun σ13 => (f_X8_dropSilent_43 σ13))) else none))) else none)))) else none)))))) else none) else none)
set_option maxRecDepth 20000 in
set_option maxHeartbeats 4000000 in
theorem K_X8_dropSilent {σ : zSt} {l0 : Nat} {l1 : Nat}  {σ' : zSt} (hf : f_X8_dropSilent σ l0 l1 = some σ') : z_M l D cA bs yX8_dropSilent cX8_dropSilent 3 none 1 23 0 0 [.ref l0, .ref l1] σ (z_Qv D cA bs σ') := by
  refine z_met (own := RX8) (lv := [(0, .ref l0), (1, .ref l1)]) (by decide) rfl (Nat.le_of_ble_eq_true rfl) rfl (fun p e s m below meth c ls B hnm hW hl => ?_)
  have hx := B.1
  have hb := B.2.1
  have hown := B.2.2.2.1
  have hts := B.2.2.2.2.1
  unfold f_X8_dropSilent at hf
  refine lv_aload_n hx hb dX8_dropSilent_0 rfl (lv_at hl 0 rfl) ?_
  refine lv_aload_n hx hb dX8_dropSilent_1 rfl (lv_at hl 1 rfl) ?_
  obtain ⟨hg1, hf⟩ := z_g hf
  refine z_getI B hW (Or.inl zf_X8_73) rfl hg1 dX8_dropSilent_2 ?_
  obtain ⟨hg2, hf⟩ := z_g hf
  obtain ⟨r4, hq3, hf⟩ := z_b hf
  refine z_cq hW (z_runV (As := [.int (z_I σ l1 3)]) (rest := []) B hW zv_X8_15 (K_X2_stationWith hq3) hg2 rfl rfl rfl (Nat.le_of_ble_eq_true rfl) hl.1 ⟨Nat.le_of_ble_eq_true rfl, Nat.le_of_ble_eq_true rfl⟩ dX8_dropSilent_5 ⟨Nat.le_of_ble_eq_true rfl, Nat.le_of_ble_eq_true rfl⟩) (fun H locs hW => ?_)
  refine z_astore_n (lv' := [(2, va_rf r4), (0, .ref l0), (1, .ref l1)]) hx hb dX8_dropSilent_8 rfl hl (by decide) rfl (fun ls hl => ?_)
  refine z_aload_n hx hb dX8_dropSilent_9 rfl (lv_at hl 0 rfl) ?_
  refine z_ifnull (tgt := 43) hx hb dX8_dropSilent_10 (by decide) (fun hz15 => ?_) (fun a5 hz15 => ?_)
  · subst hz15
    replace hf := z_c0 hf
    exact t_X8_dropSilent_43 B hf hW (lv_sub hl [] rfl) 
  · subst hz15
    replace hf := z_c1 hf
    refine lv_aload_n hx hb dX8_dropSilent_13 rfl (lv_at hl 0 rfl) ?_
    refine lv_aload_n hx hb dX8_dropSilent_14 rfl (lv_at hl 2 rfl) ?_
    refine lv_acmp_eq (tgt := 43) (rx := (some a5)) (ry := (some l1)) hx hb dX8_dropSilent_15 (by decide) (fun hc15 => ?_) (fun hc15 => ?_)
    · replace hf := z_ip hc15 hf
      exact t_X8_dropSilent_43 B hf hW (lv_sub hl [] rfl) 
    · replace hf := z_in hc15 hf
      refine lv_aload_n hx hb dX8_dropSilent_18 rfl (lv_at hl 0 rfl) ?_
      obtain ⟨hg6, hf⟩ := z_g hf
      refine z_getI B hW (Or.inl zf_X8_69) rfl hg6 dX8_dropSilent_19 ?_
      refine lv_if_eq (tgt := 43) hx hb dX8_dropSilent_22 (by decide) (fun hc22 => ?_) (fun hc22 => ?_)
      · replace hf := z_ip hc22 hf
        exact t_X8_dropSilent_43 B hf hW (lv_sub hl [] rfl) 
      · replace hf := z_in hc22 hf
        refine lv_aload_n hx hb dX8_dropSilent_25 rfl (lv_at hl 0 rfl) ?_
        refine lv_iconst (v := (0 : Int32)) hx hb dX8_dropSilent_26 (by decide) ?_
        obtain ⟨σ7, hs8, hf⟩ := z_l hf
        refine z_putI B hW zf_X8_69 hg6 (by decide) hs8 dX8_dropSilent_27 (fun H locs hW => ?_)
        refine lv_aload_n hx hb dX8_dropSilent_30 rfl (lv_at hl 1 rfl) ?_
        obtain ⟨hg9, hf⟩ := z_g hf
        obtain ⟨q10, hv11, hf⟩ := z_nn hf
        refine z_getN B hW (Or.inr zf_X8_76) rfl hg9 hv11 dX8_dropSilent_31 ?_
        refine lv_dup hx hb dX8_dropSilent_34 rfl ?_
        obtain ⟨hg12, hf⟩ := z_g hf
        refine z_getI B hW (Or.inl zf_X8_163) rfl hg12 dX8_dropSilent_35 ?_
        refine lv_iconst (v := (1 : Int32)) hx hb dX8_dropSilent_38 (by decide) ?_
        refine lv_iadd hx hb dX8_dropSilent_39 ?_
        obtain ⟨σ13, hs14, hf⟩ := z_l hf
        refine z_putI B hW zf_X8_163 hg12 rfl hs14 dX8_dropSilent_40 (fun H locs hW => ?_)
        exact t_X8_dropSilent_43 B hf hW (lv_sub hl [] rfl) 
set_option maxRecDepth 100000 in
def f_X8_askOthers_54 (σ : zSt) (l1 : Nat) : Option (zSt) :=
(if z_ob σ l1 6 then (zl (z_pI σ l1 3 (z_I σ l1 0)) (fun σ2 => (some σ2))) else none)
set_option maxRecDepth 20000 in
set_option maxHeartbeats 4000000 in
theorem t_X8_askOthers_54 (B : z_B p s m args meth c D cA bs RX8 cX8_askOthers 4 none)  {σ' : zSt} {σ : zSt} {l1 : Nat} (hf : f_X8_askOthers_54 σ l1 = some σ') {H : Heap} {locs : List Loc} {ls : Array Slot} (hW : z_Ok D cA bs s σ H locs) (hl : lv_has ls 4 [(1, .ref l1)])  : W p l e (zrm 3 0 0 67) s m args below meth c H locs 0 0 (MQ below (z_Qv D cA bs σ') args s 0 0 (fun q => bs ≤ q)) (F0 m 54 ls []) := by
  have hx := B.1
  have hb := B.2.1
  have hown := B.2.2.2.1
  have hts := B.2.2.2.2.1
  unfold f_X8_askOthers_54 at hf
  refine lv_aload_n hx hb dX8_askOthers_54 rfl (lv_at hl 0 rfl) ?_
  refine lv_aload_n hx hb dX8_askOthers_55 rfl (lv_at hl 0 rfl) ?_
  obtain ⟨hg1, hf⟩ := z_g hf
  refine z_getI B hW (Or.inl zf_X8_53) rfl hg1 dX8_askOthers_56 ?_
  obtain ⟨σ2, hs3, hf⟩ := z_l hf
  refine z_putI B hW zf_X8_73 hg1 rfl hs3 dX8_askOthers_59 (fun H locs hW => ?_)
  obtain rfl := z_e1 hf
  exact z_rv B hW dX8_askOthers_62 (Nat.le_of_ble_eq_true rfl) (Nat.le_of_ble_eq_true rfl)
set_option maxRecDepth 100000 in
def b_X8_askOthers_10 (l0 : Nat) (l1 : Nat) (σ : zSt) (l2 : Int32) (l3 : Int32) : Option ((zSt × Int32 × Int32) ⊕ (zSt)) :=
(if (31 : Int32) < l3 then
(zex (f_X8_askOthers_54 σ l1))
else
(if z_ob σ l1 6 then (if l2 = (z_I σ l1 0) then
(zex (f_X8_askOthers_54 σ l1))
else
(zb2 (f_X8_reaches σ l0 l2) (fun r5 σ6 => (if r5 = 0 then
(zb (f_X9_addressBehind σ6 l2) (fun r8 => (some (.inl (σ6, r8, (l3 + (1 : Int32)))))))
else
(zex (if z_ob σ6 l1 6 then (zl (z_pI σ6 l1 3 l2) (fun σ10 => (if z_ob σ10 l0 2 then (zl (z_pI σ10 l0 10 l2) (fun σ13 => (some σ13))) else none))) else none)))))) else none))
set_option maxRecDepth 100000 in
def f_X8_askOthers_10 (l0 : Nat) (l1 : Nat) (σ : zSt) (l2 : Int32) (l3 : Int32) : Option (zSt) := zloop (fun (t : zSt × Int32 × Int32) => b_X8_askOthers_10 l0 l1 t.1 t.2.1 t.2.2) zN (σ, l2, l3)
set_option maxRecDepth 20000 in
set_option maxHeartbeats 4000000 in
theorem tb_X8_askOthers_10 (B : z_B p s m args meth c D cA bs RX8 cX8_askOthers 4 none)  {σ' : zSt} {o1 : (zSt × Int32 × Int32) ⊕ (zSt)} {l0 : Nat} {l1 : Nat} {σ : zSt} {l2 : Int32} {l3 : Int32} (hf : b_X8_askOthers_10 l0 l1 σ l2 l3 = some o1) {H : Heap} {locs : List Loc} {ls : Array Slot} (hW : z_Ok D cA bs s σ H locs) (hl : lv_has ls 4 [(0, .ref l0), (1, .ref l1), (2, .int l2), (3, .int l3)]) (hk1 : ∀ (σ : zSt) (l2 : Int32) (l3 : Int32), o1 = .inl (σ, l2, l3) → ∀ {H : Heap} {locs : List Loc} {ls : Array Slot}, z_Ok D cA bs s σ H locs → lv_has ls 4 [(0, .ref l0), (1, .ref l1), (2, .int l2), (3, .int l3)] → W p l e (zrm 3 0 0 67) s m args below meth c H locs 0 0 (MQ below (z_Qv D cA bs σ') args s 0 0 (fun q => bs ≤ q)) (F0 m 10 ls [])) (hr1 : ∀ x, o1 = .inr x → x = σ') : W p l e (zrm 3 0 0 67) s m args below meth c H locs 0 0 (MQ below (z_Qv D cA bs σ') args s 0 0 (fun q => bs ≤ q)) (F0 m 10 ls []) := by
  have hx := B.1
  have hb := B.2.1
  have hown := B.2.2.2.1
  have hts := B.2.2.2.2.1
  unfold b_X8_askOthers_10 at hf
  refine lv_iload_n hx hb dX8_askOthers_10 rfl (lv_at hl 3 rfl) ?_
  refine lv_bipush (v := (31 : Int32)) hx hb dX8_askOthers_11 (by decide) ?_
  refine lv_icmp_gt (tgt := 54) hx hb dX8_askOthers_13 (by decide) (fun hc13 => ?_) (fun hc13 => ?_)
  · replace hf := z_ip hc13 hf
    obtain ⟨w1, hf, ho1⟩ := z_x hf
    obtain rfl := hr1 _ ho1
    exact t_X8_askOthers_54 B hf hW (lv_sub hl [1] rfl) 
  · replace hf := z_in hc13 hf
    refine lv_iload_n hx hb dX8_askOthers_16 rfl (lv_at hl 2 rfl) ?_
    refine lv_aload_n hx hb dX8_askOthers_17 rfl (lv_at hl 1 rfl) ?_
    obtain ⟨hg2, hf⟩ := z_g hf
    refine z_getI B hW (Or.inl zf_X8_53) rfl hg2 dX8_askOthers_18 ?_
    refine lv_icmp_eq (tgt := 54) hx hb dX8_askOthers_21 (by decide) (fun hc21 => ?_) (fun hc21 => ?_)
    · replace hf := z_ip hc21 hf
      obtain ⟨w1, hf, ho3⟩ := z_x hf
      obtain rfl := hr1 _ ho3
      exact t_X8_askOthers_54 B hf hW (lv_sub hl [1] rfl) 
    · replace hf := z_in hc21 hf
      refine lv_aload_n hx hb dX8_askOthers_24 rfl (lv_at hl 0 rfl) ?_
      refine lv_iload_n hx hb dX8_askOthers_25 rfl (lv_at hl 2 rfl) ?_
      obtain ⟨r5, σ6, hq4, hf⟩ := z_b2 hf
      refine z_ci hW (z_runS (As := [.ref l0, .int l2]) (rest := []) B hW zv_X8_159 (K_X8_reaches hq4) rfl rfl (Nat.le_of_ble_eq_true rfl) hl.1 ⟨Nat.le_of_ble_eq_true rfl, Nat.le_of_ble_eq_true rfl⟩ dX8_askOthers_26 ⟨Nat.le_of_ble_eq_true rfl, Nat.le_of_ble_eq_true rfl⟩) (fun H locs hW => ?_)
      refine lv_if_eq (tgt := 43) hx hb dX8_askOthers_29 (by decide) (fun hc29 => ?_) (fun hc29 => ?_)
      · replace hf := z_ip hc29 hf
        refine lv_iload_n hx hb dX8_askOthers_43 rfl (lv_at hl 2 rfl) ?_
        obtain ⟨r8, hq7, hf⟩ := z_b hf
        refine z_ci hW (z_runSN (As := [.int l2]) (rest := []) B hW zv_X8_149 (K_X9_addressBehind hq7) rfl rfl (Nat.le_of_ble_eq_true rfl) hl.1 ⟨Nat.le_of_ble_eq_true rfl, Nat.le_of_ble_eq_true rfl⟩ dX8_askOthers_44 ⟨Nat.le_of_ble_eq_true rfl, Nat.le_of_ble_eq_true rfl⟩) (fun H locs hW => ?_)
        refine lv_istore_n (lv' := [(2, .int r8), (0, .ref l0), (1, .ref l1), (3, .int l3)]) hx hb dX8_askOthers_47 rfl hl (by decide) rfl (fun ls hl => ?_)
        refine lv_iinc (v := (l3 + (1 : Int32))) (lv' := [(3, .int (l3 + (1 : Int32))), (2, .int r8), (0, .ref l0), (1, .ref l1)]) hx hb dX8_askOthers_48 hl (k := 3) rfl rfl (by decide) rfl (fun ls hl => ?_)
        refine lv_goto (tgt := 10) hx hb dX8_askOthers_51 (by decide) ?_
        exact hk1 _ _ _ (Option.some.inj hf).symm hW (lv_sub hl [2, 3, 1, 0] rfl)
      · replace hf := z_in hc29 hf
        obtain ⟨w1, hf, ho15⟩ := z_x hf
        obtain rfl := hr1 _ ho15
        refine lv_aload_n hx hb dX8_askOthers_32 rfl (lv_at hl 1 rfl) ?_
        refine lv_iload_n hx hb dX8_askOthers_33 rfl (lv_at hl 2 rfl) ?_
        obtain ⟨hg9, hf⟩ := z_g hf
        obtain ⟨σ10, hs11, hf⟩ := z_l hf
        refine z_putI B hW zf_X8_73 hg9 rfl hs11 dX8_askOthers_34 (fun H locs hW => ?_)
        refine lv_aload_n hx hb dX8_askOthers_37 rfl (lv_at hl 0 rfl) ?_
        refine lv_iload_n hx hb dX8_askOthers_38 rfl (lv_at hl 2 rfl) ?_
        obtain ⟨hg12, hf⟩ := z_g hf
        obtain ⟨σ13, hs14, hf⟩ := z_l hf
        refine z_putI B hW zf_X8_9 hg12 rfl hs14 dX8_askOthers_39 (fun H locs hW => ?_)
        obtain rfl := z_e1 hf
        exact z_rv B hW dX8_askOthers_42 (Nat.le_of_ble_eq_true rfl) (Nat.le_of_ble_eq_true rfl)
set_option maxRecDepth 20000 in
set_option maxHeartbeats 4000000 in
theorem t_X8_askOthers_10 (B : z_B p s m args meth c D cA bs RX8 cX8_askOthers 4 none)  {σ' : zSt} {l0 : Nat} {l1 : Nat}  : ∀ (n : Nat) {σ : zSt} {l2 : Int32} {l3 : Int32}, zloop (fun (t : zSt × Int32 × Int32) => b_X8_askOthers_10 l0 l1 t.1 t.2.1 t.2.2) n (σ, l2, l3) = some σ' → ∀ {H : Heap} {locs : List Loc} {ls : Array Slot}, z_Ok D cA bs s σ H locs → lv_has ls 4 [(0, .ref l0), (1, .ref l1), (2, .int l2), (3, .int l3)] → W p l e (zrm 3 0 0 67) s m args below meth c H locs 0 0 (MQ below (z_Qv D cA bs σ') args s 0 0 (fun q => bs ≤ q)) (F0 m 10 ls []) := by
  intro n
  induction n with
  | zero => intro σ l2 l3 hf; cases hf
  | succ n ih =>
    intro σ l2 l3 hf H locs ls hW hl
    obtain ⟨o1, hb1, hf⟩ := z_lp hf
    refine tb_X8_askOthers_10 B hb1 hW hl  (fun σ l2 l3 he H locs ls hW hl => ?_) (fun x he => ?_)
    · rcases hf with ⟨t, ht, hf⟩ | hf
      · rw [he] at ht
        cases ht
        exact ih hf hW hl
      · rw [he] at hf
        cases hf
    · rcases hf with ⟨t, ht, hf⟩ | hf
      · rw [he] at ht
        cases ht
      · rw [he] at hf
        exact Sum.inr.inj hf
set_option maxRecDepth 100000 in
def f_X8_askOthers (σ : zSt) (l0 : Nat) (l1 : Nat) : Option (zSt) :=
(if z_ob σ l1 6 then (zb (f_X9_addressBehind σ (z_I σ l1 3)) (fun r3 => (f_X8_askOthers_10 l0 l1 σ r3 (0 : Int32)))) else none)
set_option maxRecDepth 20000 in
set_option maxHeartbeats 4000000 in
theorem K_X8_askOthers {σ : zSt} {l0 : Nat} {l1 : Nat}  {σ' : zSt} (hf : f_X8_askOthers σ l0 l1 = some σ') : z_M l D cA bs yX8_askOthers cX8_askOthers 4 none 3 67 0 0 [.ref l0, .ref l1] σ (z_Qv D cA bs σ') := by
  refine z_met (own := RX8) (lv := [(0, .ref l0), (1, .ref l1)]) (by decide) rfl (Nat.le_of_ble_eq_true rfl) rfl (fun p e s m below meth c ls B hnm hW hl => ?_)
  have hx := B.1
  have hb := B.2.1
  have hown := B.2.2.2.1
  have hts := B.2.2.2.2.1
  unfold f_X8_askOthers at hf
  refine lv_aload_n hx hb dX8_askOthers_0 rfl (lv_at hl 1 rfl) ?_
  obtain ⟨hg1, hf⟩ := z_g hf
  refine z_getI B hW (Or.inl zf_X8_73) rfl hg1 dX8_askOthers_1 ?_
  obtain ⟨r3, hq2, hf⟩ := z_b hf
  refine z_ci hW (z_runSN (As := [.int (z_I σ l1 3)]) (rest := []) B hW zv_X8_149 (K_X9_addressBehind hq2) rfl rfl (Nat.le_of_ble_eq_true rfl) hl.1 ⟨Nat.le_of_ble_eq_true rfl, Nat.le_of_ble_eq_true rfl⟩ dX8_askOthers_4 ⟨Nat.le_of_ble_eq_true rfl, Nat.le_of_ble_eq_true rfl⟩) (fun H locs hW => ?_)
  refine lv_istore_n (lv' := [(2, .int r3), (0, .ref l0), (1, .ref l1)]) hx hb dX8_askOthers_7 rfl hl (by decide) rfl (fun ls hl => ?_)
  refine lv_iconst (v := (0 : Int32)) hx hb dX8_askOthers_8 (by decide) ?_
  refine lv_istore_n (lv' := [(3, .int (0 : Int32)), (2, .int r3), (0, .ref l0), (1, .ref l1)]) hx hb dX8_askOthers_9 rfl hl (by decide) rfl (fun ls hl => ?_)
  unfold f_X8_askOthers_10 at hf
  exact t_X8_askOthers_10 B  zN hf hW (lv_sub hl [2, 3, 1, 0] rfl)
set_option maxRecDepth 100000 in
def f_X8_makeVisit_70 (σ : zSt) (l0 : Nat) (l1 : Nat) (l2 : Int32) (l3 : Int32) (l4 : Int32) : Option (zSt) :=
(if z_ob σ l1 6 then (if z_ob σ l0 2 then (zb (f_X2_logVisit σ l0 l2 (z_I σ l1 0) l3 l4) (fun σ4 => (some σ4))) else none) else none)
set_option maxRecDepth 20000 in
set_option maxHeartbeats 4000000 in
theorem t_X8_makeVisit_70 (B : z_B p s m args meth c D cA bs RX8 cX8_makeVisit 5 none)  {σ' : zSt} {σ : zSt} {l0 : Nat} {l1 : Nat} {l2 : Int32} {l3 : Int32} {l4 : Int32} (hf : f_X8_makeVisit_70 σ l0 l1 l2 l3 l4 = some σ') {H : Heap} {locs : List Loc} {ls : Array Slot} (hW : z_Ok D cA bs s σ H locs) (hl : lv_has ls 5 [(0, .ref l0), (1, .ref l1), (2, .int l2), (3, .int l3), (4, .int l4)])  : W p l e (zrm 4 0 0 96) s m args below meth c H locs 0 0 (MQ below (z_Qv D cA bs σ') args s 0 0 (fun q => bs ≤ q)) (F0 m 70 ls []) := by
  have hx := B.1
  have hb := B.2.1
  have hown := B.2.2.2.1
  have hts := B.2.2.2.2.1
  unfold f_X8_makeVisit_70 at hf
  refine lv_aload_n hx hb dX8_makeVisit_70 rfl (lv_at hl 0 rfl) ?_
  refine lv_iload_n hx hb dX8_makeVisit_71 rfl (lv_at hl 2 rfl) ?_
  refine lv_aload_n hx hb dX8_makeVisit_72 rfl (lv_at hl 1 rfl) ?_
  obtain ⟨hg1, hf⟩ := z_g hf
  refine z_getI B hW (Or.inl zf_X8_53) rfl hg1 dX8_makeVisit_73 ?_
  refine lv_iload_n hx hb dX8_makeVisit_76 rfl (lv_at hl 3 rfl) ?_
  refine lv_iload hx hb dX8_makeVisit_77 (lv_at hl 4 rfl) ?_
  obtain ⟨hg2, hf⟩ := z_g hf
  obtain ⟨σ4, hq3, hf⟩ := z_b hf
  refine z_cv hW (z_runV (As := [.int l2, .int (z_I σ l1 0), .int l3, .int l4]) (rest := []) B hW zv_X8_58 (K_X2_logVisit hq3) hg2 rfl rfl rfl (Nat.le_of_ble_eq_true rfl) hl.1 ⟨Nat.le_of_ble_eq_true rfl, Nat.le_of_ble_eq_true rfl⟩ dX8_makeVisit_79 ⟨Nat.le_of_ble_eq_true rfl, Nat.le_of_ble_eq_true rfl⟩) (fun H locs hW => ?_)
  obtain rfl := z_e1 hf
  exact z_rv B hW dX8_makeVisit_82 (Nat.le_of_ble_eq_true rfl) (Nat.le_of_ble_eq_true rfl)
set_option maxRecDepth 100000 in
def f_X8_makeVisit_18 (σ : zSt) (l0 : Nat) (l1 : Option Nat) : Option (zSt) :=
(zc l1
(some σ)
(fun a1 => (if z_ob σ l0 2 then (zl (z_I σ l0 9) (fun x3 => (zb2 (f_X8_beginVisit σ l0 a1) (fun r6 σ7 => (if z_ob σ7 l0 2 then (zb2 (f_X8_sendMessages σ7 l0 a1 ((z_I σ7 l0 6) - r6)) (fun r10 σ11 => (zb (f_X8_pollGap σ11 l0 a1) (fun σ13 => (zb2 (f_X8_passToNext σ13 l0 a1) (fun r15 σ16 => (if r15 = 0 then
(zb (f_X8_dropSilent σ16 l0 a1) (fun σ18 => (zb (f_X8_askOthers σ18 l0 a1) (fun σ20 => (f_X8_makeVisit_70 σ20 l0 a1 x3 r6 r10)))))
else
(f_X8_makeVisit_70 σ16 l0 a1 x3 r6 r10)))))))) else none))))) else none)))
set_option maxRecDepth 20000 in
set_option maxHeartbeats 4000000 in
theorem t_X8_makeVisit_18 (B : z_B p s m args meth c D cA bs RX8 cX8_makeVisit 5 none)  {σ' : zSt} {σ : zSt} {l0 : Nat} {l1 : Option Nat} (hf : f_X8_makeVisit_18 σ l0 l1 = some σ') {H : Heap} {locs : List Loc} {ls : Array Slot} (hW : z_Ok D cA bs s σ H locs) (hl : lv_has ls 5 [(0, .ref l0), (1, va_rf l1)])  : W p l e (zrm 4 0 0 96) s m args below meth c H locs 0 0 (MQ below (z_Qv D cA bs σ') args s 0 0 (fun q => bs ≤ q)) (F0 m 18 ls []) := by
  have hx := B.1
  have hb := B.2.1
  have hown := B.2.2.2.1
  have hts := B.2.2.2.2.1
  unfold f_X8_makeVisit_18 at hf
  refine z_aload_n hx hb dX8_makeVisit_18 rfl (lv_at hl 1 rfl) ?_
  refine z_ifnonnull (tgt := 23) hx hb dX8_makeVisit_19 (by decide) (fun hz21 => ?_) (fun a1 hz21 => ?_)
  · subst hz21
    replace hf := z_c0 hf
    obtain rfl := z_e1 hf
    exact z_rv B hW dX8_makeVisit_22 (Nat.le_of_ble_eq_true rfl) (Nat.le_of_ble_eq_true rfl)
  · subst hz21
    replace hf := z_c1 hf
    refine lv_aload_n hx hb dX8_makeVisit_23 rfl (lv_at hl 0 rfl) ?_
    obtain ⟨hg2, hf⟩ := z_g hf
    refine z_getI B hW (Or.inl zf_X8_25) rfl hg2 dX8_makeVisit_24 ?_
    obtain ⟨x3, hx4, hf⟩ := z_l hf
    rw [hx4]
    refine lv_istore_n (lv' := [(2, .int x3), (0, .ref l0), (1, .ref a1)]) hx hb dX8_makeVisit_27 rfl hl (by decide) rfl (fun ls hl => ?_)
    refine lv_aload_n hx hb dX8_makeVisit_28 rfl (lv_at hl 1 rfl) ?_
    refine lv_aload_n hx hb dX8_makeVisit_29 rfl (lv_at hl 2 rfl) ?_
    obtain ⟨r6, σ7, hq5, hf⟩ := z_b2 hf
    refine z_ci hW (z_runS (As := [.ref l0, .ref a1]) (rest := []) B hW zv_X8_28 (K_X8_beginVisit hq5) rfl rfl (Nat.le_of_ble_eq_true rfl) hl.1 ⟨Nat.le_of_ble_eq_true rfl, Nat.le_of_ble_eq_true rfl⟩ dX8_makeVisit_30 ⟨Nat.le_of_ble_eq_true rfl, Nat.le_of_ble_eq_true rfl⟩) (fun H locs hW => ?_)
    refine lv_istore_n (lv' := [(3, .int r6), (2, .int x3), (0, .ref l0), (1, .ref a1)]) hx hb dX8_makeVisit_33 rfl hl (by decide) rfl (fun ls hl => ?_)
    refine lv_aload_n hx hb dX8_makeVisit_34 rfl (lv_at hl 2 rfl) ?_
    refine lv_aload_n hx hb dX8_makeVisit_35 rfl (lv_at hl 3 rfl) ?_
    refine lv_aload_n hx hb dX8_makeVisit_36 rfl (lv_at hl 2 rfl) ?_
    obtain ⟨hg8, hf⟩ := z_g hf
    refine z_getI B hW (Or.inl zf_X8_32) rfl hg8 dX8_makeVisit_37 ?_
    refine lv_iload_n hx hb dX8_makeVisit_40 rfl (lv_at hl 0 rfl) ?_
    refine lv_isub hx hb dX8_makeVisit_41 ?_
    obtain ⟨r10, σ11, hq9, hf⟩ := z_b2 hf
    refine z_ci hW (z_runS (As := [.ref l0, .ref a1, .int ((z_I σ7 l0 6) - r6)]) (rest := []) B hW zv_X8_35 (K_X8_sendMessages hq9) rfl rfl (Nat.le_of_ble_eq_true rfl) hl.1 ⟨Nat.le_of_ble_eq_true rfl, Nat.le_of_ble_eq_true rfl⟩ dX8_makeVisit_42 ⟨Nat.le_of_ble_eq_true rfl, Nat.le_of_ble_eq_true rfl⟩) (fun H locs hW => ?_)
    refine lv_istore (lv' := [(4, .int r10), (3, .int r6), (2, .int x3), (0, .ref l0), (1, .ref a1)]) hx hb dX8_makeVisit_45 hl (by decide) rfl (fun ls hl => ?_)
    refine lv_aload_n hx hb dX8_makeVisit_47 rfl (lv_at hl 3 rfl) ?_
    refine lv_aload_n hx hb dX8_makeVisit_48 rfl (lv_at hl 4 rfl) ?_
    obtain ⟨σ13, hq12, hf⟩ := z_b hf
    refine z_cv hW (z_runS (As := [.ref l0, .ref a1]) (rest := []) B hW zv_X8_39 (K_X8_pollGap hq12) rfl rfl (Nat.le_of_ble_eq_true rfl) hl.1 ⟨Nat.le_of_ble_eq_true rfl, Nat.le_of_ble_eq_true rfl⟩ dX8_makeVisit_49 ⟨Nat.le_of_ble_eq_true rfl, Nat.le_of_ble_eq_true rfl⟩) (fun H locs hW => ?_)
    refine lv_aload_n hx hb dX8_makeVisit_52 rfl (lv_at hl 3 rfl) ?_
    refine lv_aload_n hx hb dX8_makeVisit_53 rfl (lv_at hl 4 rfl) ?_
    obtain ⟨r15, σ16, hq14, hf⟩ := z_b2 hf
    refine z_ci hW (z_runS (As := [.ref l0, .ref a1]) (rest := []) B hW zv_X8_43 (K_X8_passToNext hq14) rfl rfl (Nat.le_of_ble_eq_true rfl) hl.1 ⟨Nat.le_of_ble_eq_true rfl, Nat.le_of_ble_eq_true rfl⟩ dX8_makeVisit_54 ⟨Nat.le_of_ble_eq_true rfl, Nat.le_of_ble_eq_true rfl⟩) (fun H locs hW => ?_)
    refine lv_if_ne (tgt := 70) hx hb dX8_makeVisit_57 (by decide) (fun hc57 => ?_) (fun hc57 => ?_)
    · replace hf := z_in hc57 hf
      exact t_X8_makeVisit_70 B hf hW (lv_sub hl [3, 4, 2, 1, 0] rfl) 
    · replace hf := z_ip hc57 hf
      refine lv_aload_n hx hb dX8_makeVisit_60 rfl (lv_at hl 3 rfl) ?_
      refine lv_aload_n hx hb dX8_makeVisit_61 rfl (lv_at hl 4 rfl) ?_
      obtain ⟨σ18, hq17, hf⟩ := z_b hf
      refine z_cv hW (z_runS (As := [.ref l0, .ref a1]) (rest := []) B hW zv_X8_47 (K_X8_dropSilent hq17) rfl rfl (Nat.le_of_ble_eq_true rfl) hl.1 ⟨Nat.le_of_ble_eq_true rfl, Nat.le_of_ble_eq_true rfl⟩ dX8_makeVisit_62 ⟨Nat.le_of_ble_eq_true rfl, Nat.le_of_ble_eq_true rfl⟩) (fun H locs hW => ?_)
      refine lv_aload_n hx hb dX8_makeVisit_65 rfl (lv_at hl 3 rfl) ?_
      refine lv_aload_n hx hb dX8_makeVisit_66 rfl (lv_at hl 4 rfl) ?_
      obtain ⟨σ20, hq19, hf⟩ := z_b hf
      refine z_cv hW (z_runS (As := [.ref l0, .ref a1]) (rest := []) B hW zv_X8_50 (K_X8_askOthers hq19) rfl rfl (Nat.le_of_ble_eq_true rfl) hl.1 ⟨Nat.le_of_ble_eq_true rfl, Nat.le_of_ble_eq_true rfl⟩ dX8_makeVisit_67 ⟨Nat.le_of_ble_eq_true rfl, Nat.le_of_ble_eq_true rfl⟩) (fun H locs hW => ?_)
      exact t_X8_makeVisit_70 B hf hW (lv_sub hl [3, 4, 2, 1, 0] rfl) 
set_option maxRecDepth 100000 in
def f_X8_makeVisit (σ : zSt) (l0 : Nat) : Option (zSt) :=
(if z_ob σ l0 2 then (zb (f_X2_stationWith σ l0 (z_I σ l0 10)) (fun r3 => (zc r3
(zb2 (f_X8_makeAnew σ l0) (fun r6 σ7 => (f_X8_makeVisit_18 σ7 l0 r6)))
(fun a4 => (f_X8_makeVisit_18 σ l0 (some a4)))))) else none)
set_option maxRecDepth 20000 in
set_option maxHeartbeats 4000000 in
theorem K_X8_makeVisit {σ : zSt} {l0 : Nat}  {σ' : zSt} (hf : f_X8_makeVisit σ l0 = some σ') : z_M l D cA bs yX8_makeVisit cX8_makeVisit 5 none 4 96 0 0 [.ref l0] σ (z_Qv D cA bs σ') := by
  refine z_met (own := RX8) (lv := [(0, .ref l0)]) (by decide) rfl (Nat.le_of_ble_eq_true rfl) rfl (fun p e s m below meth c ls B hnm hW hl => ?_)
  have hx := B.1
  have hb := B.2.1
  have hown := B.2.2.2.1
  have hts := B.2.2.2.2.1
  unfold f_X8_makeVisit at hf
  refine lv_aload_n hx hb dX8_makeVisit_0 rfl (lv_at hl 0 rfl) ?_
  refine lv_aload_n hx hb dX8_makeVisit_1 rfl (lv_at hl 0 rfl) ?_
  obtain ⟨hg1, hf⟩ := z_g hf
  refine z_getI B hW (Or.inl zf_X8_9) rfl hg1 dX8_makeVisit_2 ?_
  obtain ⟨r3, hq2, hf⟩ := z_b hf
  refine z_cq hW (z_runV (As := [.int (z_I σ l0 10)]) (rest := []) B hW zv_X8_15 (K_X2_stationWith hq2) hg1 rfl rfl rfl (Nat.le_of_ble_eq_true rfl) hl.1 ⟨Nat.le_of_ble_eq_true rfl, Nat.le_of_ble_eq_true rfl⟩ dX8_makeVisit_5 ⟨Nat.le_of_ble_eq_true rfl, Nat.le_of_ble_eq_true rfl⟩) (fun H locs hW => ?_)
  refine z_astore_n (lv' := [(1, va_rf r3), (0, .ref l0)]) hx hb dX8_makeVisit_8 rfl hl (by decide) rfl (fun ls hl => ?_)
  refine z_aload_n hx hb dX8_makeVisit_9 rfl (lv_at hl 0 rfl) ?_
  refine z_ifnonnull (tgt := 18) hx hb dX8_makeVisit_10 (by decide) (fun hz8 => ?_) (fun a4 hz8 => ?_)
  · subst hz8
    replace hf := z_c0 hf
    refine lv_aload_n hx hb dX8_makeVisit_13 rfl (lv_at hl 1 rfl) ?_
    obtain ⟨r6, σ7, hq5, hf⟩ := z_b2 hf
    refine z_cq hW (z_runS (As := [.ref l0]) (rest := []) B hW zv_X8_19 (K_X8_makeAnew hq5) rfl rfl (Nat.le_of_ble_eq_true rfl) hl.1 ⟨Nat.le_of_ble_eq_true rfl, Nat.le_of_ble_eq_true rfl⟩ dX8_makeVisit_14 ⟨Nat.le_of_ble_eq_true rfl, Nat.le_of_ble_eq_true rfl⟩) (fun H locs hW => ?_)
    refine z_astore_n (lv' := [(1, va_rf r6), (0, .ref l0)]) hx hb dX8_makeVisit_17 rfl hl (by decide) rfl (fun ls hl => ?_)
    exact t_X8_makeVisit_18 B hf hW (lv_sub hl [1, 0] rfl) 
  · subst hz8
    replace hf := z_c1 hf
    exact t_X8_makeVisit_18 B hf hW (lv_sub hl [1, 0] rfl) 
end GEN
