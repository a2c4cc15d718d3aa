section GEN
variable {p : Program} {l : Launch} {e : Env} {s : State} {m : MethodId} {args : Array Value} {below : List Frame} {meth : Method} {c : Code} {D : va_G} {cA : Nat → ClassId} {bs : Nat}
set_option maxRecDepth 100000 in
def f_X10_passesByte_44 (σ : zSt) (l2 : Int32) (s0 : Int32) (s1 : Int32) (s2 : Option Nat) : Option (Int32 × zSt) :=
(zc s2 none (fun a1 => (if z_ob σ a1 9 then (zl (z_pI σ a1 7 (s1 + s0)) (fun σ4 => (if z_bl l2 then (some (l2, σ4)) else none))) else none)))
set_option maxRecDepth 20000 in
set_option maxHeartbeats 4000000 in
theorem t_X10_passesByte_44 (B : z_B p s m args meth c D cA bs RX10 cX10_passesByte 3 (some .boolean)) {r : Int32} {σ' : zSt} {σ : zSt} {l2 : Int32} {s0 : Int32} {s1 : Int32} {s2 : Option Nat} (hf : f_X10_passesByte_44 σ l2 s0 s1 s2 = some (r, σ')) {H : Heap} {locs : List Loc} {ls : Array Slot} (hW : z_Ok D cA bs s σ H locs) (hl : lv_has ls 3 [(2, .int l2)])  : W p l e (zrm 0 0 0 0) s m args below meth c H locs 0 0 (MQ below (z_Qi D cA bs r σ') args s 0 0 (fun q => bs ≤ q)) (F0 m 44 ls [.int s0, .int s1, va_rf s2]) := by
  have hx := B.1
  have hb := B.2.1
  have hown := B.2.2.2.1
  have hts := B.2.2.2.2.1
  unfold f_X10_passesByte_44 at hf
  refine lv_iadd hx hb dX10_passesByte_44 ?_
  obtain ⟨a1, hn2, hf⟩ := z_nn hf
  subst hn2
  obtain ⟨hg3, hf⟩ := z_g hf
  obtain ⟨σ4, hs5, hf⟩ := z_l hf
  refine z_putI B hW zf_X10_162 hg3 rfl hs5 dX10_passesByte_45 (fun H locs hW => ?_)
  refine lv_iload_n hx hb dX10_passesByte_48 rfl (lv_at hl 0 rfl) ?_
  obtain ⟨hg6, hf⟩ := z_g hf
  obtain ⟨rfl, rfl⟩ := z_e2 hf
  exact z_rz hg6 B hW dX10_passesByte_49 (Nat.le_of_ble_eq_true rfl) (Nat.le_of_ble_eq_true rfl)
set_option maxRecDepth 100000 in
def f_X10_passesByte_29 (σ : zSt) (l0 : Nat) (s0 : Int32) : Option (Int32 × zSt) :=
(if z_ob σ l0 9 then (if s0 = 0 then
(f_X10_passesByte_44 σ s0 (0 : Int32) (z_I σ l0 7) (some l0))
else
(f_X10_passesByte_44 σ s0 (1 : Int32) (z_I σ l0 7) (some l0))) else none)
set_option maxRecDepth 20000 in
set_option maxHeartbeats 4000000 in
theorem t_X10_passesByte_29 (B : z_B p s m args meth c D cA bs RX10 cX10_passesByte 3 (some .boolean)) {r : Int32} {σ' : zSt} {σ : zSt} {l0 : Nat} {s0 : Int32} (hf : f_X10_passesByte_29 σ l0 s0 = some (r, σ')) {H : Heap} {locs : List Loc} {ls : Array Slot} (hW : z_Ok D cA bs s σ H locs) (hl : lv_has ls 3 [(0, .ref l0)])  : W p l e (zrm 0 0 0 0) s m args below meth c H locs 0 0 (MQ below (z_Qi D cA bs r σ') args s 0 0 (fun q => bs ≤ q)) (F0 m 29 ls [.int s0]) := by
  have hx := B.1
  have hb := B.2.1
  have hown := B.2.2.2.1
  have hts := B.2.2.2.2.1
  unfold f_X10_passesByte_29 at hf
  refine lv_istore_n (lv' := [(2, .int s0), (0, .ref l0)]) hx hb dX10_passesByte_29 rfl hl (by decide) rfl (fun ls hl => ?_)
  refine lv_aload_n hx hb dX10_passesByte_30 rfl (lv_at hl 1 rfl) ?_
  refine lv_dup hx hb dX10_passesByte_31 rfl ?_
  obtain ⟨hg1, hf⟩ := z_g hf
  refine z_getI B hW (Or.inl zf_X10_162) rfl hg1 dX10_passesByte_32 ?_
  refine lv_iload_n hx hb dX10_passesByte_35 rfl (lv_at hl 0 rfl) ?_
  refine lv_if_eq (tgt := 43) hx hb dX10_passesByte_36 (by decide) (fun hc36 => ?_) (fun hc36 => ?_)
  · replace hf := z_ip hc36 hf
    refine lv_iconst (v := (0 : Int32)) hx hb dX10_passesByte_43 (by decide) ?_
    exact t_X10_passesByte_44 B hf hW (lv_sub hl [0] rfl) 
  · replace hf := z_in hc36 hf
    refine lv_iconst (v := (1 : Int32)) hx hb dX10_passesByte_39 (by decide) ?_
    refine lv_goto (tgt := 44) hx hb dX10_passesByte_40 (by decide) ?_
    exact t_X10_passesByte_44 B hf hW (lv_sub hl [0] rfl) 
set_option maxRecDepth 100000 in
def f_X10_passesByte_28 (σ : zSt) (l0 : Nat) : Option (Int32 × zSt) :=
(f_X10_passesByte_29 σ l0 (0 : Int32))
set_option maxRecDepth 20000 in
set_option maxHeartbeats 4000000 in
theorem t_X10_passesByte_28 (B : z_B p s m args meth c D cA bs RX10 cX10_passesByte 3 (some .boolean)) {r : Int32} {σ' : zSt} {σ : zSt} {l0 : Nat} (hf : f_X10_passesByte_28 σ l0 = some (r, σ')) {H : Heap} {locs : List Loc} {ls : Array Slot} (hW : z_Ok D cA bs s σ H locs) (hl : lv_has ls 3 [(0, .ref l0)])  : W p l e (zrm 0 0 0 0) s m args below meth c H locs 0 0 (MQ below (z_Qi D cA bs r σ') args s 0 0 (fun q => bs ≤ q)) (F0 m 28 ls []) := by
  have hx := B.1
  have hb := B.2.1
  have hown := B.2.2.2.1
  have hts := B.2.2.2.2.1
  unfold f_X10_passesByte_28 at hf
  refine lv_iconst (v := (0 : Int32)) hx hb dX10_passesByte_28 (by decide) ?_
  exact t_X10_passesByte_29 B hf hW hl 
set_option maxRecDepth 100000 in
def f_X10_passesByte (σ : zSt) (l0 : Nat) (l1 : Int32) : Option (Int32 × zSt) :=
(if z_ob σ l0 9 then (if (z_I σ l0 6) ≤ (z_I σ l0 7) then
(f_X10_passesByte_28 σ l0)
else
(zc (z_R σ l0 5) none (fun q2 => (if z_ar σ q2 0 then (if z_ix (z_I σ l0 7) (z_ln σ q2) then (if (z_I σ q2 (z_I σ l0 7).toNatClampNeg) = l1 then
(f_X10_passesByte_29 σ l0 (1 : Int32))
else
(f_X10_passesByte_28 σ l0)) else none) else none)))) else none)
set_option maxRecDepth 20000 in
set_option maxHeartbeats 4000000 in
theorem K_X10_passesByte {σ : zSt} {l0 : Nat} {l1 : Int32} {r : Int32} {σ' : zSt} (hf : f_X10_passesByte σ l0 l1 = some (r, σ')) : z_M l D cA bs yX10_passesByte cX10_passesByte 3 (some .boolean) 0 0 0 0 [.ref l0, .int l1] σ (z_Qi D cA bs r σ') := by
  refine z_met (own := RX10) (lv := [(0, .ref l0), (1, .int l1)]) (by decide) rfl (Nat.le_of_ble_eq_true rfl) rfl (fun p e s m below meth c ls B hnm hW hl => ?_)
  have hx := B.1
  have hb := B.2.1
  have hown := B.2.2.2.1
  have hts := B.2.2.2.2.1
  unfold f_X10_passesByte at hf
  refine lv_aload_n hx hb dX10_passesByte_0 rfl (lv_at hl 0 rfl) ?_
  obtain ⟨hg1, hf⟩ := z_g hf
  refine z_getI B hW (Or.inl zf_X10_162) rfl hg1 dX10_passesByte_1 ?_
  refine lv_aload_n hx hb dX10_passesByte_4 rfl (lv_at hl 0 rfl) ?_
  refine z_getI B hW (Or.inl zf_X10_159) rfl hg1 dX10_passesByte_5 ?_
  refine lv_icmp_ge (tgt := 28) hx hb dX10_passesByte_8 (by decide) (fun hc8 => ?_) (fun hc8 => ?_)
  · replace hf := z_ip hc8 hf
    exact t_X10_passesByte_28 B hf hW (lv_sub hl [0] rfl) 
  · replace hf := z_in hc8 hf
    refine lv_aload_n hx hb dX10_passesByte_11 rfl (lv_at hl 0 rfl) ?_
    obtain ⟨q2, hv3, hf⟩ := z_nn hf
    refine z_getN B hW (Or.inr zf_X10_19) rfl hg1 hv3 dX10_passesByte_12 ?_
    refine lv_aload_n hx hb dX10_passesByte_15 rfl (lv_at hl 0 rfl) ?_
    refine z_getI B hW (Or.inl zf_X10_162) rfl hg1 dX10_passesByte_16 ?_
    obtain ⟨hg4, hf⟩ := z_g hf
    obtain ⟨hg5, hf⟩ := z_g hf
    refine z_ald B hW hg4 hg5 dX10_passesByte_19 ?_
    refine lv_iload_n hx hb dX10_passesByte_20 rfl (lv_at hl 1 rfl) ?_
    refine lv_icmp_ne (tgt := 28) hx hb dX10_passesByte_21 (by decide) (fun hc21 => ?_) (fun hc21 => ?_)
    · replace hf := z_in hc21 hf
      exact t_X10_passesByte_28 B hf hW (lv_sub hl [0] rfl) 
    · replace hf := z_ip hc21 hf
      refine lv_iconst (v := (1 : Int32)) hx hb dX10_passesByte_24 (by decide) ?_
      refine lv_goto (tgt := 29) hx hb dX10_passesByte_25 (by decide) ?_
      exact t_X10_passesByte_29 B hf hW (lv_sub hl [0] rfl) 
set_option maxRecDepth 100000 in
def f_X10_readsNumber_84 (σ : zSt) (s0 : Int32) : Option (Int32 × zSt) :=
(if z_bl s0 then (some (s0, σ)) else none)
set_option maxRecDepth 20000 in
set_option maxHeartbeats 4000000 in
theorem t_X10_readsNumber_84 (B : z_B p s m args meth c D cA bs RX10 cX10_readsNumber 2 (some .boolean)) {r : Int32} {σ' : zSt} {σ : zSt} {s0 : Int32} (hf : f_X10_readsNumber_84 σ s0 = some (r, σ')) {H : Heap} {locs : List Loc} {ls : Array Slot} (hW : z_Ok D cA bs s σ H locs) (hl : lv_has ls 2 [])  : W p l e (zrm 2 0 0 45) s m args below meth c H locs 0 0 (MQ below (z_Qi D cA bs r σ') args s 0 0 (fun q => bs ≤ q)) (F0 m 84 ls [.int s0]) := by
  have hx := B.1
  have hb := B.2.1
  have hown := B.2.2.2.1
  have hts := B.2.2.2.2.1
  unfold f_X10_readsNumber_84 at hf
  obtain ⟨hg1, hf⟩ := z_g hf
  obtain ⟨rfl, rfl⟩ := z_e2 hf
  exact z_rz hg1 B hW dX10_readsNumber_84 (Nat.le_of_ble_eq_true rfl) (Nat.le_of_ble_eq_true rfl)
set_option maxRecDepth 100000 in
def f_X10_readsNumber_83 (σ : zSt) : Option (Int32 × zSt) :=
(f_X10_readsNumber_84 σ (0 : Int32))
set_option maxRecDepth 20000 in
set_option maxHeartbeats 4000000 in
theorem t_X10_readsNumber_83 (B : z_B p s m args meth c D cA bs RX10 cX10_readsNumber 2 (some .boolean)) {r : Int32} {σ' : zSt} {σ : zSt} (hf : f_X10_readsNumber_83 σ = some (r, σ')) {H : Heap} {locs : List Loc} {ls : Array Slot} (hW : z_Ok D cA bs s σ H locs) (hl : lv_has ls 2 [])  : W p l e (zrm 2 0 0 45) s m args below meth c H locs 0 0 (MQ below (z_Qi D cA bs r σ') args s 0 0 (fun q => bs ≤ q)) (F0 m 83 ls []) := by
  have hx := B.1
  have hb := B.2.1
  have hown := B.2.2.2.1
  have hts := B.2.2.2.2.1
  unfold f_X10_readsNumber_83 at hf
  refine lv_iconst (v := (0 : Int32)) hx hb dX10_readsNumber_83 (by decide) ?_
  exact t_X10_readsNumber_84 B hf hW hl 
set_option maxRecDepth 100000 in
def f_X10_readsNumber_64 (σ : zSt) (l0 : Nat) (l1 : Int32) : Option (Int32 × zSt) :=
(if z_ob σ l0 9 then (if (z_I σ l0 7) ≤ l1 then
(f_X10_readsNumber_83 σ)
else
(zb (f_X10_isFigure σ l0) (fun r3 => (if r3 = 0 then
(f_X10_readsNumber_84 σ (1 : Int32))
else
(f_X10_readsNumber_83 σ))))) else none)
set_option maxRecDepth 20000 in
set_option maxHeartbeats 4000000 in
theorem t_X10_readsNumber_64 (B : z_B p s m args meth c D cA bs RX10 cX10_readsNumber 2 (some .boolean)) {r : Int32} {σ' : zSt} {σ : zSt} {l0 : Nat} {l1 : Int32} (hf : f_X10_readsNumber_64 σ l0 l1 = some (r, σ')) {H : Heap} {locs : List Loc} {ls : Array Slot} (hW : z_Ok D cA bs s σ H locs) (hl : lv_has ls 2 [(0, .ref l0), (1, .int l1)])  : W p l e (zrm 2 0 0 45) s m args below meth c H locs 0 0 (MQ below (z_Qi D cA bs r σ') args s 0 0 (fun q => bs ≤ q)) (F0 m 64 ls []) := by
  have hx := B.1
  have hb := B.2.1
  have hown := B.2.2.2.1
  have hts := B.2.2.2.2.1
  unfold f_X10_readsNumber_64 at hf
  refine lv_aload_n hx hb dX10_readsNumber_64 rfl (lv_at hl 0 rfl) ?_
  obtain ⟨hg1, hf⟩ := z_g hf
  refine z_getI B hW (Or.inl zf_X10_162) rfl hg1 dX10_readsNumber_65 ?_
  refine lv_iload_n hx hb dX10_readsNumber_68 rfl (lv_at hl 1 rfl) ?_
  refine lv_icmp_le (tgt := 83) hx hb dX10_readsNumber_69 (by decide) (fun hc69 => ?_) (fun hc69 => ?_)
  · replace hf := z_ip hc69 hf
    exact t_X10_readsNumber_83 B hf hW (lv_sub hl [] rfl) 
  · replace hf := z_in hc69 hf
    refine lv_aload_n hx hb dX10_readsNumber_72 rfl (lv_at hl 0 rfl) ?_
    obtain ⟨r3, hq2, hf⟩ := z_b hf
    refine z_ci hW (z_runV (As := []) (rest := []) B hW zv_X10_172 (K_X10_isFigure hq2) hg1 rfl rfl rfl (Nat.le_of_ble_eq_true rfl) hl.1 ⟨Nat.le_of_ble_eq_true rfl, Nat.le_of_ble_eq_true rfl⟩ dX10_readsNumber_73 ⟨Nat.le_of_ble_eq_true rfl, Nat.le_of_ble_eq_true rfl⟩) (fun H locs hW => ?_)
    refine lv_if_ne (tgt := 83) hx hb dX10_readsNumber_76 (by decide) (fun hc76 => ?_) (fun hc76 => ?_)
    · replace hf := z_in hc76 hf
      exact t_X10_readsNumber_83 B hf hW (lv_sub hl [] rfl) 
    · replace hf := z_ip hc76 hf
      refine lv_iconst (v := (1 : Int32)) hx hb dX10_readsNumber_79 (by decide) ?_
      refine lv_goto (tgt := 84) hx hb dX10_readsNumber_80 (by decide) ?_
      exact t_X10_readsNumber_84 B hf hW (lv_sub hl [] rfl) 
set_option maxRecDepth 100000 in
def b_X10_readsNumber_10 (l0 : Nat) (l1 : Int32) (σ : zSt) : Option ((zSt) ⊕ (Int32 × zSt)) :=
(if z_ob σ l0 9 then (zb (f_X10_isFigure σ l0) (fun r3 => (if r3 = 0 then
(zex (f_X10_readsNumber_64 σ l0 l1))
else
(if (l1 + (2 : Int32)) ≤ (z_I σ l0 7) then
(zex (f_X10_readsNumber_64 σ l0 l1))
else
(zc (z_R σ l0 5) none (fun q6 => (if z_ar σ q6 0 then (if z_ix (z_I σ l0 7) (z_ln σ q6) then (zl (z_pI σ l0 8 ((((10 : Int32) * (z_I σ l0 8)) + (z_I σ q6 (z_I σ l0 7).toNatClampNeg)) - (48 : Int32))) (fun σ10 => (if z_ob σ10 l0 9 then (zl (z_pI σ10 l0 7 ((z_I σ10 l0 7) + (1 : Int32))) (fun σ13 => (some (.inl σ13)))) else none))) else none) else none))))))) else none)
set_option maxRecDepth 100000 in
def f_X10_readsNumber_10 (l0 : Nat) (l1 : Int32) (σ : zSt) : Option (Int32 × zSt) := zloop (fun (t : zSt) => b_X10_readsNumber_10 l0 l1 t) zN σ
set_option maxRecDepth 20000 in
set_option maxHeartbeats 4000000 in
theorem tb_X10_readsNumber_10 (B : z_B p s m args meth c D cA bs RX10 cX10_readsNumber 2 (some .boolean)) {r : Int32} {σ' : zSt} {o1 : (zSt) ⊕ (Int32 × zSt)} {l0 : Nat} {l1 : Int32} {σ : zSt} (hf : b_X10_readsNumber_10 l0 l1 σ = some o1) {H : Heap} {locs : List Loc} {ls : Array Slot} (hW : z_Ok D cA bs s σ H locs) (hl : lv_has ls 2 [(0, .ref l0), (1, .int l1)]) (hk1 : ∀ (σ : zSt), o1 = .inl σ → ∀ {H : Heap} {locs : List Loc} {ls : Array Slot}, z_Ok D cA bs s σ H locs → lv_has ls 2 [(0, .ref l0), (1, .int l1)] → W p l e (zrm 2 0 0 45) s m args below meth c H locs 0 0 (MQ below (z_Qi D cA bs r σ') args s 0 0 (fun q => bs ≤ q)) (F0 m 10 ls [])) (hr1 : ∀ x, o1 = .inr x → x = (r, σ')) : W p l e (zrm 2 0 0 45) s m args below meth c H locs 0 0 (MQ below (z_Qi D cA bs r σ') args s 0 0 (fun q => bs ≤ q)) (F0 m 10 ls []) := by
  have hx := B.1
  have hb := B.2.1
  have hown := B.2.2.2.1
  have hts := B.2.2.2.2.1
  unfold b_X10_readsNumber_10 at hf
  refine lv_aload_n hx hb dX10_readsNumber_10 rfl (lv_at hl 0 rfl) ?_
  obtain ⟨hg1, hf⟩ := z_g hf
  obtain ⟨r3, hq2, hf⟩ := z_b hf
  refine z_ci hW (z_runV (As := []) (rest := []) B hW zv_X10_172 (K_X10_isFigure hq2) hg1 rfl rfl rfl (Nat.le_of_ble_eq_true rfl) hl.1 ⟨Nat.le_of_ble_eq_true rfl, Nat.le_of_ble_eq_true rfl⟩ dX10_readsNumber_11 ⟨Nat.le_of_ble_eq_true rfl, Nat.le_of_ble_eq_true rfl⟩) (fun H locs hW => ?_)
  refine lv_if_eq (tgt := 64) hx hb dX10_readsNumber_14 (by decide) (fun hc14 => ?_) (fun hc14 => ?_)
  · replace hf := z_ip hc14 hf
    obtain ⟨w1, hf, ho4⟩ := z_x hf
    obtain rfl := hr1 _ ho4
    exact t_X10_readsNumber_64 B hf hW hl 
  · replace hf := z_in hc14 hf
    refine lv_aload_n hx hb dX10_readsNumber_17 rfl (lv_at hl 0 rfl) ?_
    refine z_getI B hW (Or.inl zf_X10_162) rfl hg1 dX10_readsNumber_18 ?_
    refine lv_iload_n hx hb dX10_readsNumber_21 rfl (lv_at hl 1 rfl) ?_
    refine lv_iconst (v := (2 : Int32)) hx hb dX10_readsNumber_22 (by decide) ?_
    refine lv_iadd hx hb dX10_readsNumber_23 ?_
    refine lv_icmp_ge (tgt := 64) hx hb dX10_readsNumber_24 (by decide) (fun hc24 => ?_) (fun hc24 => ?_)
    · replace hf := z_ip hc24 hf
      obtain ⟨w1, hf, ho5⟩ := z_x hf
      obtain rfl := hr1 _ ho5
      exact t_X10_readsNumber_64 B hf hW hl 
    · replace hf := z_in hc24 hf
      refine lv_aload_n hx hb dX10_readsNumber_27 rfl (lv_at hl 0 rfl) ?_
      refine lv_bipush (v := (10 : Int32)) hx hb dX10_readsNumber_28 (by decide) ?_
      refine lv_aload_n hx hb dX10_readsNumber_30 rfl (lv_at hl 0 rfl) ?_
      refine z_getI B hW (Or.inl zf_X10_169) rfl hg1 dX10_readsNumber_31 ?_
      refine lv_imul hx hb dX10_readsNumber_34 ?_
      refine lv_aload_n hx hb dX10_readsNumber_35 rfl (lv_at hl 0 rfl) ?_
      obtain ⟨q6, hv7, hf⟩ := z_nn hf
      refine z_getN B hW (Or.inr zf_X10_19) rfl hg1 hv7 dX10_readsNumber_36 ?_
      refine lv_aload_n hx hb dX10_readsNumber_39 rfl (lv_at hl 0 rfl) ?_
      refine z_getI B hW (Or.inl zf_X10_162) rfl hg1 dX10_readsNumber_40 ?_
      obtain ⟨hg8, hf⟩ := z_g hf
      obtain ⟨hg9, hf⟩ := z_g hf
      refine z_ald B hW hg8 hg9 dX10_readsNumber_43 ?_
      refine lv_iadd hx hb dX10_readsNumber_44 ?_
      refine lv_bipush (v := (48 : Int32)) hx hb dX10_readsNumber_45 (by decide) ?_
      refine lv_isub hx hb dX10_readsNumber_47 ?_
      obtain ⟨σ10, hs11, hf⟩ := z_l hf
      refine z_putI B hW zf_X10_169 hg1 rfl hs11 dX10_readsNumber_48 (fun H locs hW => ?_)
      refine lv_aload_n hx hb dX10_readsNumber_51 rfl (lv_at hl 0 rfl) ?_
      refine lv_dup hx hb dX10_readsNumber_52 rfl ?_
      obtain ⟨hg12, hf⟩ := z_g hf
      refine z_getI B hW (Or.inl zf_X10_162) rfl hg12 dX10_readsNumber_53 ?_
      refine lv_iconst (v := (1 : Int32)) hx hb dX10_readsNumber_56 (by decide) ?_
      refine lv_iadd hx hb dX10_readsNumber_57 ?_
      obtain ⟨σ13, hs14, hf⟩ := z_l hf
      refine z_putI B hW zf_X10_162 hg12 rfl hs14 dX10_readsNumber_58 (fun H locs hW => ?_)
      refine lv_goto (tgt := 10) hx hb dX10_readsNumber_61 (by decide) ?_
      exact hk1 _ (Option.some.inj hf).symm hW hl
set_option maxRecDepth 20000 in
set_option maxHeartbeats 4000000 in
theorem t_X10_readsNumber_10 (B : z_B p s m args meth c D cA bs RX10 cX10_readsNumber 2 (some .boolean)) {r : Int32} {σ' : zSt} {l0 : Nat} {l1 : Int32}  : ∀ (n : Nat) {σ : zSt}, zloop (fun (t : zSt) => b_X10_readsNumber_10 l0 l1 t) n σ = some (r, σ') → ∀ {H : Heap} {locs : List Loc} {ls : Array Slot}, z_Ok D cA bs s σ H locs → lv_has ls 2 [(0, .ref l0), (1, .int l1)] → W p l e (zrm 2 0 0 45) s m args below meth c H locs 0 0 (MQ below (z_Qi D cA bs r σ') args s 0 0 (fun q => bs ≤ q)) (F0 m 10 ls []) := by
  intro n
  induction n with
  | zero => intro σ hf; cases hf
  | succ n ih =>
    intro σ hf H locs ls hW hl
    obtain ⟨o1, hb1, hf⟩ := z_lp hf
    refine tb_X10_readsNumber_10 B hb1 hW hl  (fun σ he H locs ls hW hl => ?_) (fun x he => ?_)
    · rcases hf with ⟨t, ht, hf⟩ | hf
      · rw [he] at ht
        cases ht
        exact ih hf hW hl
      · rw [he] at hf
        cases hf
    · rcases hf with ⟨t, ht, hf⟩ | hf
      · rw [he] at ht
        cases ht
      · rw [he] at hf
        exact Sum.inr.inj hf
set_option maxRecDepth 100000 in
def f_X10_readsNumber (σ : zSt) (l0 : Nat) : Option (Int32 × zSt) :=
(if z_ob σ l0 9 then (zl (z_I σ l0 7) (fun x2 => (zl (z_pI σ l0 8 (0 : Int32)) (fun σ4 => (f_X10_readsNumber_10 l0 x2 σ4))))) else none)
set_option maxRecDepth 20000 in
set_option maxHeartbeats 4000000 in
theorem K_X10_readsNumber {σ : zSt} {l0 : Nat} {r : Int32} {σ' : zSt} (hf : f_X10_readsNumber σ l0 = some (r, σ')) : z_M l D cA bs yX10_readsNumber cX10_readsNumber 2 (some .boolean) 2 45 0 0 [.ref l0] σ (z_Qi D cA bs r σ') := by
  refine z_met (own := RX10) (lv := [(0, .ref l0)]) (by decide) rfl (Nat.le_of_ble_eq_true rfl) rfl (fun p e s m below meth c ls B hnm hW hl => ?_)
  have hx := B.1
  have hb := B.2.1
  have hown := B.2.2.2.1
  have hts := B.2.2.2.2.1
  unfold f_X10_readsNumber at hf
  refine lv_aload_n hx hb dX10_readsNumber_0 rfl (lv_at hl 0 rfl) ?_
  obtain ⟨hg1, hf⟩ := z_g hf
  refine z_getI B hW (Or.inl zf_X10_162) rfl hg1 dX10_readsNumber_1 ?_
  obtain ⟨x2, hx3, hf⟩ := z_l hf
  rw [hx3]
  refine lv_istore_n (lv' := [(1, .int x2), (0, .ref l0)]) hx hb dX10_readsNumber_4 rfl hl (by decide) rfl (fun ls hl => ?_)
  refine lv_aload_n hx hb dX10_readsNumber_5 rfl (lv_at hl 1 rfl) ?_
  refine lv_iconst (v := (0 : Int32)) hx hb dX10_readsNumber_6 (by decide) ?_
  obtain ⟨σ4, hs5, hf⟩ := z_l hf
  refine z_putI B hW zf_X10_169 hg1 rfl hs5 dX10_readsNumber_7 (fun H locs hW => ?_)
  unfold f_X10_readsNumber_10 at hf
  exact t_X10_readsNumber_10 B  zN hf hW (lv_sub hl [1, 0] rfl)
set_option maxRecDepth 100000 in
def f_X10_readsItem_108 (σ : zSt) : Option (Int32 × zSt) :=
(some ((0 : Int32), σ))
set_option maxRecDepth 20000 in
set_option maxHeartbeats 4000000 in
theorem t_X10_readsItem_108 (B : z_B p s m args meth c D cA bs RX10 cX10_readsItem 4 (some .boolean)) {r : Int32} {σ' : zSt} {σ : zSt} (hf : f_X10_readsItem_108 σ = some (r, σ')) {H : Heap} {locs : List Loc} {ls : Array Slot} (hW : z_Ok D cA bs s σ H locs) (hl : lv_has ls 4 [])  : W p l e (zrm 3 0 0 66) s m args below meth c H locs 0 0 (MQ below (z_Qi D cA bs r σ') args s 0 0 (fun q => bs ≤ q)) (F0 m 108 ls []) := by
  have hx := B.1
  have hb := B.2.1
  have hown := B.2.2.2.1
  have hts := B.2.2.2.2.1
  unfold f_X10_readsItem_108 at hf
  refine lv_iconst (v := (0 : Int32)) hx hb dX10_readsItem_108 (by decide) ?_
  obtain ⟨rfl, rfl⟩ := z_e2 hf
  exact z_rz (by decide) B hW dX10_readsItem_109 (Nat.le_of_ble_eq_true rfl) (Nat.le_of_ble_eq_true rfl)
set_option maxRecDepth 100000 in
def f_X10_readsItem_153 (σ : zSt) : Option (Int32 × zSt) :=
(some ((0 : Int32), σ))
set_option maxRecDepth 20000 in
set_option maxHeartbeats 4000000 in
theorem t_X10_readsItem_153 (B : z_B p s m args meth c D cA bs RX10 cX10_readsItem 4 (some .boolean)) {r : Int32} {σ' : zSt} {σ : zSt} (hf : f_X10_readsItem_153 σ = some (r, σ')) {H : Heap} {locs : List Loc} {ls : Array Slot} (hW : z_Ok D cA bs s σ H locs) (hl : lv_has ls 4 [])  : W p l e (zrm 3 0 0 66) s m args below meth c H locs 0 0 (MQ below (z_Qi D cA bs r σ') args s 0 0 (fun q => bs ≤ q)) (F0 m 153 ls []) := by
  have hx := B.1
  have hb := B.2.1
  have hown := B.2.2.2.1
  have hts := B.2.2.2.2.1
  unfold f_X10_readsItem_153 at hf
  refine lv_iconst (v := (0 : Int32)) hx hb dX10_readsItem_153 (by decide) ?_
  obtain ⟨rfl, rfl⟩ := z_e2 hf
  exact z_rz (by decide) B hW dX10_readsItem_154 (Nat.le_of_ble_eq_true rfl) (Nat.le_of_ble_eq_true rfl)
set_option maxRecDepth 100000 in
def f_X10_readsItem_84 (σ : zSt) (l0 : Nat) (l1 : Int32) : Option (Int32 × zSt) :=
(if z_ob σ l0 9 then (if (z_I σ l0 9) = (-1 : Int32) then
(f_X10_readsItem_108 σ)
else
(zb2 (f_X10_passesByte σ l0 (109 : Int32)) (fun r3 σ4 => (if r3 = 0 then
(f_X10_readsItem_108 σ4)
else
(if z_ob σ4 l0 9 then (zb2 (f_X10_readsNumber σ4 l0) (fun r7 σ8 => (if r7 = 0 then
(f_X10_readsItem_108 σ8)
else
(if z_ob σ8 l0 9 then (zb (f_X10_in σ8 ((z_I σ8 l0 8).toInt64) (1 : Int64) (20 : Int64)) (fun r11 => (if r11 = 0 then
(zl (z_pI σ8 l0 7 l1) (fun σ35 => (some ((0 : Int32), σ35))))
else
(zl (z_I σ8 l0 8) (fun x12 => (zb2 (f_X10_passesByte σ8 l0 (44 : Int32)) (fun r15 σ16 => (if r15 = 0 then
(f_X10_readsItem_153 σ16)
else
(if z_ob σ16 l0 9 then (zb (f_X10_isFigure σ16 l0) (fun r19 => (if r19 = 0 then
(f_X10_readsItem_153 σ16)
else
(zc (z_R σ16 l0 5) none (fun q20 => (if z_ar σ16 q20 0 then (if z_ix (z_I σ16 l0 7) (z_ln σ16 q20) then (zb2 (f_X10_gives σ16 l0 (z_I σ16 l0 9) x12 ((z_I σ16 q20 (z_I σ16 l0 7).toNatClampNeg) - (48 : Int32))) (fun r25 σ26 => (if z_ob σ26 l0 9 then (zl (z_pI σ26 l0 7 ((z_I σ26 l0 7) + (1 : Int32))) (fun σ28 => (if z_ob σ28 l0 9 then (zb2 (f_X10_passesByte σ28 l0 (59 : Int32)) (fun r32 σ33 => (if z_bl r32 then (some (r32, σ33)) else none))) else none))) else none))) else none) else none)))))) else none))))))))) else none)))) else none))))) else none)
set_option maxRecDepth 20000 in
set_option maxHeartbeats 4000000 in
theorem t_X10_readsItem_84 (B : z_B p s m args meth c D cA bs RX10 cX10_readsItem 4 (some .boolean)) {r : Int32} {σ' : zSt} {σ : zSt} {l0 : Nat} {l1 : Int32} (hf : f_X10_readsItem_84 σ l0 l1 = some (r, σ')) {H : Heap} {locs : List Loc} {ls : Array Slot} (hW : z_Ok D cA bs s σ H locs) (hl : lv_has ls 4 [(0, .ref l0), (1, .int l1)])  : W p l e (zrm 3 0 0 66) s m args below meth c H locs 0 0 (MQ below (z_Qi D cA bs r σ') args s 0 0 (fun q => bs ≤ q)) (F0 m 84 ls []) := by
  have hx := B.1
  have hb := B.2.1
  have hown := B.2.2.2.1
  have hts := B.2.2.2.2.1
  unfold f_X10_readsItem_84 at hf
  refine lv_aload_n hx hb dX10_readsItem_84 rfl (lv_at hl 0 rfl) ?_
  obtain ⟨hg1, hf⟩ := z_g hf
  refine z_getI B hW (Or.inl zf_X10_181) rfl hg1 dX10_readsItem_85 ?_
  refine lv_iconst (v := (-1 : Int32)) hx hb dX10_readsItem_88 (by decide) ?_
  refine lv_icmp_eq (tgt := 108) hx hb dX10_readsItem_89 (by decide) (fun hc89 => ?_) (fun hc89 => ?_)
  · replace hf := z_ip hc89 hf
    exact t_X10_readsItem_108 B hf hW (lv_sub hl [] rfl) 
  · replace hf := z_in hc89 hf
    refine lv_aload_n hx hb dX10_readsItem_92 rfl (lv_at hl 0 rfl) ?_
    refine lv_bipush (v := (109 : Int32)) hx hb dX10_readsItem_93 (by decide) ?_
    obtain ⟨r3, σ4, hq2, hf⟩ := z_b2 hf
    refine z_ci hW (z_runV (As := [.int (109 : Int32)]) (rest := []) B hW zv_X10_175 (K_X10_passesByte hq2) hg1 rfl rfl rfl (Nat.le_of_ble_eq_true rfl) hl.1 ⟨Nat.le_of_ble_eq_true rfl, Nat.le_of_ble_eq_true rfl⟩ dX10_readsItem_95 ⟨Nat.le_of_ble_eq_true rfl, Nat.le_of_ble_eq_true rfl⟩) (fun H locs hW => ?_)
    refine lv_if_eq (tgt := 108) hx hb dX10_readsItem_98 (by decide) (fun hc98 => ?_) (fun hc98 => ?_)
    · replace hf := z_ip hc98 hf
      exact t_X10_readsItem_108 B hf hW (lv_sub hl [] rfl) 
    · replace hf := z_in hc98 hf
      refine lv_aload_n hx hb dX10_readsItem_101 rfl (lv_at hl 0 rfl) ?_
      obtain ⟨hg5, hf⟩ := z_g hf
      obtain ⟨r7, σ8, hq6, hf⟩ := z_b2 hf
      refine z_ci hW (z_runV (As := []) (rest := []) B hW zv_X10_178 (K_X10_readsNumber hq6) hg5 rfl rfl rfl (Nat.le_of_ble_eq_true rfl) hl.1 ⟨Nat.le_of_ble_eq_true rfl, Nat.le_of_ble_eq_true rfl⟩ dX10_readsItem_102 ⟨Nat.le_of_ble_eq_true rfl, Nat.le_of_ble_eq_true rfl⟩) (fun H locs hW => ?_)
      refine lv_if_ne (tgt := 110) hx hb dX10_readsItem_105 (by decide) (fun hc105 => ?_) (fun hc105 => ?_)
      · replace hf := z_in hc105 hf
        refine lv_aload_n hx hb dX10_readsItem_110 rfl (lv_at hl 0 rfl) ?_
        obtain ⟨hg9, hf⟩ := z_g hf
        refine z_getI B hW (Or.inl zf_X10_169) rfl hg9 dX10_readsItem_111 ?_
        refine lv_i2l (v := (z_I σ8 l0 8).toInt64) hx hb dX10_readsItem_114 rfl ?_
        refine lv_lconst (v := (1 : Int64)) hx hb dX10_readsItem_115 (by decide) ?_
        refine lv_ldc2 hx hb hown (hts _ zk_X10_66) dX10_readsItem_116 ?_
        obtain ⟨r11, hq10, hf⟩ := z_b hf
        refine z_ci hW (z_runS (As := [.long (z_I σ8 l0 8).toInt64, .long (1 : Int64), .long (20 : Int64)]) (rest := []) B hW zv_X10_35 (K_X10_in hq10) rfl rfl (Nat.le_of_ble_eq_true rfl) hl.1 ⟨Nat.le_of_ble_eq_true rfl, Nat.le_of_ble_eq_true rfl⟩ dX10_readsItem_119 ⟨Nat.le_of_ble_eq_true rfl, Nat.le_of_ble_eq_true rfl⟩) (fun H locs hW => ?_)
        refine lv_if_ne (tgt := 132) hx hb dX10_readsItem_122 (by decide) (fun hc122 => ?_) (fun hc122 => ?_)
        · replace hf := z_in hc122 hf
          refine lv_aload_n hx hb dX10_readsItem_132 rfl (lv_at hl 0 rfl) ?_
          refine z_getI B hW (Or.inl zf_X10_169) rfl hg9 dX10_readsItem_133 ?_
          obtain ⟨x12, hx13, hf⟩ := z_l hf
          rw [hx13]
          refine lv_istore_n (lv' := [(2, .int x12), (0, .ref l0), (1, .int l1)]) hx hb dX10_readsItem_136 rfl hl (by decide) rfl (fun ls hl => ?_)
          refine lv_aload_n hx hb dX10_readsItem_137 rfl (lv_at hl 1 rfl) ?_
          refine lv_bipush (v := (44 : Int32)) hx hb dX10_readsItem_138 (by decide) ?_
          obtain ⟨r15, σ16, hq14, hf⟩ := z_b2 hf
          refine z_ci hW (z_runV (As := [.int (44 : Int32)]) (rest := []) B hW zv_X10_175 (K_X10_passesByte hq14) hg9 rfl rfl rfl (Nat.le_of_ble_eq_true rfl) hl.1 ⟨Nat.le_of_ble_eq_true rfl, Nat.le_of_ble_eq_true rfl⟩ dX10_readsItem_140 ⟨Nat.le_of_ble_eq_true rfl, Nat.le_of_ble_eq_true rfl⟩) (fun H locs hW => ?_)
          refine lv_if_eq (tgt := 153) hx hb dX10_readsItem_143 (by decide) (fun hc143 => ?_) (fun hc143 => ?_)
          · replace hf := z_ip hc143 hf
            exact t_X10_readsItem_153 B hf hW (lv_sub hl [] rfl) 
          · replace hf := z_in hc143 hf
            refine lv_aload_n hx hb dX10_readsItem_146 rfl (lv_at hl 1 rfl) ?_
            obtain ⟨hg17, hf⟩ := z_g hf
            obtain ⟨r19, hq18, hf⟩ := z_b hf
            refine z_ci hW (z_runV (As := []) (rest := []) B hW zv_X10_172 (K_X10_isFigure hq18) hg17 rfl rfl rfl (Nat.le_of_ble_eq_true rfl) hl.1 ⟨Nat.le_of_ble_eq_true rfl, Nat.le_of_ble_eq_true rfl⟩ dX10_readsItem_147 ⟨Nat.le_of_ble_eq_true rfl, Nat.le_of_ble_eq_true rfl⟩) (fun H locs hW => ?_)
            refine lv_if_ne (tgt := 155) hx hb dX10_readsItem_150 (by decide) (fun hc150 => ?_) (fun hc150 => ?_)
            · replace hf := z_in hc150 hf
              refine lv_aload_n hx hb dX10_readsItem_155 rfl (lv_at hl 1 rfl) ?_
              refine lv_aload_n hx hb dX10_readsItem_156 rfl (lv_at hl 1 rfl) ?_
              refine z_getI B hW (Or.inl zf_X10_181) rfl hg17 dX10_readsItem_157 ?_
              refine lv_iload_n hx hb dX10_readsItem_160 rfl (lv_at hl 0 rfl) ?_
              refine lv_aload_n hx hb dX10_readsItem_161 rfl (lv_at hl 1 rfl) ?_
              obtain ⟨q20, hv21, hf⟩ := z_nn hf
              refine z_getN B hW (Or.inr zf_X10_19) rfl hg17 hv21 dX10_readsItem_162 ?_
              refine lv_aload_n hx hb dX10_readsItem_165 rfl (lv_at hl 1 rfl) ?_
              refine z_getI B hW (Or.inl zf_X10_162) rfl hg17 dX10_readsItem_166 ?_
              obtain ⟨hg22, hf⟩ := z_g hf
              obtain ⟨hg23, hf⟩ := z_g hf
              refine z_ald B hW hg22 hg23 dX10_readsItem_169 ?_
              refine lv_bipush (v := (48 : Int32)) hx hb dX10_readsItem_170 (by decide) ?_
              refine lv_isub hx hb dX10_readsItem_172 ?_
              obtain ⟨r25, σ26, hq24, hf⟩ := z_b2 hf
              refine z_ci hW (z_runV (As := [.int (z_I σ16 l0 9), .int x12, .int ((z_I σ16 q20 (z_I σ16 l0 7).toNatClampNeg) - (48 : Int32))]) (rest := []) B hW zv_X10_70 (K_X10_gives hq24) hg17 rfl rfl rfl (Nat.le_of_ble_eq_true rfl) hl.1 ⟨Nat.le_of_ble_eq_true rfl, Nat.le_of_ble_eq_true rfl⟩ dX10_readsItem_173 ⟨Nat.le_of_ble_eq_true rfl, Nat.le_of_ble_eq_true rfl⟩) (fun H locs hW => ?_)
              refine lv_istore_n (lv' := [(3, .int r25), (2, .int x12), (0, .ref l0), (1, .int l1)]) hx hb dX10_readsItem_176 rfl hl (by decide) rfl (fun ls hl => ?_)
              refine lv_aload_n hx hb dX10_readsItem_177 rfl (lv_at hl 2 rfl) ?_
              refine lv_dup hx hb dX10_readsItem_178 rfl ?_
              obtain ⟨hg27, hf⟩ := z_g hf
              refine z_getI B hW (Or.inl zf_X10_162) rfl hg27 dX10_readsItem_179 ?_
              refine lv_iconst (v := (1 : Int32)) hx hb dX10_readsItem_182 (by decide) ?_
              refine lv_iadd hx hb dX10_readsItem_183 ?_
              obtain ⟨σ28, hs29, hf⟩ := z_l hf
              refine z_putI B hW zf_X10_162 hg27 rfl hs29 dX10_readsItem_184 (fun H locs hW => ?_)
              refine lv_aload_n hx hb dX10_readsItem_187 rfl (lv_at hl 2 rfl) ?_
              refine lv_bipush (v := (59 : Int32)) hx hb dX10_readsItem_188 (by decide) ?_
              obtain ⟨hg30, hf⟩ := z_g hf
              obtain ⟨r32, σ33, hq31, hf⟩ := z_b2 hf
              refine z_ci hW (z_runV (As := [.int (59 : Int32)]) (rest := []) B hW zv_X10_175 (K_X10_passesByte hq31) hg30 rfl rfl rfl (Nat.le_of_ble_eq_true rfl) hl.1 ⟨Nat.le_of_ble_eq_true rfl, Nat.le_of_ble_eq_true rfl⟩ dX10_readsItem_190 ⟨Nat.le_of_ble_eq_true rfl, Nat.le_of_ble_eq_true rfl⟩) (fun H locs hW => ?_)
              obtain ⟨hg34, hf⟩ := z_g hf
              obtain ⟨rfl, rfl⟩ := z_e2 hf
              exact z_rz hg34 B hW dX10_readsItem_193 (Nat.le_of_ble_eq_true rfl) (Nat.le_of_ble_eq_true rfl)
            · replace hf := z_ip hc150 hf
              exact t_X10_readsItem_153 B hf hW (lv_sub hl [] rfl) 
        · replace hf := z_ip hc122 hf
          refine lv_aload_n hx hb dX10_readsItem_125 rfl (lv_at hl 0 rfl) ?_
          refine lv_iload_n hx hb dX10_readsItem_126 rfl (lv_at hl 1 rfl) ?_
          obtain ⟨σ35, hs36, hf⟩ := z_l hf
          refine z_putI B hW zf_X10_162 hg9 rfl hs36 dX10_readsItem_127 (fun H locs hW => ?_)
          refine lv_iconst (v := (0 : Int32)) hx hb dX10_readsItem_130 (by decide) ?_
          obtain ⟨rfl, rfl⟩ := z_e2 hf
          exact z_rz (by decide) B hW dX10_readsItem_131 (Nat.le_of_ble_eq_true rfl) (Nat.le_of_ble_eq_true rfl)
      · replace hf := z_ip hc105 hf
        exact t_X10_readsItem_108 B hf hW (lv_sub hl [] rfl) 
set_option maxRecDepth 100000 in
def f_X10_readsItem_54 (σ : zSt) (l0 : Nat) (l1 : Int32) : Option (Int32 × zSt) :=
(if z_ob σ l0 9 then (zl (z_pI σ l0 7 l1) (fun σ2 => (some ((0 : Int32), σ2)))) else none)
set_option maxRecDepth 20000 in
set_option maxHeartbeats 4000000 in
theorem t_X10_readsItem_54 (B : z_B p s m args meth c D cA bs RX10 cX10_readsItem 4 (some .boolean)) {r : Int32} {σ' : zSt} {σ : zSt} {l0 : Nat} {l1 : Int32} (hf : f_X10_readsItem_54 σ l0 l1 = some (r, σ')) {H : Heap} {locs : List Loc} {ls : Array Slot} (hW : z_Ok D cA bs s σ H locs) (hl : lv_has ls 4 [(0, .ref l0), (1, .int l1)])  : W p l e (zrm 3 0 0 66) s m args below meth c H locs 0 0 (MQ below (z_Qi D cA bs r σ') args s 0 0 (fun q => bs ≤ q)) (F0 m 54 ls []) := by
  have hx := B.1
  have hb := B.2.1
  have hown := B.2.2.2.1
  have hts := B.2.2.2.2.1
  unfold f_X10_readsItem_54 at hf
  refine lv_aload_n hx hb dX10_readsItem_54 rfl (lv_at hl 0 rfl) ?_
  refine lv_iload_n hx hb dX10_readsItem_55 rfl (lv_at hl 1 rfl) ?_
  obtain ⟨hg1, hf⟩ := z_g hf
  obtain ⟨σ2, hs3, hf⟩ := z_l hf
  refine z_putI B hW zf_X10_162 hg1 rfl hs3 dX10_readsItem_56 (fun H locs hW => ?_)
  refine lv_iconst (v := (0 : Int32)) hx hb dX10_readsItem_59 (by decide) ?_
  obtain ⟨rfl, rfl⟩ := z_e2 hf
  exact z_rz (by decide) B hW dX10_readsItem_60 (Nat.le_of_ble_eq_true rfl) (Nat.le_of_ble_eq_true rfl)
set_option maxRecDepth 100000 in
def f_X10_readsItem (σ : zSt) (l0 : Nat) : Option (Int32 × zSt) :=
(if z_ob σ l0 9 then (zl ((z_I σ l0 7) + (1 : Int32)) (fun x2 => (zb (f_X10_stations σ l0) (fun r5 => (if (8 : Int32) ≤ r5 then
(f_X10_readsItem_84 σ l0 x2)
else
(zb2 (f_X10_passesByte σ l0 (115 : Int32)) (fun r7 σ8 => (if r7 = 0 then
(f_X10_readsItem_84 σ8 l0 x2)
else
(if z_ob σ8 l0 9 then (zb2 (f_X10_readsNumber σ8 l0) (fun r11 σ12 => (if r11 = 0 then
(some ((0 : Int32), σ12))
else
(if z_ob σ12 l0 9 then (if (32 : Int32) ≤ (z_I σ12 l0 8) then
(f_X10_readsItem_54 σ12 l0 x2)
else
(zb (f_X10_isStation σ12 l0 (z_I σ12 l0 8)) (fun r15 => (if r15 = 0 then
(zl (z_pI σ12 l0 9 (z_I σ12 l0 8)) (fun σ16 => (if z_ob σ16 l0 9 then (zb (f_X10_adds σ16 l0 (z_I σ16 l0 8)) (fun σ20 => (if z_ob σ20 l0 9 then (zb2 (f_X10_passesByte σ20 l0 (59 : Int32)) (fun r23 σ24 => (if z_bl r23 then (some (r23, σ24)) else none))) else none))) else none)))
else
(f_X10_readsItem_54 σ12 l0 x2))))) else none)))) else none))))))))) else none)
set_option maxRecDepth 20000 in
set_option maxHeartbeats 4000000 in
theorem K_X10_readsItem {σ : zSt} {l0 : Nat} {r : Int32} {σ' : zSt} (hf : f_X10_readsItem σ l0 = some (r, σ')) : z_M l D cA bs yX10_readsItem cX10_readsItem 4 (some .boolean) 3 66 0 0 [.ref l0] σ (z_Qi D cA bs r σ') := by
  refine z_met (own := RX10) (lv := [(0, .ref l0)]) (by decide) rfl (Nat.le_of_ble_eq_true rfl) rfl (fun p e s m below meth c ls B hnm hW hl => ?_)
  have hx := B.1
  have hb := B.2.1
  have hown := B.2.2.2.1
  have hts := B.2.2.2.2.1
  unfold f_X10_readsItem at hf
  refine lv_aload_n hx hb dX10_readsItem_0 rfl (lv_at hl 0 rfl) ?_
  obtain ⟨hg1, hf⟩ := z_g hf
  refine z_getI B hW (Or.inl zf_X10_162) rfl hg1 dX10_readsItem_1 ?_
  refine lv_iconst (v := (1 : Int32)) hx hb dX10_readsItem_4 (by decide) ?_
  refine lv_iadd hx hb dX10_readsItem_5 ?_
  obtain ⟨x2, hx3, hf⟩ := z_l hf
  rw [hx3]
  refine lv_istore_n (lv' := [(1, .int x2), (0, .ref l0)]) hx hb dX10_readsItem_6 rfl hl (by decide) rfl (fun ls hl => ?_)
  refine lv_aload_n hx hb dX10_readsItem_7 rfl (lv_at hl 1 rfl) ?_
  obtain ⟨r5, hq4, hf⟩ := z_b hf
  refine z_ci hW (z_runV (As := []) (rest := []) B hW zv_X10_49 (K_X10_stations hq4) hg1 rfl rfl rfl (Nat.le_of_ble_eq_true rfl) hl.1 ⟨Nat.le_of_ble_eq_true rfl, Nat.le_of_ble_eq_true rfl⟩ dX10_readsItem_8 ⟨Nat.le_of_ble_eq_true rfl, Nat.le_of_ble_eq_true rfl⟩) (fun H locs hW => ?_)
  refine lv_bipush (v := (8 : Int32)) hx hb dX10_readsItem_11 (by decide) ?_
  refine lv_icmp_ge (tgt := 84) hx hb dX10_readsItem_13 (by decide) (fun hc13 => ?_) (fun hc13 => ?_)
  · replace hf := z_ip hc13 hf
    exact t_X10_readsItem_84 B hf hW (lv_sub hl [1, 0] rfl) 
  · replace hf := z_in hc13 hf
    refine lv_aload_n hx hb dX10_readsItem_16 rfl (lv_at hl 1 rfl) ?_
    refine lv_bipush (v := (115 : Int32)) hx hb dX10_readsItem_17 (by decide) ?_
    obtain ⟨r7, σ8, hq6, hf⟩ := z_b2 hf
    refine z_ci hW (z_runV (As := [.int (115 : Int32)]) (rest := []) B hW zv_X10_175 (K_X10_passesByte hq6) hg1 rfl rfl rfl (Nat.le_of_ble_eq_true rfl) hl.1 ⟨Nat.le_of_ble_eq_true rfl, Nat.le_of_ble_eq_true rfl⟩ dX10_readsItem_19 ⟨Nat.le_of_ble_eq_true rfl, Nat.le_of_ble_eq_true rfl⟩) (fun H locs hW => ?_)
    refine lv_if_eq (tgt := 84) hx hb dX10_readsItem_22 (by decide) (fun hc22 => ?_) (fun hc22 => ?_)
    · replace hf := z_ip hc22 hf
      exact t_X10_readsItem_84 B hf hW (lv_sub hl [1, 0] rfl) 
    · replace hf := z_in hc22 hf
      refine lv_aload_n hx hb dX10_readsItem_25 rfl (lv_at hl 1 rfl) ?_
      obtain ⟨hg9, hf⟩ := z_g hf
      obtain ⟨r11, σ12, hq10, hf⟩ := z_b2 hf
      refine z_ci hW (z_runV (As := []) (rest := []) B hW zv_X10_178 (K_X10_readsNumber hq10) hg9 rfl rfl rfl (Nat.le_of_ble_eq_true rfl) hl.1 ⟨Nat.le_of_ble_eq_true rfl, Nat.le_of_ble_eq_true rfl⟩ dX10_readsItem_26 ⟨Nat.le_of_ble_eq_true rfl, Nat.le_of_ble_eq_true rfl⟩) (fun H locs hW => ?_)
      refine lv_if_ne (tgt := 34) hx hb dX10_readsItem_29 (by decide) (fun hc29 => ?_) (fun hc29 => ?_)
      · replace hf := z_in hc29 hf
        refine lv_aload_n hx hb dX10_readsItem_34 rfl (lv_at hl 1 rfl) ?_
        obtain ⟨hg13, hf⟩ := z_g hf
        refine z_getI B hW (Or.inl zf_X10_169) rfl hg13 dX10_readsItem_35 ?_
        refine lv_bipush (v := (32 : Int32)) hx hb dX10_readsItem_38 (by decide) ?_
        refine lv_icmp_ge (tgt := 54) hx hb dX10_readsItem_40 (by decide) (fun hc40 => ?_) (fun hc40 => ?_)
        · replace hf := z_ip hc40 hf
          exact t_X10_readsItem_54 B hf hW (lv_sub hl [1, 0] rfl) 
        · replace hf := z_in hc40 hf
          refine lv_aload_n hx hb dX10_readsItem_43 rfl (lv_at hl 1 rfl) ?_
          refine lv_aload_n hx hb dX10_readsItem_44 rfl (lv_at hl 1 rfl) ?_
          refine z_getI B hW (Or.inl zf_X10_169) rfl hg13 dX10_readsItem_45 ?_
          obtain ⟨r15, hq14, hf⟩ := z_b hf
          refine z_ci hW (z_runV (As := [.int (z_I σ12 l0 8)]) (rest := []) B hW zv_X10_45 (K_X10_isStation hq14) hg13 rfl rfl rfl (Nat.le_of_ble_eq_true rfl) hl.1 ⟨Nat.le_of_ble_eq_true rfl, Nat.le_of_ble_eq_true rfl⟩ dX10_readsItem_48 ⟨Nat.le_of_ble_eq_true rfl, Nat.le_of_ble_eq_true rfl⟩) (fun H locs hW => ?_)
          refine lv_if_eq (tgt := 61) hx hb dX10_readsItem_51 (by decide) (fun hc51 => ?_) (fun hc51 => ?_)
          · replace hf := z_ip hc51 hf
            refine lv_aload_n hx hb dX10_readsItem_61 rfl (lv_at hl 1 rfl) ?_
            refine lv_aload_n hx hb dX10_readsItem_62 rfl (lv_at hl 1 rfl) ?_
            refine z_getI B hW (Or.inl zf_X10_169) rfl hg13 dX10_readsItem_63 ?_
            obtain ⟨σ16, hs17, hf⟩ := z_l hf
            refine z_putI B hW zf_X10_181 hg13 rfl hs17 dX10_readsItem_66 (fun H locs hW => ?_)
            refine lv_aload_n hx hb dX10_readsItem_69 rfl (lv_at hl 1 rfl) ?_
            refine lv_aload_n hx hb dX10_readsItem_70 rfl (lv_at hl 1 rfl) ?_
            obtain ⟨hg18, hf⟩ := z_g hf
            refine z_getI B hW (Or.inl zf_X10_169) rfl hg18 dX10_readsItem_71 ?_
            obtain ⟨σ20, hq19, hf⟩ := z_b hf
            refine z_cv hW (z_runV (As := [.int (z_I σ16 l0 8)]) (rest := []) B hW zv_X10_60 (K_X10_adds hq19) hg18 rfl rfl rfl (Nat.le_of_ble_eq_true rfl) hl.1 ⟨Nat.le_of_ble_eq_true rfl, Nat.le_of_ble_eq_true rfl⟩ dX10_readsItem_74 ⟨Nat.le_of_ble_eq_true rfl, Nat.le_of_ble_eq_true rfl⟩) (fun H locs hW => ?_)
            refine lv_aload_n hx hb dX10_readsItem_77 rfl (lv_at hl 1 rfl) ?_
            refine lv_bipush (v := (59 : Int32)) hx hb dX10_readsItem_78 (by decide) ?_
            obtain ⟨hg21, hf⟩ := z_g hf
            obtain ⟨r23, σ24, hq22, hf⟩ := z_b2 hf
            refine z_ci hW (z_runV (As := [.int (59 : Int32)]) (rest := []) B hW zv_X10_175 (K_X10_passesByte hq22) hg21 rfl rfl rfl (Nat.le_of_ble_eq_true rfl) hl.1 ⟨Nat.le_of_ble_eq_true rfl, Nat.le_of_ble_eq_true rfl⟩ dX10_readsItem_80 ⟨Nat.le_of_ble_eq_true rfl, Nat.le_of_ble_eq_true rfl⟩) (fun H locs hW => ?_)
            obtain ⟨hg25, hf⟩ := z_g hf
            obtain ⟨rfl, rfl⟩ := z_e2 hf
            exact z_rz hg25 B hW dX10_readsItem_83 (Nat.le_of_ble_eq_true rfl) (Nat.le_of_ble_eq_true rfl)
          · replace hf := z_in hc51 hf
            exact t_X10_readsItem_54 B hf hW (lv_sub hl [1, 0] rfl) 
      · replace hf := z_ip hc29 hf
        refine lv_iconst (v := (0 : Int32)) hx hb dX10_readsItem_32 (by decide) ?_
        obtain ⟨rfl, rfl⟩ := z_e2 hf
        exact z_rz (by decide) B hW dX10_readsItem_33 (Nat.le_of_ble_eq_true rfl) (Nat.le_of_ble_eq_true rfl)
set_option maxRecDepth 100000 in
def b_X10_parse_88 (l0 : Nat) (l1 : Int32) (σ : zSt) (l2 : Int32) : Option ((zSt × Int32) ⊕ (Int32 × zSt)) :=
(if (942 : Int32) ≤ l2 then
(zex (if z_ob σ l0 9 then (zb (f_X10_save σ l0) (fun σ3 => (if z_ob σ3 l0 9 then (zb (f_X10_takesBack σ3 l0) (fun σ6 => (some (l1, σ6)))) else none))) else none))
else
(if z_ob σ l0 9 then (zc (z_R σ l0 0) none (fun q9 => (if z_ar σ q9 0 then (if z_ix l2 (z_ln σ q9) then (zl (z_I σ q9 l2.toNatClampNeg) (fun x13 => (zc (z_R σ l0 0) none (fun q15 => (zc (z_R σ l0 2) none (fun q17 => (if z_ar σ q17 0 then (if z_ix l2 (z_ln σ q17) then (if z_ar σ q15 0 then (if z_ix l2 (z_ln σ q15) then (zl (z_pI σ q15 l2.toNatClampNeg (z_I σ q17 l2.toNatClampNeg)) (fun σ23 => (if z_ob σ23 l0 9 then (zc (z_R σ23 l0 2) none (fun q26 => (if z_ar σ23 q26 0 then (if z_ix l2 (z_ln σ23 q26) then (zl (z_pI σ23 q26 l2.toNatClampNeg x13) (fun σ30 => (some (.inl (σ30, (l2 + (1 : Int32))))))) else none) else none))) else none))) else none) else none) else none) else none))))))) else none) else none))) else none))
set_option maxRecDepth 100000 in
def f_X10_parse_88 (l0 : Nat) (l1 : Int32) (σ : zSt) (l2 : Int32) : Option (Int32 × zSt) := zloop (fun (t : zSt × Int32) => b_X10_parse_88 l0 l1 t.1 t.2) zN (σ, l2)
set_option maxRecDepth 20000 in
set_option maxHeartbeats 4000000 in
theorem tb_X10_parse_88 (B : z_B p s m args meth c D cA bs RX10 cX10_parse 4 (some .int)) {r : Int32} {σ' : zSt} {o1 : (zSt × Int32) ⊕ (Int32 × zSt)} {l0 : Nat} {l1 : Int32} {σ : zSt} {l2 : Int32} (hf : b_X10_parse_88 l0 l1 σ l2 = some o1) {H : Heap} {locs : List Loc} {ls : Array Slot} (hW : z_Ok D cA bs s σ H locs) (hl : lv_has ls 4 [(0, .ref l0), (1, .int l1), (2, .int l2)]) (hk1 : ∀ (σ : zSt) (l2 : Int32), o1 = .inl (σ, l2) → ∀ {H : Heap} {locs : List Loc} {ls : Array Slot}, z_Ok D cA bs s σ H locs → lv_has ls 4 [(0, .ref l0), (1, .int l1), (2, .int l2)] → W p l e (zrm 4 0 0 89) s m args below meth c H locs 0 0 (MQ below (z_Qi D cA bs r σ') args s 0 0 (fun q => bs ≤ q)) (F0 m 88 ls [])) (hr1 : ∀ x, o1 = .inr x → x = (r, σ')) : W p l e (zrm 4 0 0 89) s m args below meth c H locs 0 0 (MQ below (z_Qi D cA bs r σ') args s 0 0 (fun q => bs ≤ q)) (F0 m 88 ls []) := by
  have hx := B.1
  have hb := B.2.1
  have hown := B.2.2.2.1
  have hts := B.2.2.2.2.1
  unfold b_X10_parse_88 at hf
  refine lv_iload_n hx hb dX10_parse_88 rfl (lv_at hl 2 rfl) ?_
  refine lv_sipush (v := (942 : Int32)) hx hb dX10_parse_89 (by decide) ?_
  refine lv_icmp_ge (tgt := 127) hx hb dX10_parse_92 (by decide) (fun hc92 => ?_) (fun hc92 => ?_)
  · replace hf := z_ip hc92 hf
    obtain ⟨w1, hf, ho7⟩ := z_x hf
    obtain rfl := hr1 _ ho7
    refine lv_aload_n hx hb dX10_parse_127 rfl (lv_at hl 0 rfl) ?_
    obtain ⟨hg1, hf⟩ := z_g hf
    obtain ⟨σ3, hq2, hf⟩ := z_b hf
    refine z_cv hW (z_runV (As := []) (rest := []) B hW zv_X10_57 (K_X10_save hq2) hg1 rfl rfl rfl (Nat.le_of_ble_eq_true rfl) hl.1 ⟨Nat.le_of_ble_eq_true rfl, Nat.le_of_ble_eq_true rfl⟩ dX10_parse_128 ⟨Nat.le_of_ble_eq_true rfl, Nat.le_of_ble_eq_true rfl⟩) (fun H locs hW => ?_)
    refine lv_aload_n hx hb dX10_parse_131 rfl (lv_at hl 0 rfl) ?_
    obtain ⟨hg4, hf⟩ := z_g hf
    obtain ⟨σ6, hq5, hf⟩ := z_b hf
    refine z_cv hW (z_runV (As := []) (rest := []) B hW zv_X10_146 (K_X10_takesBack hq5) hg4 rfl rfl rfl (Nat.le_of_ble_eq_true rfl) hl.1 ⟨Nat.le_of_ble_eq_true rfl, Nat.le_of_ble_eq_true rfl⟩ dX10_parse_132 ⟨Nat.le_of_ble_eq_true rfl, Nat.le_of_ble_eq_true rfl⟩) (fun H locs hW => ?_)
    refine lv_iload_n hx hb dX10_parse_135 rfl (lv_at hl 1 rfl) ?_
    obtain ⟨rfl, rfl⟩ := z_e2 hf
    exact z_ri B hW dX10_parse_136 (Nat.le_of_ble_eq_true rfl) (Nat.le_of_ble_eq_true rfl)
  · replace hf := z_in hc92 hf
    refine lv_aload_n hx hb dX10_parse_95 rfl (lv_at hl 0 rfl) ?_
    obtain ⟨hg8, hf⟩ := z_g hf
    obtain ⟨q9, hv10, hf⟩ := z_nn hf
    refine z_getN B hW (Or.inr zf_X10_7) rfl hg8 hv10 dX10_parse_96 ?_
    refine lv_iload_n hx hb dX10_parse_99 rfl (lv_at hl 2 rfl) ?_
    obtain ⟨hg11, hf⟩ := z_g hf
    obtain ⟨hg12, hf⟩ := z_g hf
    refine z_ald B hW hg11 hg12 dX10_parse_100 ?_
    obtain ⟨x13, hx14, hf⟩ := z_l hf
    rw [hx14]
    refine lv_istore_n (lv' := [(3, .int x13), (0, .ref l0), (1, .int l1), (2, .int l2)]) hx hb dX10_parse_101 rfl hl (by decide) rfl (fun ls hl => ?_)
    refine lv_aload_n hx hb dX10_parse_102 rfl (lv_at hl 1 rfl) ?_
    obtain ⟨q15, hv16, hf⟩ := z_nn hf
    refine z_getN B hW (Or.inr zf_X10_7) rfl hg8 hv16 dX10_parse_103 ?_
    refine lv_iload_n hx hb dX10_parse_106 rfl (lv_at hl 3 rfl) ?_
    refine lv_aload_n hx hb dX10_parse_107 rfl (lv_at hl 1 rfl) ?_
    obtain ⟨q17, hv18, hf⟩ := z_nn hf
    refine z_getN B hW (Or.inr zf_X10_16) rfl hg8 hv18 dX10_parse_108 ?_
    refine lv_iload_n hx hb dX10_parse_111 rfl (lv_at hl 3 rfl) ?_
    obtain ⟨hg19, hf⟩ := z_g hf
    obtain ⟨hg20, hf⟩ := z_g hf
    refine z_ald B hW hg19 hg20 dX10_parse_112 ?_
    obtain ⟨hg21, hf⟩ := z_g hf
    obtain ⟨hg22, hf⟩ := z_g hf
    obtain ⟨σ23, hs24, hf⟩ := z_l hf
    refine z_ast B hW hg21 hg22 hs24 dX10_parse_113 (fun H locs hW => ?_)
    refine lv_aload_n hx hb dX10_parse_114 rfl (lv_at hl 1 rfl) ?_
    obtain ⟨hg25, hf⟩ := z_g hf
    obtain ⟨q26, hv27, hf⟩ := z_nn hf
    refine z_getN B hW (Or.inr zf_X10_16) rfl hg25 hv27 dX10_parse_115 ?_
    refine lv_iload_n hx hb dX10_parse_118 rfl (lv_at hl 3 rfl) ?_
    refine lv_iload_n hx hb dX10_parse_119 rfl (lv_at hl 0 rfl) ?_
    obtain ⟨hg28, hf⟩ := z_g hf
    obtain ⟨hg29, hf⟩ := z_g hf
    obtain ⟨σ30, hs31, hf⟩ := z_l hf
    refine z_ast B hW hg28 hg29 hs31 dX10_parse_120 (fun H locs hW => ?_)
    refine lv_iinc (v := (l2 + (1 : Int32))) (lv' := [(2, .int (l2 + (1 : Int32))), (3, .int x13), (0, .ref l0), (1, .int l1)]) hx hb dX10_parse_121 hl (k := 3) rfl rfl (by decide) rfl (fun ls hl => ?_)
    refine lv_goto (tgt := 88) hx hb dX10_parse_124 (by decide) ?_
    exact hk1 _ _ (Option.some.inj hf).symm hW (lv_sub hl [2, 3, 0] rfl)
set_option maxRecDepth 20000 in
set_option maxHeartbeats 4000000 in
theorem t_X10_parse_88 (B : z_B p s m args meth c D cA bs RX10 cX10_parse 4 (some .int)) {r : Int32} {σ' : zSt} {l0 : Nat} {l1 : Int32}  : ∀ (n : Nat) {σ : zSt} {l2 : Int32}, zloop (fun (t : zSt × Int32) => b_X10_parse_88 l0 l1 t.1 t.2) n (σ, l2) = some (r, σ') → ∀ {H : Heap} {locs : List Loc} {ls : Array Slot}, z_Ok D cA bs s σ H locs → lv_has ls 4 [(0, .ref l0), (1, .int l1), (2, .int l2)] → W p l e (zrm 4 0 0 89) s m args below meth c H locs 0 0 (MQ below (z_Qi D cA bs r σ') args s 0 0 (fun q => bs ≤ q)) (F0 m 88 ls []) := by
  intro n
  induction n with
  | zero => intro σ l2 hf; cases hf
  | succ n ih =>
    intro σ l2 hf H locs ls hW hl
    obtain ⟨o1, hb1, hf⟩ := z_lp hf
    refine tb_X10_parse_88 B hb1 hW hl  (fun σ l2 he H locs ls hW hl => ?_) (fun x he => ?_)
    · rcases hf with ⟨t, ht, hf⟩ | hf
      · rw [he] at ht
        cases ht
        exact ih hf hW hl
      · rw [he] at hf
        cases hf
    · rcases hf with ⟨t, ht, hf⟩ | hf
      · rw [he] at ht
        cases ht
      · rw [he] at hf
        exact Sum.inr.inj hf
set_option maxRecDepth 100000 in
def b_X10_parse_50 (l0 : Nat) (σ : zSt) (l1 : Int32) : Option ((zSt × Int32) ⊕ (Int32 × zSt)) :=
(if z_ob σ l0 9 then (if (z_I σ l0 6) ≤ (z_I σ l0 7) then
(zex (f_X10_parse_88 l0 l1 σ (0 : Int32)))
else
(zb2 (f_X10_readsItem σ l0) (fun r4 σ5 => (if r4 = 0 then
(zex (if z_ob σ5 l0 9 then (zb (f_X10_takesBack σ5 l0) (fun σ8 => (if z_ob σ8 l0 9 then (some (((-10 : Int32) - (z_I σ8 l0 7)), σ8)) else none))) else none))
else
(some (.inl (σ5, (l1 + (1 : Int32))))))))) else none)
set_option maxRecDepth 100000 in
def f_X10_parse_50 (l0 : Nat) (σ : zSt) (l1 : Int32) : Option (Int32 × zSt) := zloop (fun (t : zSt × Int32) => b_X10_parse_50 l0 t.1 t.2) zN (σ, l1)
set_option maxRecDepth 20000 in
set_option maxHeartbeats 4000000 in
theorem tb_X10_parse_50 (B : z_B p s m args meth c D cA bs RX10 cX10_parse 4 (some .int)) {r : Int32} {σ' : zSt} {o1 : (zSt × Int32) ⊕ (Int32 × zSt)} {l0 : Nat} {σ : zSt} {l1 : Int32} (hf : b_X10_parse_50 l0 σ l1 = some o1) {H : Heap} {locs : List Loc} {ls : Array Slot} (hW : z_Ok D cA bs s σ H locs) (hl : lv_has ls 4 [(0, .ref l0), (1, .int l1)]) (hk1 : ∀ (σ : zSt) (l1 : Int32), o1 = .inl (σ, l1) → ∀ {H : Heap} {locs : List Loc} {ls : Array Slot}, z_Ok D cA bs s σ H locs → lv_has ls 4 [(0, .ref l0), (1, .int l1)] → W p l e (zrm 4 0 0 89) s m args below meth c H locs 0 0 (MQ below (z_Qi D cA bs r σ') args s 0 0 (fun q => bs ≤ q)) (F0 m 50 ls [])) (hr1 : ∀ x, o1 = .inr x → x = (r, σ')) : W p l e (zrm 4 0 0 89) s m args below meth c H locs 0 0 (MQ below (z_Qi D cA bs r σ') args s 0 0 (fun q => bs ≤ q)) (F0 m 50 ls []) := by
  have hx := B.1
  have hb := B.2.1
  have hown := B.2.2.2.1
  have hts := B.2.2.2.2.1
  unfold b_X10_parse_50 at hf
  refine lv_aload_n hx hb dX10_parse_50 rfl (lv_at hl 0 rfl) ?_
  obtain ⟨hg1, hf⟩ := z_g hf
  refine z_getI B hW (Or.inl zf_X10_162) rfl hg1 dX10_parse_51 ?_
  refine lv_aload_n hx hb dX10_parse_54 rfl (lv_at hl 0 rfl) ?_
  refine z_getI B hW (Or.inl zf_X10_159) rfl hg1 dX10_parse_55 ?_
  refine lv_icmp_ge (tgt := 86) hx hb dX10_parse_58 (by decide) (fun hc58 => ?_) (fun hc58 => ?_)
  · replace hf := z_ip hc58 hf
    obtain ⟨w1, hf, ho2⟩ := z_x hf
    obtain rfl := hr1 _ ho2
    refine lv_iconst (v := (0 : Int32)) hx hb dX10_parse_86 (by decide) ?_
    refine lv_istore_n (lv' := [(2, .int (0 : Int32)), (0, .ref l0), (1, .int l1)]) hx hb dX10_parse_87 rfl hl (by decide) rfl (fun ls hl => ?_)
    unfold f_X10_parse_88 at hf
    exact t_X10_parse_88 B  zN hf hW (lv_sub hl [1, 2, 0] rfl)
  · replace hf := z_in hc58 hf
    refine lv_aload_n hx hb dX10_parse_61 rfl (lv_at hl 0 rfl) ?_
    obtain ⟨r4, σ5, hq3, hf⟩ := z_b2 hf
    refine z_ci hW (z_runV (As := []) (rest := []) B hW zv_X10_184 (K_X10_readsItem hq3) hg1 rfl rfl rfl (Nat.le_of_ble_eq_true rfl) hl.1 ⟨Nat.le_of_ble_eq_true rfl, Nat.le_of_ble_eq_true rfl⟩ dX10_parse_62 ⟨Nat.le_of_ble_eq_true rfl, Nat.le_of_ble_eq_true rfl⟩) (fun H locs hW => ?_)
    refine lv_if_ne (tgt := 80) hx hb dX10_parse_65 (by decide) (fun hc65 => ?_) (fun hc65 => ?_)
    · replace hf := z_in hc65 hf
      refine lv_iinc (v := (l1 + (1 : Int32))) (lv' := [(1, .int (l1 + (1 : Int32))), (0, .ref l0)]) hx hb dX10_parse_80 hl (k := 1) rfl rfl (by decide) rfl (fun ls hl => ?_)
      refine lv_goto (tgt := 50) hx hb dX10_parse_83 (by decide) ?_
      exact hk1 _ _ (Option.some.inj hf).symm hW (lv_sub hl [1, 0] rfl)
    · replace hf := z_ip hc65 hf
      obtain ⟨w1, hf, ho10⟩ := z_x hf
      obtain rfl := hr1 _ ho10
      refine lv_aload_n hx hb dX10_parse_68 rfl (lv_at hl 0 rfl) ?_
      obtain ⟨hg6, hf⟩ := z_g hf
      obtain ⟨σ8, hq7, hf⟩ := z_b hf
      refine z_cv hW (z_runV (As := []) (rest := []) B hW zv_X10_146 (K_X10_takesBack hq7) hg6 rfl rfl rfl (Nat.le_of_ble_eq_true rfl) hl.1 ⟨Nat.le_of_ble_eq_true rfl, Nat.le_of_ble_eq_true rfl⟩ dX10_parse_69 ⟨Nat.le_of_ble_eq_true rfl, Nat.le_of_ble_eq_true rfl⟩) (fun H locs hW => ?_)
      refine lv_bipush (v := (-10 : Int32)) hx hb dX10_parse_72 (by decide) ?_
      refine lv_aload_n hx hb dX10_parse_74 rfl (lv_at hl 0 rfl) ?_
      obtain ⟨hg9, hf⟩ := z_g hf
      refine z_getI B hW (Or.inl zf_X10_162) rfl hg9 dX10_parse_75 ?_
      refine lv_isub hx hb dX10_parse_78 ?_
      obtain ⟨rfl, rfl⟩ := z_e2 hf
      exact z_ri B hW dX10_parse_79 (Nat.le_of_ble_eq_true rfl) (Nat.le_of_ble_eq_true rfl)
set_option maxRecDepth 20000 in
set_option maxHeartbeats 4000000 in
theorem t_X10_parse_50 (B : z_B p s m args meth c D cA bs RX10 cX10_parse 4 (some .int)) {r : Int32} {σ' : zSt} {l0 : Nat}  : ∀ (n : Nat) {σ : zSt} {l1 : Int32}, zloop (fun (t : zSt × Int32) => b_X10_parse_50 l0 t.1 t.2) n (σ, l1) = some (r, σ') → ∀ {H : Heap} {locs : List Loc} {ls : Array Slot}, z_Ok D cA bs s σ H locs → lv_has ls 4 [(0, .ref l0), (1, .int l1)] → W p l e (zrm 4 0 0 89) s m args below meth c H locs 0 0 (MQ below (z_Qi D cA bs r σ') args s 0 0 (fun q => bs ≤ q)) (F0 m 50 ls []) := by
  intro n
  induction n with
  | zero => intro σ l1 hf; cases hf
  | succ n ih =>
    intro σ l1 hf H locs ls hW hl
    obtain ⟨o1, hb1, hf⟩ := z_lp hf
    refine tb_X10_parse_50 B hb1 hW hl  (fun σ l1 he H locs ls hW hl => ?_) (fun x he => ?_)
    · rcases hf with ⟨t, ht, hf⟩ | hf
      · rw [he] at ht
        cases ht
        exact ih hf hW hl
      · rw [he] at hf
        cases hf
    · rcases hf with ⟨t, ht, hf⟩ | hf
      · rw [he] at ht
        cases ht
      · rw [he] at hf
        exact Sum.inr.inj hf
set_option maxRecDepth 100000 in
def b_X10_parse_11 (l0 : Nat) (σ : zSt) (l1 : Int32) : Option ((zSt × Int32) ⊕ (Int32 × zSt)) :=
(if (942 : Int32) ≤ l1 then
(zex (if z_ob σ l0 9 then (zc (z_R σ l0 0) none (fun q2 => (if z_ar σ q2 0 then (if z_ix (4 : Int32) (z_ln σ q2) then (zl (z_pI σ q2 (4 : Int32).toNatClampNeg (-1 : Int32)) (fun σ6 => (if z_ob σ6 l0 9 then (zl (z_pI σ6 l0 9 (-1 : Int32)) (fun σ9 => (if z_ob σ9 l0 9 then (zl (z_pI σ9 l0 7 (0 : Int32)) (fun σ12 => (f_X10_parse_50 l0 σ12 (0 : Int32)))) else none))) else none))) else none) else none))) else none))
else
(if z_ob σ l0 9 then (zc (z_R σ l0 0) none (fun q16 => (if z_ar σ q16 0 then (if z_ix l1 (z_ln σ q16) then (zl (z_pI σ q16 l1.toNatClampNeg (0 : Int32)) (fun σ20 => (some (.inl (σ20, (l1 + (1 : Int32))))))) else none) else none))) else none))
set_option maxRecDepth 100000 in
def f_X10_parse_11 (l0 : Nat) (σ : zSt) (l1 : Int32) : Option (Int32 × zSt) := zloop (fun (t : zSt × Int32) => b_X10_parse_11 l0 t.1 t.2) zN (σ, l1)
set_option maxRecDepth 20000 in
set_option maxHeartbeats 4000000 in
theorem tb_X10_parse_11 (B : z_B p s m args meth c D cA bs RX10 cX10_parse 4 (some .int)) {r : Int32} {σ' : zSt} {o1 : (zSt × Int32) ⊕ (Int32 × zSt)} {l0 : Nat} {σ : zSt} {l1 : Int32} (hf : b_X10_parse_11 l0 σ l1 = some o1) {H : Heap} {locs : List Loc} {ls : Array Slot} (hW : z_Ok D cA bs s σ H locs) (hl : lv_has ls 4 [(0, .ref l0), (1, .int l1)]) (hk1 : ∀ (σ : zSt) (l1 : Int32), o1 = .inl (σ, l1) → ∀ {H : Heap} {locs : List Loc} {ls : Array Slot}, z_Ok D cA bs s σ H locs → lv_has ls 4 [(0, .ref l0), (1, .int l1)] → W p l e (zrm 4 0 0 89) s m args below meth c H locs 0 0 (MQ below (z_Qi D cA bs r σ') args s 0 0 (fun q => bs ≤ q)) (F0 m 11 ls [])) (hr1 : ∀ x, o1 = .inr x → x = (r, σ')) : W p l e (zrm 4 0 0 89) s m args below meth c H locs 0 0 (MQ below (z_Qi D cA bs r σ') args s 0 0 (fun q => bs ≤ q)) (F0 m 11 ls []) := by
  have hx := B.1
  have hb := B.2.1
  have hown := B.2.2.2.1
  have hts := B.2.2.2.2.1
  unfold b_X10_parse_11 at hf
  refine lv_iload_n hx hb dX10_parse_11 rfl (lv_at hl 1 rfl) ?_
  refine lv_sipush (v := (942 : Int32)) hx hb dX10_parse_12 (by decide) ?_
  refine lv_icmp_ge (tgt := 31) hx hb dX10_parse_15 (by decide) (fun hc15 => ?_) (fun hc15 => ?_)
  · replace hf := z_ip hc15 hf
    obtain ⟨w1, hf, ho14⟩ := z_x hf
    obtain rfl := hr1 _ ho14
    refine lv_aload_n hx hb dX10_parse_31 rfl (lv_at hl 0 rfl) ?_
    obtain ⟨hg1, hf⟩ := z_g hf
    obtain ⟨q2, hv3, hf⟩ := z_nn hf
    refine z_getN B hW (Or.inr zf_X10_7) rfl hg1 hv3 dX10_parse_32 ?_
    refine lv_iconst (v := (4 : Int32)) hx hb dX10_parse_35 (by decide) ?_
    refine lv_iconst (v := (-1 : Int32)) hx hb dX10_parse_36 (by decide) ?_
    obtain ⟨hg4, hf⟩ := z_g hf
    obtain ⟨hg5, hf⟩ := z_g hf
    obtain ⟨σ6, hs7, hf⟩ := z_l hf
    refine z_ast B hW hg4 hg5 hs7 dX10_parse_37 (fun H locs hW => ?_)
    refine lv_aload_n hx hb dX10_parse_38 rfl (lv_at hl 0 rfl) ?_
    refine lv_iconst (v := (-1 : Int32)) hx hb dX10_parse_39 (by decide) ?_
    obtain ⟨hg8, hf⟩ := z_g hf
    obtain ⟨σ9, hs10, hf⟩ := z_l hf
    refine z_putI B hW zf_X10_181 hg8 rfl hs10 dX10_parse_40 (fun H locs hW => ?_)
    refine lv_aload_n hx hb dX10_parse_43 rfl (lv_at hl 0 rfl) ?_
    refine lv_iconst (v := (0 : Int32)) hx hb dX10_parse_44 (by decide) ?_
    obtain ⟨hg11, hf⟩ := z_g hf
    obtain ⟨σ12, hs13, hf⟩ := z_l hf
    refine z_putI B hW zf_X10_162 hg11 rfl hs13 dX10_parse_45 (fun H locs hW => ?_)
    refine lv_iconst (v := (0 : Int32)) hx hb dX10_parse_48 (by decide) ?_
    refine lv_istore_n (lv' := [(1, .int (0 : Int32)), (0, .ref l0)]) hx hb dX10_parse_49 rfl hl (by decide) rfl (fun ls hl => ?_)
    unfold f_X10_parse_50 at hf
    exact t_X10_parse_50 B  zN hf hW (lv_sub hl [1, 0] rfl)
  · replace hf := z_in hc15 hf
    refine lv_aload_n hx hb dX10_parse_18 rfl (lv_at hl 0 rfl) ?_
    obtain ⟨hg15, hf⟩ := z_g hf
    obtain ⟨q16, hv17, hf⟩ := z_nn hf
    refine z_getN B hW (Or.inr zf_X10_7) rfl hg15 hv17 dX10_parse_19 ?_
    refine lv_iload_n hx hb dX10_parse_22 rfl (lv_at hl 1 rfl) ?_
    refine lv_iconst (v := (0 : Int32)) hx hb dX10_parse_23 (by decide) ?_
    obtain ⟨hg18, hf⟩ := z_g hf
    obtain ⟨hg19, hf⟩ := z_g hf
    obtain ⟨σ20, hs21, hf⟩ := z_l hf
    refine z_ast B hW hg18 hg19 hs21 dX10_parse_24 (fun H locs hW => ?_)
    refine lv_iinc (v := (l1 + (1 : Int32))) (lv' := [(1, .int (l1 + (1 : Int32))), (0, .ref l0)]) hx hb dX10_parse_25 hl (k := 1) rfl rfl (by decide) rfl (fun ls hl => ?_)
    refine lv_goto (tgt := 11) hx hb dX10_parse_28 (by decide) ?_
    exact hk1 _ _ (Option.some.inj hf).symm hW (lv_sub hl [1, 0] rfl)
set_option maxRecDepth 20000 in
set_option maxHeartbeats 4000000 in
theorem t_X10_parse_11 (B : z_B p s m args meth c D cA bs RX10 cX10_parse 4 (some .int)) {r : Int32} {σ' : zSt} {l0 : Nat}  : ∀ (n : Nat) {σ : zSt} {l1 : Int32}, zloop (fun (t : zSt × Int32) => b_X10_parse_11 l0 t.1 t.2) n (σ, l1) = some (r, σ') → ∀ {H : Heap} {locs : List Loc} {ls : Array Slot}, z_Ok D cA bs s σ H locs → lv_has ls 4 [(0, .ref l0), (1, .int l1)] → W p l e (zrm 4 0 0 89) s m args below meth c H locs 0 0 (MQ below (z_Qi D cA bs r σ') args s 0 0 (fun q => bs ≤ q)) (F0 m 11 ls []) := by
  intro n
  induction n with
  | zero => intro σ l1 hf; cases hf
  | succ n ih =>
    intro σ l1 hf H locs ls hW hl
    obtain ⟨o1, hb1, hf⟩ := z_lp hf
    refine tb_X10_parse_11 B hb1 hW hl  (fun σ l1 he H locs ls hW hl => ?_) (fun x he => ?_)
    · rcases hf with ⟨t, ht, hf⟩ | hf
      · rw [he] at ht
        cases ht
        exact ih hf hW hl
      · rw [he] at hf
        cases hf
    · rcases hf with ⟨t, ht, hf⟩ | hf
      · rw [he] at ht
        cases ht
      · rw [he] at hf
        exact Sum.inr.inj hf
set_option maxRecDepth 100000 in
def f_X10_parse (σ : zSt) (l0 : Nat) : Option (Int32 × zSt) :=
(if z_ob σ l0 9 then (zl (z_pI σ l0 4 (0 : Int32)) (fun σ2 => (if z_ob σ2 l0 9 then (zb (f_X10_lays σ2 l0) (fun σ6 => (f_X10_parse_11 l0 σ6 (3 : Int32)))) else none))) else none)
set_option maxRecDepth 20000 in
set_option maxHeartbeats 4000000 in
theorem K_X10_parse {σ : zSt} {l0 : Nat} {r : Int32} {σ' : zSt} (hf : f_X10_parse σ l0 = some (r, σ')) : z_M l D cA bs yX10_parse cX10_parse 4 (some .int) 4 89 0 0 [.ref l0] σ (z_Qi D cA bs r σ') := by
  refine z_met (own := RX10) (lv := [(0, .ref l0)]) (by decide) rfl (Nat.le_of_ble_eq_true rfl) rfl (fun p e s m below meth c ls B hnm hW hl => ?_)
  have hx := B.1
  have hb := B.2.1
  have hown := B.2.2.2.1
  have hts := B.2.2.2.2.1
  unfold f_X10_parse at hf
  refine lv_aload_n hx hb dX10_parse_0 rfl (lv_at hl 0 rfl) ?_
  refine lv_iconst (v := (0 : Int32)) hx hb dX10_parse_1 (by decide) ?_
  obtain ⟨hg1, hf⟩ := z_g hf
  obtain ⟨σ2, hs3, hf⟩ := z_l hf
  refine z_putI B hW zf_X10_22 hg1 rfl hs3 dX10_parse_2 (fun H locs hW => ?_)
  refine lv_aload_n hx hb dX10_parse_5 rfl (lv_at hl 0 rfl) ?_
  obtain ⟨hg4, hf⟩ := z_g hf
  obtain ⟨σ6, hq5, hf⟩ := z_b hf
  refine z_cv hW (z_runV (As := []) (rest := []) B hW zv_X10_143 (K_X10_lays hq5) hg4 rfl rfl rfl (Nat.le_of_ble_eq_true rfl) hl.1 ⟨Nat.le_of_ble_eq_true rfl, Nat.le_of_ble_eq_true rfl⟩ dX10_parse_6 ⟨Nat.le_of_ble_eq_true rfl, Nat.le_of_ble_eq_true rfl⟩) (fun H locs hW => ?_)
  refine lv_iconst (v := (3 : Int32)) hx hb dX10_parse_9 (by decide) ?_
  refine lv_istore_n (lv' := [(1, .int (3 : Int32)), (0, .ref l0)]) hx hb dX10_parse_10 rfl hl (by decide) rfl (fun ls hl => ?_)
  unfold f_X10_parse_11 at hf
  exact t_X10_parse_11 B  zN hf hW (lv_sub hl [1, 0] rfl)
end GEN
