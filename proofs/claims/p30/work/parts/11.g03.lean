section GEN
variable {p : Program} {l : Launch} {e : Env} {s : State} {m : MethodId} {args : Array Value} {below : List Frame} {meth : Method} {c : Code} {D : va_G} {cA : Nat → ClassId} {bs : Nat}
set_option maxRecDepth 100000 in
def f_X1_stateAt_23 (σ : zSt) (s0 : Option Nat) : Option (Option Nat) :=
(some s0)
set_option maxRecDepth 20000 in
set_option maxHeartbeats 4000000 in
theorem t_X1_stateAt_23 (B : z_B p s m args meth c D cA bs RX1 cX1_stateAt 2 (some (.object "TokenBus$Line"))) {r : Option Nat} {σ : zSt} {s0 : Option Nat} (hf : f_X1_stateAt_23 σ s0 = some r) {H : Heap} {locs : List Loc} {ls : Array Slot} (hW : z_Ok D cA bs s σ H locs) (hl : lv_has ls 2 [])  : W p l e (zrm 0 0 0 0) s m args below meth c H locs 0 0 (MQ below (z_Qq D cA bs r σ) args s 0 0 (fun q => bs ≤ q)) (F0 m 23 ls [va_rf s0]) := by
  have hx := B.1
  have hb := B.2.1
  have hown := B.2.2.2.1
  have hts := B.2.2.2.2.1
  unfold f_X1_stateAt_23 at hf
  obtain rfl := z_e1 hf
  exact z_rq B hW dX1_stateAt_23 (Nat.le_of_ble_eq_true rfl) (Nat.le_of_ble_eq_true rfl)
set_option maxRecDepth 100000 in
def f_X1_stateAt_22 (σ : zSt) : Option (Option Nat) :=
(f_X1_stateAt_23 σ none)
set_option maxRecDepth 20000 in
set_option maxHeartbeats 4000000 in
theorem t_X1_stateAt_22 (B : z_B p s m args meth c D cA bs RX1 cX1_stateAt 2 (some (.object "TokenBus$Line"))) {r : Option Nat} {σ : zSt} (hf : f_X1_stateAt_22 σ = some r) {H : Heap} {locs : List Loc} {ls : Array Slot} (hW : z_Ok D cA bs s σ H locs) (hl : lv_has ls 2 [])  : W p l e (zrm 0 0 0 0) s m args below meth c H locs 0 0 (MQ below (z_Qq D cA bs r σ) args s 0 0 (fun q => bs ≤ q)) (F0 m 22 ls []) := by
  have hx := B.1
  have hb := B.2.1
  have hown := B.2.2.2.1
  have hts := B.2.2.2.2.1
  unfold f_X1_stateAt_22 at hf
  refine lv_null hx hb dX1_stateAt_22 ?_
  exact t_X1_stateAt_23 B hf hW hl 
set_option maxRecDepth 100000 in
def f_X1_stateAt (σ : zSt) (l0 : Nat) (l1 : Int32) : Option (Option Nat) :=
(if l1 < 0 then
(f_X1_stateAt_22 σ)
else
(if z_ob σ l0 1 then (zc (z_R σ l0 0) none (fun q2 => (if z_ar σ q2 4 then (if (Int32.ofNat (z_ln σ q2)) ≤ l1 then
(f_X1_stateAt_22 σ)
else
(zc (z_R σ l0 0) none (fun q5 => (if z_ar σ q5 4 then (if z_ix l1 (z_ln σ q5) then (zl (z_R σ q5 l1.toNatClampNeg) (fun v9 => (f_X1_stateAt_23 σ v9))) else none) else none)))) else none))) else none))
set_option maxRecDepth 20000 in
set_option maxHeartbeats 4000000 in
theorem K_X1_stateAt {σ : zSt} {l0 : Nat} {l1 : Int32} {r : Option Nat} (hf : f_X1_stateAt σ l0 l1 = some r) : z_M l D cA bs yX1_stateAt cX1_stateAt 2 (some (.object "TokenBus$Line")) 0 0 0 0 [.ref l0, .int l1] σ (z_Qq D cA bs r σ) := by
  refine z_met (own := RX1) (lv := [(0, .ref l0), (1, .int l1)]) (by decide) rfl (Nat.le_of_ble_eq_true rfl) rfl (fun p e s m below meth c ls B hnm hW hl => ?_)
  have hx := B.1
  have hb := B.2.1
  have hown := B.2.2.2.1
  have hts := B.2.2.2.2.1
  unfold f_X1_stateAt at hf
  refine lv_iload_n hx hb dX1_stateAt_0 rfl (lv_at hl 1 rfl) ?_
  refine lv_if_lt (tgt := 22) hx hb dX1_stateAt_1 (by decide) (fun hc1 => ?_) (fun hc1 => ?_)
  · replace hf := z_ip hc1 hf
    exact t_X1_stateAt_22 B hf hW (lv_sub hl [] rfl) 
  · replace hf := z_in hc1 hf
    refine lv_iload_n hx hb dX1_stateAt_4 rfl (lv_at hl 1 rfl) ?_
    refine lv_aload_n hx hb dX1_stateAt_5 rfl (lv_at hl 0 rfl) ?_
    obtain ⟨hg1, hf⟩ := z_g hf
    obtain ⟨q2, hv3, hf⟩ := z_nn hf
    refine z_getN B hW (Or.inr zf_X1_11) rfl hg1 hv3 dX1_stateAt_6 ?_
    obtain ⟨hg4, hf⟩ := z_g hf
    refine z_alen (t := 4) (by decide) B hW hg4 dX1_stateAt_9 ?_
    refine lv_icmp_ge (tgt := 22) hx hb dX1_stateAt_10 (by decide) (fun hc10 => ?_) (fun hc10 => ?_)
    · replace hf := z_ip hc10 hf
      exact t_X1_stateAt_22 B hf hW (lv_sub hl [] rfl) 
    · replace hf := z_in hc10 hf
      refine lv_aload_n hx hb dX1_stateAt_13 rfl (lv_at hl 0 rfl) ?_
      obtain ⟨q5, hv6, hf⟩ := z_nn hf
      refine z_getN B hW (Or.inr zf_X1_11) rfl hg1 hv6 dX1_stateAt_14 ?_
      refine lv_iload_n hx hb dX1_stateAt_17 rfl (lv_at hl 1 rfl) ?_
      obtain ⟨hg7, hf⟩ := z_g hf
      obtain ⟨hg8, hf⟩ := z_g hf
      obtain ⟨v9, hv10, hf⟩ := z_l hf
      refine z_aald (by decide) B hW hg7 hg8 hv10 dX1_stateAt_18 ?_
      refine lv_goto (tgt := 23) hx hb dX1_stateAt_19 (by decide) ?_
      exact t_X1_stateAt_23 B hf hW (lv_sub hl [] rfl) 
set_option maxRecDepth 100000 in
def f_X1_dropOldest_60 (σ : zSt) : Option (zSt) :=
(some σ)
set_option maxRecDepth 20000 in
set_option maxHeartbeats 4000000 in
theorem t_X1_dropOldest_60 (B : z_B p s m args meth c D cA bs RX1 cX1_dropOldest 3 none)  {σ' : zSt} {σ : zSt} (hf : f_X1_dropOldest_60 σ = some σ') {H : Heap} {locs : List Loc} {ls : Array Slot} (hW : z_Ok D cA bs s σ H locs) (hl : lv_has ls 3 [])  : W p l e (zrm 1 0 0 21) s m args below meth c H locs 0 0 (MQ below (z_Qv D cA bs σ') args s 0 0 (fun q => bs ≤ q)) (F0 m 60 ls []) := by
  have hx := B.1
  have hb := B.2.1
  have hown := B.2.2.2.1
  have hts := B.2.2.2.2.1
  unfold f_X1_dropOldest_60 at hf
  obtain rfl := z_e1 hf
  exact z_rv B hW dX1_dropOldest_60 (Nat.le_of_ble_eq_true rfl) (Nat.le_of_ble_eq_true rfl)
set_option maxRecDepth 100000 in
def b_X1_dropOldest_8 (l0 : Nat) (l1 : Option Nat) (σ : zSt) (l2 : Int32) : Option ((zSt × Int32) ⊕ (zSt)) :=
(if z_ob σ l0 1 then (zc (z_R σ l0 0) none (fun q2 => (if z_ar σ q2 4 then (if (Int32.ofNat (z_ln σ q2)) ≤ (l2 + (1 : Int32)) then
(zex (zc (z_R σ l0 0) none (fun q5 => (if z_ar σ q5 4 then (if (Int32.ofNat (z_ln σ q5)) ≤ l2 then
(f_X1_dropOldest_60 σ)
else
(zc (z_R σ l0 0) none (fun q8 => (zc l1 none (fun a10 => (if z_ar σ q8 4 then (if z_ix l2 (z_ln σ q8) then (if z_ob σ a10 2 then (zl (z_pR σ q8 l2.toNatClampNeg (some a10)) (fun σ15 => (if z_ob σ15 l0 1 then (zl (z_pI σ15 l0 1 l2) (fun σ18 => (f_X1_dropOldest_60 σ18))) else none))) else none) else none) else none)))))) else none))))
else
(zc (z_R σ l0 0) none (fun q21 => (zc (z_R σ l0 0) none (fun q23 => (if z_ar σ q23 4 then (if z_ix (l2 + (1 : Int32)) (z_ln σ q23) then (zl (z_R σ q23 (l2 + (1 : Int32)).toNatClampNeg) (fun v27 => (zc v27 none (fun a29 => (if z_ar σ q21 4 then (if z_ix l2 (z_ln σ q21) then (if z_ob σ a29 2 then (zl (z_pR σ q21 l2.toNatClampNeg (some a29)) (fun σ34 => (some (.inl (σ34, (l2 + (1 : Int32))))))) else none) else none) else none))))) else none) else none)))))) else none))) else none)
set_option maxRecDepth 100000 in
def f_X1_dropOldest_8 (l0 : Nat) (l1 : Option Nat) (σ : zSt) (l2 : Int32) : Option (zSt) := zloop (fun (t : zSt × Int32) => b_X1_dropOldest_8 l0 l1 t.1 t.2) zN (σ, l2)
set_option maxRecDepth 20000 in
set_option maxHeartbeats 4000000 in
theorem tb_X1_dropOldest_8 (B : z_B p s m args meth c D cA bs RX1 cX1_dropOldest 3 none)  {σ' : zSt} {o1 : (zSt × Int32) ⊕ (zSt)} {l0 : Nat} {l1 : Option Nat} {σ : zSt} {l2 : Int32} (hf : b_X1_dropOldest_8 l0 l1 σ l2 = some o1) {H : Heap} {locs : List Loc} {ls : Array Slot} (hW : z_Ok D cA bs s σ H locs) (hl : lv_has ls 3 [(0, .ref l0), (1, va_rf l1), (2, .int l2)]) (hk1 : ∀ (σ : zSt) (l2 : Int32), o1 = .inl (σ, l2) → ∀ {H : Heap} {locs : List Loc} {ls : Array Slot}, z_Ok D cA bs s σ H locs → lv_has ls 3 [(0, .ref l0), (1, va_rf l1), (2, .int l2)] → W p l e (zrm 1 0 0 21) s m args below meth c H locs 0 0 (MQ below (z_Qv D cA bs σ') args s 0 0 (fun q => bs ≤ q)) (F0 m 8 ls [])) (hr1 : ∀ x, o1 = .inr x → x = σ') : W p l e (zrm 1 0 0 21) s m args below meth c H locs 0 0 (MQ below (z_Qv D cA bs σ') args s 0 0 (fun q => bs ≤ q)) (F0 m 8 ls []) := by
  have hx := B.1
  have hb := B.2.1
  have hown := B.2.2.2.1
  have hts := B.2.2.2.2.1
  unfold b_X1_dropOldest_8 at hf
  refine lv_iload_n hx hb dX1_dropOldest_8 rfl (lv_at hl 2 rfl) ?_
  refine lv_iconst (v := (1 : Int32)) hx hb dX1_dropOldest_9 (by decide) ?_
  refine lv_iadd hx hb dX1_dropOldest_10 ?_
  refine lv_aload_n hx hb dX1_dropOldest_11 rfl (lv_at hl 0 rfl) ?_
  obtain ⟨hg1, hf⟩ := z_g hf
  obtain ⟨q2, hv3, hf⟩ := z_nn hf
  refine z_getN B hW (Or.inr zf_X1_11) rfl hg1 hv3 dX1_dropOldest_12 ?_
  obtain ⟨hg4, hf⟩ := z_g hf
  refine z_alen (t := 4) (by decide) B hW hg4 dX1_dropOldest_15 ?_
  refine lv_icmp_ge (tgt := 39) hx hb dX1_dropOldest_16 (by decide) (fun hc16 => ?_) (fun hc16 => ?_)
  · replace hf := z_ip hc16 hf
    obtain ⟨w1, hf, ho20⟩ := z_x hf
    obtain rfl := hr1 _ ho20
    refine lv_iload_n hx hb dX1_dropOldest_39 rfl (lv_at hl 2 rfl) ?_
    refine lv_aload_n hx hb dX1_dropOldest_40 rfl (lv_at hl 0 rfl) ?_
    obtain ⟨q5, hv6, hf⟩ := z_nn hf
    refine z_getN B hW (Or.inr zf_X1_11) rfl hg1 hv6 dX1_dropOldest_41 ?_
    obtain ⟨hg7, hf⟩ := z_g hf
    refine z_alen (t := 4) (by decide) B hW hg7 dX1_dropOldest_44 ?_
    refine lv_icmp_ge (tgt := 60) hx hb dX1_dropOldest_45 (by decide) (fun hc45 => ?_) (fun hc45 => ?_)
    · replace hf := z_ip hc45 hf
      exact t_X1_dropOldest_60 B hf hW (lv_sub hl [] rfl) 
    · replace hf := z_in hc45 hf
      refine lv_aload_n hx hb dX1_dropOldest_48 rfl (lv_at hl 0 rfl) ?_
      obtain ⟨q8, hv9, hf⟩ := z_nn hf
      refine z_getN B hW (Or.inr zf_X1_11) rfl hg1 hv9 dX1_dropOldest_49 ?_
      refine lv_iload_n hx hb dX1_dropOldest_52 rfl (lv_at hl 2 rfl) ?_
      refine z_aload_n hx hb dX1_dropOldest_53 rfl (lv_at hl 1 rfl) ?_
      obtain ⟨a10, hn11, hf⟩ := z_nn hf
      subst hn11
      obtain ⟨hg12, hf⟩ := z_g hf
      obtain ⟨hg13, hf⟩ := z_g hf
      obtain ⟨hg14, hf⟩ := z_g hf
      obtain ⟨σ15, hs16, hf⟩ := z_l hf
      refine z_aast (by decide) B hW hg12 hg13 hg14 hs16 dX1_dropOldest_54 (fun H locs hW => ?_)
      refine lv_aload_n hx hb dX1_dropOldest_55 rfl (lv_at hl 0 rfl) ?_
      refine lv_iload_n hx hb dX1_dropOldest_56 rfl (lv_at hl 2 rfl) ?_
      obtain ⟨hg17, hf⟩ := z_g hf
      obtain ⟨σ18, hs19, hf⟩ := z_l hf
      refine z_putI B hW zf_X1_18 hg17 rfl hs19 dX1_dropOldest_57 (fun H locs hW => ?_)
      exact t_X1_dropOldest_60 B hf hW (lv_sub hl [] rfl) 
  · replace hf := z_in hc16 hf
    refine lv_aload_n hx hb dX1_dropOldest_19 rfl (lv_at hl 0 rfl) ?_
    obtain ⟨q21, hv22, hf⟩ := z_nn hf
    refine z_getN B hW (Or.inr zf_X1_11) rfl hg1 hv22 dX1_dropOldest_20 ?_
    refine lv_iload_n hx hb dX1_dropOldest_23 rfl (lv_at hl 2 rfl) ?_
    refine lv_aload_n hx hb dX1_dropOldest_24 rfl (lv_at hl 0 rfl) ?_
    obtain ⟨q23, hv24, hf⟩ := z_nn hf
    refine z_getN B hW (Or.inr zf_X1_11) rfl hg1 hv24 dX1_dropOldest_25 ?_
    refine lv_iload_n hx hb dX1_dropOldest_28 rfl (lv_at hl 2 rfl) ?_
    refine lv_iconst (v := (1 : Int32)) hx hb dX1_dropOldest_29 (by decide) ?_
    refine lv_iadd hx hb dX1_dropOldest_30 ?_
    obtain ⟨hg25, hf⟩ := z_g hf
    obtain ⟨hg26, hf⟩ := z_g hf
    obtain ⟨v27, hv28, hf⟩ := z_l hf
    refine z_aald (by decide) B hW hg25 hg26 hv28 dX1_dropOldest_31 ?_
    obtain ⟨a29, hn30, hf⟩ := z_nn hf
    subst hn30
    obtain ⟨hg31, hf⟩ := z_g hf
    obtain ⟨hg32, hf⟩ := z_g hf
    obtain ⟨hg33, hf⟩ := z_g hf
    obtain ⟨σ34, hs35, hf⟩ := z_l hf
    refine z_aast (by decide) B hW hg31 hg32 hg33 hs35 dX1_dropOldest_32 (fun H locs hW => ?_)
    refine lv_iinc (v := (l2 + (1 : Int32))) (lv' := [(2, .int (l2 + (1 : Int32))), (0, .ref l0), (1, va_rf l1)]) hx hb dX1_dropOldest_33 hl (k := 2) rfl rfl (by decide) (by simp [z_cat, z_k1, z_k2, z_k3, z_k4, z_k5]) (fun ls hl => ?_)
    refine lv_goto (tgt := 8) hx hb dX1_dropOldest_36 (by decide) ?_
    exact hk1 _ _ (Option.some.inj hf).symm hW (lv_sub hl [1, 2, 0] rfl)
set_option maxRecDepth 20000 in
set_option maxHeartbeats 4000000 in
theorem t_X1_dropOldest_8 (B : z_B p s m args meth c D cA bs RX1 cX1_dropOldest 3 none)  {σ' : zSt} {l0 : Nat} {l1 : Option Nat}  : ∀ (n : Nat) {σ : zSt} {l2 : Int32}, zloop (fun (t : zSt × Int32) => b_X1_dropOldest_8 l0 l1 t.1 t.2) n (σ, l2) = some σ' → ∀ {H : Heap} {locs : List Loc} {ls : Array Slot}, z_Ok D cA bs s σ H locs → lv_has ls 3 [(0, .ref l0), (1, va_rf l1), (2, .int l2)] → W p l e (zrm 1 0 0 21) s m args below meth c H locs 0 0 (MQ below (z_Qv D cA bs σ') args s 0 0 (fun q => bs ≤ q)) (F0 m 8 ls []) := by
  intro n
  induction n with
  | zero => intro σ l2 hf; cases hf
  | succ n ih =>
    intro σ l2 hf H locs ls hW hl
    obtain ⟨o1, hb1, hf⟩ := z_lp hf
    refine tb_X1_dropOldest_8 B hb1 hW hl  (fun σ l2 he H locs ls hW hl => ?_) (fun x he => ?_)
    · rcases hf with ⟨t, ht, hf⟩ | hf
      · rw [he] at ht
        cases ht
        exact ih hf hW hl
      · rw [he] at hf
        cases hf
    · rcases hf with ⟨t, ht, hf⟩ | hf
      · rw [he] at ht
        cases ht
      · rw [he] at hf
        exact Sum.inr.inj hf
set_option maxRecDepth 100000 in
def f_X1_dropOldest (σ : zSt) (l0 : Nat) : Option (zSt) :=
(if z_ob σ l0 1 then (zb (f_X1_stateAt σ l0 (0 : Int32)) (fun r3 => (f_X1_dropOldest_8 l0 r3 σ (0 : Int32)))) else none)
set_option maxRecDepth 20000 in
set_option maxHeartbeats 4000000 in
theorem K_X1_dropOldest {σ : zSt} {l0 : Nat}  {σ' : zSt} (hf : f_X1_dropOldest σ l0 = some σ') : z_M l D cA bs yX1_dropOldest cX1_dropOldest 3 none 1 21 0 0 [.ref l0] σ (z_Qv D cA bs σ') := by
  refine z_met (own := RX1) (lv := [(0, .ref l0)]) (by decide) rfl (Nat.le_of_ble_eq_true rfl) rfl (fun p e s m below meth c ls B hnm hW hl => ?_)
  have hx := B.1
  have hb := B.2.1
  have hown := B.2.2.2.1
  have hts := B.2.2.2.2.1
  unfold f_X1_dropOldest at hf
  refine lv_aload_n hx hb dX1_dropOldest_0 rfl (lv_at hl 0 rfl) ?_
  refine lv_iconst (v := (0 : Int32)) hx hb dX1_dropOldest_1 (by decide) ?_
  obtain ⟨hg1, hf⟩ := z_g hf
  obtain ⟨r3, hq2, hf⟩ := z_b hf
  refine z_cq hW (z_runV (As := [.int (0 : Int32)]) (rest := []) B hW zv_X1_25 (K_X1_stateAt hq2) hg1 rfl rfl rfl (Nat.le_of_ble_eq_true rfl) hl.1 ⟨Nat.le_of_ble_eq_true rfl, Nat.le_of_ble_eq_true rfl⟩ dX1_dropOldest_2 ⟨Nat.le_of_ble_eq_true rfl, Nat.le_of_ble_eq_true rfl⟩) (fun H locs hW => ?_)
  refine z_astore_n (lv' := [(1, va_rf r3), (0, .ref l0)]) hx hb dX1_dropOldest_5 rfl hl (by decide) rfl (fun ls hl => ?_)
  refine lv_iconst (v := (0 : Int32)) hx hb dX1_dropOldest_6 (by decide) ?_
  refine lv_istore_n (lv' := [(2, .int (0 : Int32)), (1, va_rf r3), (0, .ref l0)]) hx hb dX1_dropOldest_7 rfl hl (by decide) (by simp [z_cat, z_k1, z_k2, z_k3, z_k4, z_k5]) (fun ls hl => ?_)
  unfold f_X1_dropOldest_8 at hf
  exact t_X1_dropOldest_8 B  zN hf hW (lv_sub hl [2, 1, 0] rfl)
set_option maxRecDepth 100000 in
def f_X2_takeTimes (σ : zSt) (l0 : Nat) (l1 : Nat) : Option (zSt) :=
(if z_ob σ l1 2 then (if z_ob σ l0 2 then (zl (z_pI σ l0 6 (z_I σ l1 6)) (fun σ3 => (if z_ob σ3 l1 2 then (if z_ob σ3 l0 2 then (zl (z_pI σ3 l0 7 (z_I σ3 l1 7)) (fun σ7 => (if z_ob σ7 l1 2 then (if z_ob σ7 l0 2 then (zl (z_pI σ7 l0 8 (z_I σ7 l1 8)) (fun σ11 => (some σ11))) else none) else none))) else none) else none))) else none) else none)
set_option maxRecDepth 20000 in
set_option maxHeartbeats 4000000 in
theorem K_X2_takeTimes {σ : zSt} {l0 : Nat} {l1 : Nat}  {σ' : zSt} (hf : f_X2_takeTimes σ l0 l1 = some σ') : z_M l D cA bs yX2_takeTimes cX2_takeTimes 2 none 0 0 0 0 [.ref l0, .ref l1] σ (z_Qv D cA bs σ') := by
  refine z_met (own := RX2) (lv := [(0, .ref l0), (1, .ref l1)]) (by decide) rfl (Nat.le_of_ble_eq_true rfl) rfl (fun p e s m below meth c ls B hnm hW hl => ?_)
  have hx := B.1
  have hb := B.2.1
  have hown := B.2.2.2.1
  have hts := B.2.2.2.2.1
  unfold f_X2_takeTimes at hf
  refine lv_aload_n hx hb dX2_takeTimes_0 rfl (lv_at hl 0 rfl) ?_
  refine lv_aload_n hx hb dX2_takeTimes_1 rfl (lv_at hl 1 rfl) ?_
  obtain ⟨hg1, hf⟩ := z_g hf
  refine z_getI B hW (Or.inl zf_X2_47) rfl hg1 dX2_takeTimes_2 ?_
  obtain ⟨hg2, hf⟩ := z_g hf
  obtain ⟨σ3, hs4, hf⟩ := z_l hf
  refine z_putI B hW zf_X2_47 hg2 rfl hs4 dX2_takeTimes_5 (fun H locs hW => ?_)
  refine lv_aload_n hx hb dX2_takeTimes_8 rfl (lv_at hl 0 rfl) ?_
  refine lv_aload_n hx hb dX2_takeTimes_9 rfl (lv_at hl 1 rfl) ?_
  obtain ⟨hg5, hf⟩ := z_g hf
  refine z_getI B hW (Or.inl zf_X2_51) rfl hg5 dX2_takeTimes_10 ?_
  obtain ⟨hg6, hf⟩ := z_g hf
  obtain ⟨σ7, hs8, hf⟩ := z_l hf
  refine z_putI B hW zf_X2_51 hg6 rfl hs8 dX2_takeTimes_13 (fun H locs hW => ?_)
  refine lv_aload_n hx hb dX2_takeTimes_16 rfl (lv_at hl 0 rfl) ?_
  refine lv_aload_n hx hb dX2_takeTimes_17 rfl (lv_at hl 1 rfl) ?_
  obtain ⟨hg9, hf⟩ := z_g hf
  refine z_getI B hW (Or.inl zf_X2_54) rfl hg9 dX2_takeTimes_18 ?_
  obtain ⟨hg10, hf⟩ := z_g hf
  obtain ⟨σ11, hs12, hf⟩ := z_l hf
  refine z_putI B hW zf_X2_54 hg10 rfl hs12 dX2_takeTimes_21 (fun H locs hW => ?_)
  obtain rfl := z_e1 hf
  exact z_rv B hW dX2_takeTimes_24 (Nat.le_of_ble_eq_true rfl) (Nat.le_of_ble_eq_true rfl)
set_option maxRecDepth 100000 in
def f_X7_copyFrom (σ : zSt) (l0 : Nat) (l1 : Nat) (l2 : Int32) : Option (zSt) :=
(if z_ob σ l0 7 then (zc (z_R σ l0 1) none (fun q2 => (if z_ar σ q2 0 then (if z_ob σ l1 7 then (zc (z_R σ l1 1) none (fun q6 => (if z_ar σ q6 0 then (zl (if (Int32.ofNat (z_ln σ q6)) < (Int32.ofNat (z_ln σ q2)) then (Int32.ofNat (z_ln σ q6)) else (Int32.ofNat (z_ln σ q2))) (fun x9 => (zl (if (0 : Int32) < (if (l2 * (z_I σ l0 0)) < x9 then (l2 * (z_I σ l0 0)) else x9) then (if (l2 * (z_I σ l0 0)) < x9 then (l2 * (z_I σ l0 0)) else x9) else (0 : Int32)) (fun x11 => (zc (z_R σ l1 1) none (fun q13 => (zc (z_R σ l0 1) none (fun q15 => (if z_ar σ q13 0 then (if z_ar σ q15 0 then (if z_cpg q13 q15 (0 : Int32) (0 : Int32) x11 (z_ln σ q13) (z_ln σ q15) then (zl (z_cp σ q13 q15 (0 : Int32) (0 : Int32) x11) (fun σ20 => (some σ20))) else none) else none) else none))))))))) else none))) else none) else none))) else none)
set_option maxRecDepth 20000 in
set_option maxHeartbeats 4000000 in
theorem K_X7_copyFrom {σ : zSt} {l0 : Nat} {l1 : Nat} {l2 : Int32}  {σ' : zSt} (hf : f_X7_copyFrom σ l0 l1 l2 = some σ') : z_M l D cA bs yX7_copyFrom cX7_copyFrom 5 none 1 60 0 0 [.ref l0, .ref l1, .int l2] σ (z_Qv D cA bs σ') := by
  refine z_met (own := RX7) (lv := [(0, .ref l0), (1, .ref l1), (2, .int l2)]) (by decide) rfl (Nat.le_of_ble_eq_true rfl) rfl (fun p e s m below meth c ls B hnm hW hl => ?_)
  have hx := B.1
  have hb := B.2.1
  have hown := B.2.2.2.1
  have hts := B.2.2.2.2.1
  unfold f_X7_copyFrom at hf
  refine lv_aload_n hx hb dX7_copyFrom_0 rfl (lv_at hl 0 rfl) ?_
  obtain ⟨hg1, hf⟩ := z_g hf
  obtain ⟨q2, hv3, hf⟩ := z_nn hf
  refine z_getN B hW (Or.inr zf_X7_21) rfl hg1 hv3 dX7_copyFrom_1 ?_
  obtain ⟨hg4, hf⟩ := z_g hf
  refine z_alen (t := 0) (by decide) B hW hg4 dX7_copyFrom_4 ?_
  refine lv_aload_n hx hb dX7_copyFrom_5 rfl (lv_at hl 1 rfl) ?_
  obtain ⟨hg5, hf⟩ := z_g hf
  obtain ⟨q6, hv7, hf⟩ := z_nn hf
  refine z_getN B hW (Or.inr zf_X7_21) rfl hg5 hv7 dX7_copyFrom_6 ?_
  obtain ⟨hg8, hf⟩ := z_g hf
  refine z_alen (t := 0) (by decide) B hW hg8 dX7_copyFrom_9 ?_
  refine va_mmin hx hb (by rw [B.2.2.1]; exact hl.1.symm) hown (hts _ zmm_X7_25.1) (hts _ zmm_X7_25.2.1) (hts _ zmm_X7_25.2.2.1) (hts _ zmm_X7_25.2.2.2) (Nat.le_of_ble_eq_true rfl) (by simp [z_cat, z_k1, z_k2, z_k3, z_k4, z_k5, zrm]) (Nat.le_of_ble_eq_true rfl) (Nat.le_of_ble_eq_true rfl) dX7_copyFrom_10 ?_
  obtain ⟨x9, hx10, hf⟩ := z_l hf
  rw [hx10]
  refine lv_istore_n (lv' := [(3, .int x9), (0, .ref l0), (1, .ref l1), (2, .int l2)]) hx hb dX7_copyFrom_13 rfl hl (by decide) rfl (fun ls hl => ?_)
  refine lv_iconst (v := (0 : Int32)) hx hb dX7_copyFrom_14 (by decide) ?_
  refine lv_iload_n hx hb dX7_copyFrom_15 rfl (lv_at hl 0 rfl) ?_
  refine lv_iload_n hx hb dX7_copyFrom_16 rfl (lv_at hl 3 rfl) ?_
  refine lv_aload_n hx hb dX7_copyFrom_17 rfl (lv_at hl 1 rfl) ?_
  refine z_getI B hW (Or.inr zf_X7_9) rfl hg1 dX7_copyFrom_18 ?_
  refine lv_imul hx hb dX7_copyFrom_21 ?_
  refine va_mmin hx hb (by rw [B.2.2.1]; exact hl.1.symm) hown (hts _ zmm_X7_25.1) (hts _ zmm_X7_25.2.1) (hts _ zmm_X7_25.2.2.1) (hts _ zmm_X7_25.2.2.2) (Nat.le_of_ble_eq_true rfl) (by simp [z_cat, z_k1, z_k2, z_k3, z_k4, z_k5, zrm]) (Nat.le_of_ble_eq_true rfl) (Nat.le_of_ble_eq_true rfl) dX7_copyFrom_22 ?_
  refine va_mmax hx hb (by rw [B.2.2.1]; exact hl.1.symm) hown (hts _ zmm_X7_15.1) (hts _ zmm_X7_15.2.1) (hts _ zmm_X7_15.2.2.1) (hts _ zmm_X7_15.2.2.2) (Nat.le_of_ble_eq_true rfl) (by simp [z_cat, z_k1, z_k2, z_k3, z_k4, z_k5, zrm]) (Nat.le_of_ble_eq_true rfl) (Nat.le_of_ble_eq_true rfl) dX7_copyFrom_25 ?_
  obtain ⟨x11, hx12, hf⟩ := z_l hf
  rw [hx12]
  refine lv_istore (lv' := [(4, .int x11), (3, .int x9), (0, .ref l0), (1, .ref l1), (2, .int l2)]) hx hb dX7_copyFrom_28 hl (by decide) rfl (fun ls hl => ?_)
  refine lv_aload_n hx hb dX7_copyFrom_30 rfl (lv_at hl 3 rfl) ?_
  obtain ⟨q13, hv14, hf⟩ := z_nn hf
  refine z_getN B hW (Or.inr zf_X7_21) rfl hg5 hv14 dX7_copyFrom_31 ?_
  refine lv_iconst (v := (0 : Int32)) hx hb dX7_copyFrom_34 (by decide) ?_
  refine lv_aload_n hx hb dX7_copyFrom_35 rfl (lv_at hl 2 rfl) ?_
  obtain ⟨q15, hv16, hf⟩ := z_nn hf
  refine z_getN B hW (Or.inr zf_X7_21) rfl hg1 hv16 dX7_copyFrom_36 ?_
  refine lv_iconst (v := (0 : Int32)) hx hb dX7_copyFrom_39 (by decide) ?_
  refine lv_iload hx hb dX7_copyFrom_40 (lv_at hl 0 rfl) ?_
  obtain ⟨hg17, hf⟩ := z_g hf
  obtain ⟨hg18, hf⟩ := z_g hf
  obtain ⟨hg19, hf⟩ := z_g hf
  obtain ⟨σ20, hs21, hf⟩ := z_l hf
  refine z_copy B hW zcp_X7_28 hg17 hg18 hg19 hs21 hl.1 (Nat.le_of_ble_eq_true rfl) (by simp [z_cat, z_k1, z_k2, z_k3, z_k4, z_k5, zrm, nativeFrameWords]) dX7_copyFrom_42 (fun H locs hW => ?_)
  obtain rfl := z_e1 hf
  exact z_rv B hW dX7_copyFrom_45 (Nat.le_of_ble_eq_true rfl) (Nat.le_of_ble_eq_true rfl)
set_option maxRecDepth 100000 in
def f_X3_copyFrom (σ : zSt) (l0 : Nat) (l1 : Nat) : Option (zSt) :=
(if z_ob σ l1 3 then (if z_ob σ l0 3 then (zl (z_pI σ l0 1 (z_I σ l1 1)) (fun σ3 => (if z_ob σ3 l0 3 then (zc (z_R σ3 l0 0) none (fun q6 => (if z_ob σ3 l1 3 then (zc (z_R σ3 l1 0) none (fun q9 => (if z_ob σ3 q6 7 then (zb (f_X7_copyFrom σ3 q6 q9 (z_I σ3 l1 1)) (fun σ13 => (some σ13))) else none))) else none))) else none))) else none) else none)
set_option maxRecDepth 20000 in
set_option maxHeartbeats 4000000 in
theorem K_X3_copyFrom {σ : zSt} {l0 : Nat} {l1 : Nat}  {σ' : zSt} (hf : f_X3_copyFrom σ l0 l1 = some σ') : z_M l D cA bs yX3_copyFrom cX3_copyFrom 2 none 2 84 0 0 [.ref l0, .ref l1] σ (z_Qv D cA bs σ') := by
  refine z_met (own := RX3) (lv := [(0, .ref l0), (1, .ref l1)]) (by decide) rfl (Nat.le_of_ble_eq_true rfl) rfl (fun p e s m below meth c ls B hnm hW hl => ?_)
  have hx := B.1
  have hb := B.2.1
  have hown := B.2.2.2.1
  have hts := B.2.2.2.2.1
  unfold f_X3_copyFrom at hf
  refine lv_aload_n hx hb dX3_copyFrom_0 rfl (lv_at hl 0 rfl) ?_
  refine lv_aload_n hx hb dX3_copyFrom_1 rfl (lv_at hl 1 rfl) ?_
  obtain ⟨hg1, hf⟩ := z_g hf
  refine z_getI B hW (Or.inl zf_X3_20) rfl hg1 dX3_copyFrom_2 ?_
  obtain ⟨hg2, hf⟩ := z_g hf
  obtain ⟨σ3, hs4, hf⟩ := z_l hf
  refine z_putI B hW zf_X3_20 hg2 rfl hs4 dX3_copyFrom_5 (fun H locs hW => ?_)
  refine lv_aload_n hx hb dX3_copyFrom_8 rfl (lv_at hl 0 rfl) ?_
  obtain ⟨hg5, hf⟩ := z_g hf
  obtain ⟨q6, hv7, hf⟩ := z_nn hf
  refine z_getN B hW (Or.inr zf_X3_16) rfl hg5 hv7 dX3_copyFrom_9 ?_
  refine lv_aload_n hx hb dX3_copyFrom_12 rfl (lv_at hl 1 rfl) ?_
  obtain ⟨hg8, hf⟩ := z_g hf
  obtain ⟨q9, hv10, hf⟩ := z_nn hf
  refine z_getN B hW (Or.inr zf_X3_16) rfl hg8 hv10 dX3_copyFrom_13 ?_
  refine lv_aload_n hx hb dX3_copyFrom_16 rfl (lv_at hl 1 rfl) ?_
  refine z_getI B hW (Or.inl zf_X3_20) rfl hg8 dX3_copyFrom_17 ?_
  obtain ⟨hg11, hf⟩ := z_g hf
  obtain ⟨σ13, hq12, hf⟩ := z_b hf
  refine z_cv hW (z_runV (As := [.ref q9, .int (z_I σ3 l1 1)]) (rest := []) B hW zv_X3_32 (K_X7_copyFrom hq12) hg11 rfl rfl rfl (Nat.le_of_ble_eq_true rfl) hl.1 ⟨Nat.le_of_ble_eq_true rfl, Nat.le_of_ble_eq_true rfl⟩ dX3_copyFrom_20 ⟨Nat.le_of_ble_eq_true rfl, Nat.le_of_ble_eq_true rfl⟩) (fun H locs hW => ?_)
  obtain rfl := z_e1 hf
  exact z_rv B hW dX3_copyFrom_23 (Nat.le_of_ble_eq_true rfl) (Nat.le_of_ble_eq_true rfl)
set_option maxRecDepth 100000 in
def f_X4_copyFrom_54 (σ : zSt) : Option (zSt) :=
(some σ)
set_option maxRecDepth 20000 in
set_option maxHeartbeats 4000000 in
theorem t_X4_copyFrom_54 (B : z_B p s m args meth c D cA bs RX4 cX4_copyFrom 3 none)  {σ' : zSt} {σ : zSt} (hf : f_X4_copyFrom_54 σ = some σ') {H : Heap} {locs : List Loc} {ls : Array Slot} (hW : z_Ok D cA bs s σ H locs) (hl : lv_has ls 3 [])  : W p l e (zrm 0 0 0 0) s m args below meth c H locs 0 0 (MQ below (z_Qv D cA bs σ') args s 0 0 (fun q => bs ≤ q)) (F0 m 54 ls []) := by
  have hx := B.1
  have hb := B.2.1
  have hown := B.2.2.2.1
  have hts := B.2.2.2.2.1
  unfold f_X4_copyFrom_54 at hf
  obtain rfl := z_e1 hf
  exact z_rv B hW dX4_copyFrom_54 (Nat.le_of_ble_eq_true rfl) (Nat.le_of_ble_eq_true rfl)
set_option maxRecDepth 100000 in
def b_X4_copyFrom_10 (l0 : Nat) (l1 : Nat) (σ : zSt) (l2 : Int32) : Option ((zSt × Int32) ⊕ (zSt)) :=
(if z_ob σ l0 4 then (if (z_I σ l0 2) ≤ l2 then
(zex (f_X4_copyFrom_54 σ))
else
(if (20 : Int32) ≤ l2 then
(zex (f_X4_copyFrom_54 σ))
else
(zc (z_R σ l0 0) none (fun q4 => (if z_ob σ l1 4 then (zc (z_R σ l1 0) none (fun q7 => (if z_ar σ q7 0 then (if z_ix l2 (z_ln σ q7) then (if z_ar σ q4 0 then (if z_ix l2 (z_ln σ q4) then (zl (z_pI σ q4 l2.toNatClampNeg (z_I σ q7 l2.toNatClampNeg)) (fun σ13 => (if z_ob σ13 l0 4 then (zc (z_R σ13 l0 1) none (fun q16 => (if z_ob σ13 l1 4 then (zc (z_R σ13 l1 1) none (fun q19 => (if z_ar σ13 q19 0 then (if z_ix l2 (z_ln σ13 q19) then (if z_ar σ13 q16 0 then (if z_ix l2 (z_ln σ13 q16) then (zl (z_pI σ13 q16 l2.toNatClampNeg (z_I σ13 q19 l2.toNatClampNeg)) (fun σ25 => (some (.inl (σ25, (l2 + (1 : Int32))))))) else none) else none) else none) else none))) else none))) else none))) else none) else none) else none) else none))) else none))))) else none)
set_option maxRecDepth 100000 in
def f_X4_copyFrom_10 (l0 : Nat) (l1 : Nat) (σ : zSt) (l2 : Int32) : Option (zSt) := zloop (fun (t : zSt × Int32) => b_X4_copyFrom_10 l0 l1 t.1 t.2) zN (σ, l2)
set_option maxRecDepth 20000 in
set_option maxHeartbeats 4000000 in
theorem tb_X4_copyFrom_10 (B : z_B p s m args meth c D cA bs RX4 cX4_copyFrom 3 none)  {σ' : zSt} {o1 : (zSt × Int32) ⊕ (zSt)} {l0 : Nat} {l1 : Nat} {σ : zSt} {l2 : Int32} (hf : b_X4_copyFrom_10 l0 l1 σ l2 = some o1) {H : Heap} {locs : List Loc} {ls : Array Slot} (hW : z_Ok D cA bs s σ H locs) (hl : lv_has ls 3 [(0, .ref l0), (1, .ref l1), (2, .int l2)]) (hk1 : ∀ (σ : zSt) (l2 : Int32), o1 = .inl (σ, l2) → ∀ {H : Heap} {locs : List Loc} {ls : Array Slot}, z_Ok D cA bs s σ H locs → lv_has ls 3 [(0, .ref l0), (1, .ref l1), (2, .int l2)] → W p l e (zrm 0 0 0 0) s m args below meth c H locs 0 0 (MQ below (z_Qv D cA bs σ') args s 0 0 (fun q => bs ≤ q)) (F0 m 10 ls [])) (hr1 : ∀ x, o1 = .inr x → x = σ') : W p l e (zrm 0 0 0 0) s m args below meth c H locs 0 0 (MQ below (z_Qv D cA bs σ') args s 0 0 (fun q => bs ≤ q)) (F0 m 10 ls []) := by
  have hx := B.1
  have hb := B.2.1
  have hown := B.2.2.2.1
  have hts := B.2.2.2.2.1
  unfold b_X4_copyFrom_10 at hf
  refine lv_iload_n hx hb dX4_copyFrom_10 rfl (lv_at hl 2 rfl) ?_
  refine lv_aload_n hx hb dX4_copyFrom_11 rfl (lv_at hl 0 rfl) ?_
  obtain ⟨hg1, hf⟩ := z_g hf
  refine z_getI B hW (Or.inl zf_X4_18) rfl hg1 dX4_copyFrom_12 ?_
  refine lv_icmp_ge (tgt := 54) hx hb dX4_copyFrom_15 (by decide) (fun hc15 => ?_) (fun hc15 => ?_)
  · replace hf := z_ip hc15 hf
    obtain ⟨w1, hf, ho2⟩ := z_x hf
    obtain rfl := hr1 _ ho2
    exact t_X4_copyFrom_54 B hf hW (lv_sub hl [] rfl) 
  · replace hf := z_in hc15 hf
    refine lv_iload_n hx hb dX4_copyFrom_18 rfl (lv_at hl 2 rfl) ?_
    refine lv_bipush (v := (20 : Int32)) hx hb dX4_copyFrom_19 (by decide) ?_
    refine lv_icmp_ge (tgt := 54) hx hb dX4_copyFrom_21 (by decide) (fun hc21 => ?_) (fun hc21 => ?_)
    · replace hf := z_ip hc21 hf
      obtain ⟨w1, hf, ho3⟩ := z_x hf
      obtain rfl := hr1 _ ho3
      exact t_X4_copyFrom_54 B hf hW (lv_sub hl [] rfl) 
    · replace hf := z_in hc21 hf
      refine lv_aload_n hx hb dX4_copyFrom_24 rfl (lv_at hl 0 rfl) ?_
      obtain ⟨q4, hv5, hf⟩ := z_nn hf
      refine z_getN B hW (Or.inr zf_X4_9) rfl hg1 hv5 dX4_copyFrom_25 ?_
      refine lv_iload_n hx hb dX4_copyFrom_28 rfl (lv_at hl 2 rfl) ?_
      refine lv_aload_n hx hb dX4_copyFrom_29 rfl (lv_at hl 1 rfl) ?_
      obtain ⟨hg6, hf⟩ := z_g hf
      obtain ⟨q7, hv8, hf⟩ := z_nn hf
      refine z_getN B hW (Or.inr zf_X4_9) rfl hg6 hv8 dX4_copyFrom_30 ?_
      refine lv_iload_n hx hb dX4_copyFrom_33 rfl (lv_at hl 2 rfl) ?_
      obtain ⟨hg9, hf⟩ := z_g hf
      obtain ⟨hg10, hf⟩ := z_g hf
      refine z_ald B hW hg9 hg10 dX4_copyFrom_34 ?_
      obtain ⟨hg11, hf⟩ := z_g hf
      obtain ⟨hg12, hf⟩ := z_g hf
      obtain ⟨σ13, hs14, hf⟩ := z_l hf
      refine z_ast B hW hg11 hg12 hs14 dX4_copyFrom_35 (fun H locs hW => ?_)
      refine lv_aload_n hx hb dX4_copyFrom_36 rfl (lv_at hl 0 rfl) ?_
      obtain ⟨hg15, hf⟩ := z_g hf
      obtain ⟨q16, hv17, hf⟩ := z_nn hf
      refine z_getN B hW (Or.inr zf_X4_15) rfl hg15 hv17 dX4_copyFrom_37 ?_
      refine lv_iload_n hx hb dX4_copyFrom_40 rfl (lv_at hl 2 rfl) ?_
      refine lv_aload_n hx hb dX4_copyFrom_41 rfl (lv_at hl 1 rfl) ?_
      obtain ⟨hg18, hf⟩ := z_g hf
      obtain ⟨q19, hv20, hf⟩ := z_nn hf
      refine z_getN B hW (Or.inr zf_X4_15) rfl hg18 hv20 dX4_copyFrom_42 ?_
      refine lv_iload_n hx hb dX4_copyFrom_45 rfl (lv_at hl 2 rfl) ?_
      obtain ⟨hg21, hf⟩ := z_g hf
      obtain ⟨hg22, hf⟩ := z_g hf
      refine z_ald B hW hg21 hg22 dX4_copyFrom_46 ?_
      obtain ⟨hg23, hf⟩ := z_g hf
      obtain ⟨hg24, hf⟩ := z_g hf
      obtain ⟨σ25, hs26, hf⟩ := z_l hf
      refine z_ast B hW hg23 hg24 hs26 dX4_copyFrom_47 (fun H locs hW => ?_)
      refine lv_iinc (v := (l2 + (1 : Int32))) (lv' := [(2, .int (l2 + (1 : Int32))), (0, .ref l0), (1, .ref l1)]) hx hb dX4_copyFrom_48 hl (k := 2) rfl rfl (by decide) rfl (fun ls hl => ?_)
      refine lv_goto (tgt := 10) hx hb dX4_copyFrom_51 (by decide) ?_
      exact hk1 _ _ (Option.some.inj hf).symm hW (lv_sub hl [1, 2, 0] rfl)
set_option maxRecDepth 20000 in
set_option maxHeartbeats 4000000 in
theorem t_X4_copyFrom_10 (B : z_B p s m args meth c D cA bs RX4 cX4_copyFrom 3 none)  {σ' : zSt} {l0 : Nat} {l1 : Nat}  : ∀ (n : Nat) {σ : zSt} {l2 : Int32}, zloop (fun (t : zSt × Int32) => b_X4_copyFrom_10 l0 l1 t.1 t.2) n (σ, l2) = some σ' → ∀ {H : Heap} {locs : List Loc} {ls : Array Slot}, z_Ok D cA bs s σ H locs → lv_has ls 3 [(0, .ref l0), (1, .ref l1), (2, .int l2)] → W p l e (zrm 0 0 0 0) s m args below meth c H locs 0 0 (MQ below (z_Qv D cA bs σ') args s 0 0 (fun q => bs ≤ q)) (F0 m 10 ls []) := by
  intro n
  induction n with
  | zero => intro σ l2 hf; cases hf
  | succ n ih =>
    intro σ l2 hf H locs ls hW hl
    obtain ⟨o1, hb1, hf⟩ := z_lp hf
    refine tb_X4_copyFrom_10 B hb1 hW hl  (fun σ l2 he H locs ls hW hl => ?_) (fun x he => ?_)
    · rcases hf with ⟨t, ht, hf⟩ | hf
      · rw [he] at ht
        cases ht
        exact ih hf hW hl
      · rw [he] at hf
        cases hf
    · rcases hf with ⟨t, ht, hf⟩ | hf
      · rw [he] at ht
        cases ht
      · rw [he] at hf
        exact Sum.inr.inj hf
set_option maxRecDepth 100000 in
def f_X4_copyFrom (σ : zSt) (l0 : Nat) (l1 : Nat) : Option (zSt) :=
(if z_ob σ l1 4 then (if z_ob σ l0 4 then (zl (z_pI σ l0 2 (z_I σ l1 2)) (fun σ3 => (f_X4_copyFrom_10 l0 l1 σ3 (0 : Int32)))) else none) else none)
set_option maxRecDepth 20000 in
set_option maxHeartbeats 4000000 in
theorem K_X4_copyFrom {σ : zSt} {l0 : Nat} {l1 : Nat}  {σ' : zSt} (hf : f_X4_copyFrom σ l0 l1 = some σ') : z_M l D cA bs yX4_copyFrom cX4_copyFrom 3 none 0 0 0 0 [.ref l0, .ref l1] σ (z_Qv D cA bs σ') := by
  refine z_met (own := RX4) (lv := [(0, .ref l0), (1, .ref l1)]) (by decide) rfl (Nat.le_of_ble_eq_true rfl) rfl (fun p e s m below meth c ls B hnm hW hl => ?_)
  have hx := B.1
  have hb := B.2.1
  have hown := B.2.2.2.1
  have hts := B.2.2.2.2.1
  unfold f_X4_copyFrom at hf
  refine lv_aload_n hx hb dX4_copyFrom_0 rfl (lv_at hl 0 rfl) ?_
  refine lv_aload_n hx hb dX4_copyFrom_1 rfl (lv_at hl 1 rfl) ?_
  obtain ⟨hg1, hf⟩ := z_g hf
  refine z_getI B hW (Or.inl zf_X4_18) rfl hg1 dX4_copyFrom_2 ?_
  obtain ⟨hg2, hf⟩ := z_g hf
  obtain ⟨σ3, hs4, hf⟩ := z_l hf
  refine z_putI B hW zf_X4_18 hg2 rfl hs4 dX4_copyFrom_5 (fun H locs hW => ?_)
  refine lv_iconst (v := (0 : Int32)) hx hb dX4_copyFrom_8 (by decide) ?_
  refine lv_istore_n (lv' := [(2, .int (0 : Int32)), (0, .ref l0), (1, .ref l1)]) hx hb dX4_copyFrom_9 rfl hl (by decide) rfl (fun ls hl => ?_)
  unfold f_X4_copyFrom_10 at hf
  exact t_X4_copyFrom_10 B  zN hf hW (lv_sub hl [1, 2, 0] rfl)
set_option maxRecDepth 100000 in
def f_X2_logLength (σ : zSt) (l0 : Nat) : Option (Int32) :=
(if z_ob σ l0 2 then (zc (z_R σ l0 3) none (fun q2 => (if z_ob σ q2 0 then (some (if (40 : Int32) < (z_I σ q2 0) then (40 : Int32) else (z_I σ q2 0))) else none))) else none)
set_option maxRecDepth 20000 in
set_option maxHeartbeats 4000000 in
theorem K_X2_logLength {σ : zSt} {l0 : Nat} {r : Int32} (hf : f_X2_logLength σ l0 = some r) : z_M l D cA bs yX2_logLength cX2_logLength 1 (some .int) 1 25 0 0 [.ref l0] σ (z_Qi D cA bs r σ) := by
  refine z_met (own := RX2) (lv := [(0, .ref l0)]) (by decide) rfl (Nat.le_of_ble_eq_true rfl) rfl (fun p e s m below meth c ls B hnm hW hl => ?_)
  have hx := B.1
  have hb := B.2.1
  have hown := B.2.2.2.1
  have hts := B.2.2.2.2.1
  unfold f_X2_logLength at hf
  refine lv_aload_n hx hb dX2_logLength_0 rfl (lv_at hl 0 rfl) ?_
  obtain ⟨hg1, hf⟩ := z_g hf
  obtain ⟨q2, hv3, hf⟩ := z_nn hf
  refine z_getN B hW (Or.inr zf_X2_34) rfl hg1 hv3 dX2_logLength_1 ?_
  obtain ⟨hg4, hf⟩ := z_g hf
  refine z_getI B hW (Or.inl zf_X2_128) rfl hg4 dX2_logLength_4 ?_
  refine lv_bipush (v := (40 : Int32)) hx hb dX2_logLength_7 (by decide) ?_
  refine va_mmin hx hb (by rw [B.2.2.1]; exact hl.1.symm) hown (hts _ zmm_X2_135.1) (hts _ zmm_X2_135.2.1) (hts _ zmm_X2_135.2.2.1) (hts _ zmm_X2_135.2.2.2) (Nat.le_of_ble_eq_true rfl) (by simp [z_cat, z_k1, z_k2, z_k3, z_k4, z_k5, zrm]) (Nat.le_of_ble_eq_true rfl) (Nat.le_of_ble_eq_true rfl) dX2_logLength_9 ?_
  obtain rfl := z_e1 hf
  exact z_ri B hW dX2_logLength_12 (Nat.le_of_ble_eq_true rfl) (Nat.le_of_ble_eq_true rfl)
set_option maxRecDepth 100000 in
def f_X2_stationIn_31 (σ : zSt) (s0 : Option Nat) : Option (Option Nat) :=
(some s0)
set_option maxRecDepth 20000 in
set_option maxHeartbeats 4000000 in
theorem t_X2_stationIn_31 (B : z_B p s m args meth c D cA bs RX2 cX2_stationIn 2 (some (.object "TokenBus$Station"))) {r : Option Nat} {σ : zSt} {s0 : Option Nat} (hf : f_X2_stationIn_31 σ s0 = some r) {H : Heap} {locs : List Loc} {ls : Array Slot} (hW : z_Ok D cA bs s σ H locs) (hl : lv_has ls 2 [])  : W p l e (zrm 0 0 0 0) s m args below meth c H locs 0 0 (MQ below (z_Qq D cA bs r σ) args s 0 0 (fun q => bs ≤ q)) (F0 m 31 ls [va_rf s0]) := by
  have hx := B.1
  have hb := B.2.1
  have hown := B.2.2.2.1
  have hts := B.2.2.2.2.1
  unfold f_X2_stationIn_31 at hf
  obtain rfl := z_e1 hf
  exact z_rq B hW dX2_stationIn_31 (Nat.le_of_ble_eq_true rfl) (Nat.le_of_ble_eq_true rfl)
set_option maxRecDepth 100000 in
def f_X2_stationIn_30 (σ : zSt) : Option (Option Nat) :=
(f_X2_stationIn_31 σ none)
set_option maxRecDepth 20000 in
set_option maxHeartbeats 4000000 in
theorem t_X2_stationIn_30 (B : z_B p s m args meth c D cA bs RX2 cX2_stationIn 2 (some (.object "TokenBus$Station"))) {r : Option Nat} {σ : zSt} (hf : f_X2_stationIn_30 σ = some r) {H : Heap} {locs : List Loc} {ls : Array Slot} (hW : z_Ok D cA bs s σ H locs) (hl : lv_has ls 2 [])  : W p l e (zrm 0 0 0 0) s m args below meth c H locs 0 0 (MQ below (z_Qq D cA bs r σ) args s 0 0 (fun q => bs ≤ q)) (F0 m 30 ls []) := by
  have hx := B.1
  have hb := B.2.1
  have hown := B.2.2.2.1
  have hts := B.2.2.2.2.1
  unfold f_X2_stationIn_30 at hf
  refine lv_null hx hb dX2_stationIn_30 ?_
  exact t_X2_stationIn_31 B hf hW hl 
set_option maxRecDepth 100000 in
def f_X2_stationIn (σ : zSt) (l0 : Nat) (l1 : Int32) : Option (Option Nat) :=
(if l1 < 0 then
(f_X2_stationIn_30 σ)
else
(if z_ob σ l0 2 then (if (z_I σ l0 5) ≤ l1 then
(f_X2_stationIn_30 σ)
else
(zc (z_R σ l0 0) none (fun q2 => (if z_ar σ q2 3 then (if (Int32.ofNat (z_ln σ q2)) ≤ l1 then
(f_X2_stationIn_30 σ)
else
(zc (z_R σ l0 0) none (fun q5 => (if z_ar σ q5 3 then (if z_ix l1 (z_ln σ q5) then (zl (z_R σ q5 l1.toNatClampNeg) (fun v9 => (f_X2_stationIn_31 σ v9))) else none) else none)))) else none)))) else none))
set_option maxRecDepth 20000 in
set_option maxHeartbeats 4000000 in
theorem K_X2_stationIn {σ : zSt} {l0 : Nat} {l1 : Int32} {r : Option Nat} (hf : f_X2_stationIn σ l0 l1 = some r) : z_M l D cA bs yX2_stationIn cX2_stationIn 2 (some (.object "TokenBus$Station")) 0 0 0 0 [.ref l0, .int l1] σ (z_Qq D cA bs r σ) := by
  refine z_met (own := RX2) (lv := [(0, .ref l0), (1, .int l1)]) (by decide) rfl (Nat.le_of_ble_eq_true rfl) rfl (fun p e s m below meth c ls B hnm hW hl => ?_)
  have hx := B.1
  have hb := B.2.1
  have hown := B.2.2.2.1
  have hts := B.2.2.2.2.1
  unfold f_X2_stationIn at hf
  refine lv_iload_n hx hb dX2_stationIn_0 rfl (lv_at hl 1 rfl) ?_
  refine lv_if_lt (tgt := 30) hx hb dX2_stationIn_1 (by decide) (fun hc1 => ?_) (fun hc1 => ?_)
  · replace hf := z_ip hc1 hf
    exact t_X2_stationIn_30 B hf hW (lv_sub hl [] rfl) 
  · replace hf := z_in hc1 hf
    refine lv_iload_n hx hb dX2_stationIn_4 rfl (lv_at hl 1 rfl) ?_
    refine lv_aload_n hx hb dX2_stationIn_5 rfl (lv_at hl 0 rfl) ?_
    obtain ⟨hg1, hf⟩ := z_g hf
    refine z_getI B hW (Or.inl zf_X2_61) rfl hg1 dX2_stationIn_6 ?_
    refine lv_icmp_ge (tgt := 30) hx hb dX2_stationIn_9 (by decide) (fun hc9 => ?_) (fun hc9 => ?_)
    · replace hf := z_ip hc9 hf
      exact t_X2_stationIn_30 B hf hW (lv_sub hl [] rfl) 
    · replace hf := z_in hc9 hf
      refine lv_iload_n hx hb dX2_stationIn_12 rfl (lv_at hl 1 rfl) ?_
      refine lv_aload_n hx hb dX2_stationIn_13 rfl (lv_at hl 0 rfl) ?_
      obtain ⟨q2, hv3, hf⟩ := z_nn hf
      refine z_getN B hW (Or.inr zf_X2_11) rfl hg1 hv3 dX2_stationIn_14 ?_
      obtain ⟨hg4, hf⟩ := z_g hf
      refine z_alen (t := 3) (by decide) B hW hg4 dX2_stationIn_17 ?_
      refine lv_icmp_ge (tgt := 30) hx hb dX2_stationIn_18 (by decide) (fun hc18 => ?_) (fun hc18 => ?_)
      · replace hf := z_ip hc18 hf
        exact t_X2_stationIn_30 B hf hW (lv_sub hl [] rfl) 
      · replace hf := z_in hc18 hf
        refine lv_aload_n hx hb dX2_stationIn_21 rfl (lv_at hl 0 rfl) ?_
        obtain ⟨q5, hv6, hf⟩ := z_nn hf
        refine z_getN B hW (Or.inr zf_X2_11) rfl hg1 hv6 dX2_stationIn_22 ?_
        refine lv_iload_n hx hb dX2_stationIn_25 rfl (lv_at hl 1 rfl) ?_
        obtain ⟨hg7, hf⟩ := z_g hf
        obtain ⟨hg8, hf⟩ := z_g hf
        obtain ⟨v9, hv10, hf⟩ := z_l hf
        refine z_aald (by decide) B hW hg7 hg8 hv10 dX2_stationIn_26 ?_
        refine lv_goto (tgt := 31) hx hb dX2_stationIn_27 (by decide) ?_
        exact t_X2_stationIn_31 B hf hW (lv_sub hl [] rfl) 
set_option maxRecDepth 100000 in
def f_X6_copyFrom (σ : zSt) (l0 : Nat) (l1 : Nat) : Option (zSt) :=
(if z_ob σ l1 6 then (if z_ob σ l0 6 then (zl (z_pI σ l0 0 (z_I σ l1 0)) (fun σ3 => (if z_ob σ3 l1 6 then (if z_ob σ3 l0 6 then (if z_bl (z_I σ3 l1 1) then (zl (z_pI σ3 l0 1 (z_I σ3 l1 1)) (fun σ8 => (if z_ob σ8 l1 6 then (if z_ob σ8 l0 6 then (if z_bl (z_I σ8 l1 2) then (zl (z_pI σ8 l0 2 (z_I σ8 l1 2)) (fun σ13 => (if z_ob σ13 l1 6 then (if z_ob σ13 l0 6 then (zl (z_pI σ13 l0 3 (z_I σ13 l1 3)) (fun σ17 => (if z_ob σ17 l1 6 then (if z_ob σ17 l0 6 then (zl (z_pI σ17 l0 4 (z_I σ17 l1 4)) (fun σ21 => (if z_ob σ21 l1 6 then (if z_ob σ21 l0 6 then (zl (z_pI σ21 l0 5 (z_I σ21 l1 5)) (fun σ25 => (if z_ob σ25 l1 6 then (if z_ob σ25 l0 6 then (zl (z_pI σ25 l0 6 (z_I σ25 l1 6)) (fun σ29 => (if z_ob σ29 l1 6 then (if z_ob σ29 l0 6 then (zl (z_pI σ29 l0 7 (z_I σ29 l1 7)) (fun σ33 => (if z_ob σ33 l1 6 then (if z_ob σ33 l0 6 then (zl (z_pI σ33 l0 8 (z_I σ33 l1 8)) (fun σ37 => (some σ37))) else none) else none))) else none) else none))) else none) else none))) else none) else none))) else none) else none))) else none) else none))) else none) else none) else none))) else none) else none) else none))) else none) else none)
set_option maxRecDepth 20000 in
set_option maxHeartbeats 4000000 in
theorem K_X6_copyFrom {σ : zSt} {l0 : Nat} {l1 : Nat}  {σ' : zSt} (hf : f_X6_copyFrom σ l0 l1 = some σ') : z_M l D cA bs yX6_copyFrom cX6_copyFrom 2 none 0 0 0 0 [.ref l0, .ref l1] σ (z_Qv D cA bs σ') := by
  refine z_met (own := RX6) (lv := [(0, .ref l0), (1, .ref l1)]) (by decide) rfl (Nat.le_of_ble_eq_true rfl) rfl (fun p e s m below meth c ls B hnm hW hl => ?_)
  have hx := B.1
  have hb := B.2.1
  have hown := B.2.2.2.1
  have hts := B.2.2.2.2.1
  unfold f_X6_copyFrom at hf
  refine lv_aload_n hx hb dX6_copyFrom_0 rfl (lv_at hl 0 rfl) ?_
  refine lv_aload_n hx hb dX6_copyFrom_1 rfl (lv_at hl 1 rfl) ?_
  obtain ⟨hg1, hf⟩ := z_g hf
  refine z_getI B hW (Or.inl zf_X6_9) rfl hg1 dX6_copyFrom_2 ?_
  obtain ⟨hg2, hf⟩ := z_g hf
  obtain ⟨σ3, hs4, hf⟩ := z_l hf
  refine z_putI B hW zf_X6_9 hg2 rfl hs4 dX6_copyFrom_5 (fun H locs hW => ?_)
  refine lv_aload_n hx hb dX6_copyFrom_8 rfl (lv_at hl 0 rfl) ?_
  refine lv_aload_n hx hb dX6_copyFrom_9 rfl (lv_at hl 1 rfl) ?_
  obtain ⟨hg5, hf⟩ := z_g hf
  refine z_getI B hW (Or.inl zf_X6_15) rfl hg5 dX6_copyFrom_10 ?_
  obtain ⟨hg6, hf⟩ := z_g hf
  obtain ⟨hg7, hf⟩ := z_g hf
  obtain ⟨σ8, hs9, hf⟩ := z_l hf
  refine z_putI B hW zf_X6_15 hg6 hg7 hs9 dX6_copyFrom_13 (fun H locs hW => ?_)
  refine lv_aload_n hx hb dX6_copyFrom_16 rfl (lv_at hl 0 rfl) ?_
  refine lv_aload_n hx hb dX6_copyFrom_17 rfl (lv_at hl 1 rfl) ?_
  obtain ⟨hg10, hf⟩ := z_g hf
  refine z_getI B hW (Or.inl zf_X6_19) rfl hg10 dX6_copyFrom_18 ?_
  obtain ⟨hg11, hf⟩ := z_g hf
  obtain ⟨hg12, hf⟩ := z_g hf
  obtain ⟨σ13, hs14, hf⟩ := z_l hf
  refine z_putI B hW zf_X6_19 hg11 hg12 hs14 dX6_copyFrom_21 (fun H locs hW => ?_)
  refine lv_aload_n hx hb dX6_copyFrom_24 rfl (lv_at hl 0 rfl) ?_
  refine lv_aload_n hx hb dX6_copyFrom_25 rfl (lv_at hl 1 rfl) ?_
  obtain ⟨hg15, hf⟩ := z_g hf
  refine z_getI B hW (Or.inl zf_X6_22) rfl hg15 dX6_copyFrom_26 ?_
  obtain ⟨hg16, hf⟩ := z_g hf
  obtain ⟨σ17, hs18, hf⟩ := z_l hf
  refine z_putI B hW zf_X6_22 hg16 rfl hs18 dX6_copyFrom_29 (fun H locs hW => ?_)
  refine lv_aload_n hx hb dX6_copyFrom_32 rfl (lv_at hl 0 rfl) ?_
  refine lv_aload_n hx hb dX6_copyFrom_33 rfl (lv_at hl 1 rfl) ?_
  obtain ⟨hg19, hf⟩ := z_g hf
  refine z_getI B hW (Or.inl zf_X6_25) rfl hg19 dX6_copyFrom_34 ?_
  obtain ⟨hg20, hf⟩ := z_g hf
  obtain ⟨σ21, hs22, hf⟩ := z_l hf
  refine z_putI B hW zf_X6_25 hg20 rfl hs22 dX6_copyFrom_37 (fun H locs hW => ?_)
  refine lv_aload_n hx hb dX6_copyFrom_40 rfl (lv_at hl 0 rfl) ?_
  refine lv_aload_n hx hb dX6_copyFrom_41 rfl (lv_at hl 1 rfl) ?_
  obtain ⟨hg23, hf⟩ := z_g hf
  refine z_getI B hW (Or.inl zf_X6_28) rfl hg23 dX6_copyFrom_42 ?_
  obtain ⟨hg24, hf⟩ := z_g hf
  obtain ⟨σ25, hs26, hf⟩ := z_l hf
  refine z_putI B hW zf_X6_28 hg24 rfl hs26 dX6_copyFrom_45 (fun H locs hW => ?_)
  refine lv_aload_n hx hb dX6_copyFrom_48 rfl (lv_at hl 0 rfl) ?_
  refine lv_aload_n hx hb dX6_copyFrom_49 rfl (lv_at hl 1 rfl) ?_
  obtain ⟨hg27, hf⟩ := z_g hf
  refine z_getI B hW (Or.inl zf_X6_31) rfl hg27 dX6_copyFrom_50 ?_
  obtain ⟨hg28, hf⟩ := z_g hf
  obtain ⟨σ29, hs30, hf⟩ := z_l hf
  refine z_putI B hW zf_X6_31 hg28 rfl hs30 dX6_copyFrom_53 (fun H locs hW => ?_)
  refine lv_aload_n hx hb dX6_copyFrom_56 rfl (lv_at hl 0 rfl) ?_
  refine lv_aload_n hx hb dX6_copyFrom_57 rfl (lv_at hl 1 rfl) ?_
  obtain ⟨hg31, hf⟩ := z_g hf
  refine z_getI B hW (Or.inl zf_X6_34) rfl hg31 dX6_copyFrom_58 ?_
  obtain ⟨hg32, hf⟩ := z_g hf
  obtain ⟨σ33, hs34, hf⟩ := z_l hf
  refine z_putI B hW zf_X6_34 hg32 rfl hs34 dX6_copyFrom_61 (fun H locs hW => ?_)
  refine lv_aload_n hx hb dX6_copyFrom_64 rfl (lv_at hl 0 rfl) ?_
  refine lv_aload_n hx hb dX6_copyFrom_65 rfl (lv_at hl 1 rfl) ?_
  obtain ⟨hg35, hf⟩ := z_g hf
  refine z_getI B hW (Or.inl zf_X6_37) rfl hg35 dX6_copyFrom_66 ?_
  obtain ⟨hg36, hf⟩ := z_g hf
  obtain ⟨σ37, hs38, hf⟩ := z_l hf
  refine z_putI B hW zf_X6_37 hg36 rfl hs38 dX6_copyFrom_69 (fun H locs hW => ?_)
  obtain rfl := z_e1 hf
  exact z_rv B hW dX6_copyFrom_72 (Nat.le_of_ble_eq_true rfl) (Nat.le_of_ble_eq_true rfl)
set_option maxRecDepth 100000 in
def f_X2_copyStations_46 (σ : zSt) (l0 : Nat) (l1 : Nat) (l2 : Int32) : Option ((zSt × Int32) ⊕ (zSt)) :=
(some (.inl (σ, (l2 + (1 : Int32)))))
set_option maxRecDepth 20000 in
set_option maxHeartbeats 4000000 in
theorem t_X2_copyStations_46 (B : z_B p s m args meth c D cA bs RX2 cX2_copyStations 5 none)  {σ' : zSt} {o1 : (zSt × Int32) ⊕ (zSt)} {σ : zSt} {l0 : Nat} {l1 : Nat} {l2 : Int32} (hf : f_X2_copyStations_46 σ l0 l1 l2 = some o1) {H : Heap} {locs : List Loc} {ls : Array Slot} (hW : z_Ok D cA bs s σ H locs) (hl : lv_has ls 5 [(0, .ref l0), (1, .ref l1), (2, .int l2)]) (hk1 : ∀ (σ : zSt) (l2 : Int32), o1 = .inl (σ, l2) → ∀ {H : Heap} {locs : List Loc} {ls : Array Slot}, z_Ok D cA bs s σ H locs → lv_has ls 5 [(0, .ref l0), (1, .ref l1), (2, .int l2)] → W p l e (zrm 1 0 0 21) s m args below meth c H locs 0 0 (MQ below (z_Qv D cA bs σ') args s 0 0 (fun q => bs ≤ q)) (F0 m 10 ls [])) (hr1 : ∀ x, o1 = .inr x → x = σ') : W p l e (zrm 1 0 0 21) s m args below meth c H locs 0 0 (MQ below (z_Qv D cA bs σ') args s 0 0 (fun q => bs ≤ q)) (F0 m 46 ls []) := by
  have hx := B.1
  have hb := B.2.1
  have hown := B.2.2.2.1
  have hts := B.2.2.2.2.1
  unfold f_X2_copyStations_46 at hf
  refine lv_iinc (v := (l2 + (1 : Int32))) (lv' := [(2, .int (l2 + (1 : Int32))), (0, .ref l0), (1, .ref l1)]) hx hb dX2_copyStations_46 hl (k := 2) rfl rfl (by decide) rfl (fun ls hl => ?_)
  refine lv_goto (tgt := 10) hx hb dX2_copyStations_49 (by decide) ?_
  exact hk1 _ _ (Option.some.inj hf).symm hW (lv_sub hl [1, 2, 0] rfl)
set_option maxRecDepth 100000 in
def b_X2_copyStations_10 (l0 : Nat) (l1 : Nat) (σ : zSt) (l2 : Int32) : Option ((zSt × Int32) ⊕ (zSt)) :=
(if z_ob σ l0 2 then (if (z_I σ l0 5) ≤ l2 then
(zex (some σ))
else
(if z_ob σ l1 2 then (zb (f_X2_stationIn σ l1 l2) (fun r5 => (zb (f_X2_stationIn σ l0 l2) (fun r7 => (zc r5
(f_X2_copyStations_46 σ l0 l1 l2)
(fun a8 => (zc r7
(f_X2_copyStations_46 σ l0 l1 l2)
(fun a9 => (if z_ob σ a9 6 then (zb (f_X6_copyFrom σ a9 a8) (fun σ12 => (f_X2_copyStations_46 σ12 l0 l1 l2))) else none))))))))) else none)) else none)
set_option maxRecDepth 100000 in
def f_X2_copyStations_10 (l0 : Nat) (l1 : Nat) (σ : zSt) (l2 : Int32) : Option (zSt) := zloop (fun (t : zSt × Int32) => b_X2_copyStations_10 l0 l1 t.1 t.2) zN (σ, l2)
set_option maxRecDepth 20000 in
set_option maxHeartbeats 4000000 in
theorem tb_X2_copyStations_10 (B : z_B p s m args meth c D cA bs RX2 cX2_copyStations 5 none)  {σ' : zSt} {o1 : (zSt × Int32) ⊕ (zSt)} {l0 : Nat} {l1 : Nat} {σ : zSt} {l2 : Int32} (hf : b_X2_copyStations_10 l0 l1 σ l2 = some o1) {H : Heap} {locs : List Loc} {ls : Array Slot} (hW : z_Ok D cA bs s σ H locs) (hl : lv_has ls 5 [(0, .ref l0), (1, .ref l1), (2, .int l2)]) (hk1 : ∀ (σ : zSt) (l2 : Int32), o1 = .inl (σ, l2) → ∀ {H : Heap} {locs : List Loc} {ls : Array Slot}, z_Ok D cA bs s σ H locs → lv_has ls 5 [(0, .ref l0), (1, .ref l1), (2, .int l2)] → W p l e (zrm 1 0 0 21) s m args below meth c H locs 0 0 (MQ below (z_Qv D cA bs σ') args s 0 0 (fun q => bs ≤ q)) (F0 m 10 ls [])) (hr1 : ∀ x, o1 = .inr x → x = σ') : W p l e (zrm 1 0 0 21) s m args below meth c H locs 0 0 (MQ below (z_Qv D cA bs σ') args s 0 0 (fun q => bs ≤ q)) (F0 m 10 ls []) := by
  have hx := B.1
  have hb := B.2.1
  have hown := B.2.2.2.1
  have hts := B.2.2.2.2.1
  unfold b_X2_copyStations_10 at hf
  refine lv_iload_n hx hb dX2_copyStations_10 rfl (lv_at hl 2 rfl) ?_
  refine lv_aload_n hx hb dX2_copyStations_11 rfl (lv_at hl 0 rfl) ?_
  obtain ⟨hg1, hf⟩ := z_g hf
  refine z_getI B hW (Or.inl zf_X2_61) rfl hg1 dX2_copyStations_12 ?_
  refine lv_icmp_ge (tgt := 52) hx hb dX2_copyStations_15 (by decide) (fun hc15 => ?_) (fun hc15 => ?_)
  · replace hf := z_ip hc15 hf
    obtain ⟨w1, hf, ho2⟩ := z_x hf
    obtain rfl := hr1 _ ho2
    obtain rfl := z_e1 hf
    exact z_rv B hW dX2_copyStations_52 (Nat.le_of_ble_eq_true rfl) (Nat.le_of_ble_eq_true rfl)
  · replace hf := z_in hc15 hf
    refine lv_aload_n hx hb dX2_copyStations_18 rfl (lv_at hl 1 rfl) ?_
    refine lv_iload_n hx hb dX2_copyStations_19 rfl (lv_at hl 2 rfl) ?_
    obtain ⟨hg3, hf⟩ := z_g hf
    obtain ⟨r5, hq4, hf⟩ := z_b hf
    refine z_cq hW (z_runV (As := [.int l2]) (rest := []) B hW zv_X2_96 (K_X2_stationIn hq4) hg3 rfl rfl rfl (Nat.le_of_ble_eq_true rfl) hl.1 ⟨Nat.le_of_ble_eq_true rfl, Nat.le_of_ble_eq_true rfl⟩ dX2_copyStations_20 ⟨Nat.le_of_ble_eq_true rfl, Nat.le_of_ble_eq_true rfl⟩) (fun H locs hW => ?_)
    refine z_astore_n (lv' := [(3, va_rf r5), (0, .ref l0), (1, .ref l1), (2, .int l2)]) hx hb dX2_copyStations_23 rfl hl (by decide) rfl (fun ls hl => ?_)
    refine lv_aload_n hx hb dX2_copyStations_24 rfl (lv_at hl 1 rfl) ?_
    refine lv_iload_n hx hb dX2_copyStations_25 rfl (lv_at hl 3 rfl) ?_
    obtain ⟨r7, hq6, hf⟩ := z_b hf
    refine z_cq hW (z_runV (As := [.int l2]) (rest := []) B hW zv_X2_96 (K_X2_stationIn hq6) hg1 rfl rfl rfl (Nat.le_of_ble_eq_true rfl) hl.1 ⟨Nat.le_of_ble_eq_true rfl, Nat.le_of_ble_eq_true rfl⟩ dX2_copyStations_26 ⟨Nat.le_of_ble_eq_true rfl, Nat.le_of_ble_eq_true rfl⟩) (fun H locs hW => ?_)
    refine z_astore (lv' := [(4, va_rf r7), (3, va_rf r5), (0, .ref l0), (1, .ref l1), (2, .int l2)]) hx hb dX2_copyStations_29 hl (by decide) (by simp [z_cat, z_k1, z_k2, z_k3, z_k4, z_k5]) (fun ls hl => ?_)
    refine z_aload_n hx hb dX2_copyStations_31 rfl (lv_at hl 1 rfl) ?_
    refine z_ifnull (tgt := 46) hx hb dX2_copyStations_32 (by decide) (fun hz14 => ?_) (fun a8 hz14 => ?_)
    · subst hz14
      replace hf := z_c0 hf
      exact t_X2_copyStations_46 B hf hW (lv_sub hl [2, 3, 4] rfl) hk1 hr1
    · subst hz14
      replace hf := z_c1 hf
      refine z_aload hx hb dX2_copyStations_35 (lv_at hl 0 rfl) ?_
      refine z_ifnull (tgt := 46) hx hb dX2_copyStations_37 (by decide) (fun hz13 => ?_) (fun a9 hz13 => ?_)
      · subst hz13
        replace hf := z_c0 hf
        exact t_X2_copyStations_46 B hf hW (lv_sub hl [2, 3, 4] rfl) hk1 hr1
      · subst hz13
        replace hf := z_c1 hf
        refine lv_aload hx hb dX2_copyStations_40 (lv_at hl 0 rfl) ?_
        refine lv_aload_n hx hb dX2_copyStations_42 rfl (lv_at hl 1 rfl) ?_
        obtain ⟨hg10, hf⟩ := z_g hf
        obtain ⟨σ12, hq11, hf⟩ := z_b hf
        refine z_cv hW (z_runV (As := [.ref a8]) (rest := []) B hW zv_X2_100 (K_X6_copyFrom hq11) hg10 rfl rfl rfl (Nat.le_of_ble_eq_true rfl) hl.1 ⟨Nat.le_of_ble_eq_true rfl, Nat.le_of_ble_eq_true rfl⟩ dX2_copyStations_43 ⟨Nat.le_of_ble_eq_true rfl, Nat.le_of_ble_eq_true rfl⟩) (fun H locs hW => ?_)
        exact t_X2_copyStations_46 B hf hW (lv_sub hl [2, 3, 4] rfl) hk1 hr1
set_option maxRecDepth 20000 in
set_option maxHeartbeats 4000000 in
theorem t_X2_copyStations_10 (B : z_B p s m args meth c D cA bs RX2 cX2_copyStations 5 none)  {σ' : zSt} {l0 : Nat} {l1 : Nat}  : ∀ (n : Nat) {σ : zSt} {l2 : Int32}, zloop (fun (t : zSt × Int32) => b_X2_copyStations_10 l0 l1 t.1 t.2) n (σ, l2) = some σ' → ∀ {H : Heap} {locs : List Loc} {ls : Array Slot}, z_Ok D cA bs s σ H locs → lv_has ls 5 [(0, .ref l0), (1, .ref l1), (2, .int l2)] → W p l e (zrm 1 0 0 21) s m args below meth c H locs 0 0 (MQ below (z_Qv D cA bs σ') args s 0 0 (fun q => bs ≤ q)) (F0 m 10 ls []) := by
  intro n
  induction n with
  | zero => intro σ l2 hf; cases hf
  | succ n ih =>
    intro σ l2 hf H locs ls hW hl
    obtain ⟨o1, hb1, hf⟩ := z_lp hf
    refine tb_X2_copyStations_10 B hb1 hW hl  (fun σ l2 he H locs ls hW hl => ?_) (fun x he => ?_)
    · rcases hf with ⟨t, ht, hf⟩ | hf
      · rw [he] at ht
        cases ht
        exact ih hf hW hl
      · rw [he] at hf
        cases hf
    · rcases hf with ⟨t, ht, hf⟩ | hf
      · rw [he] at ht
        cases ht
      · rw [he] at hf
        exact Sum.inr.inj hf
set_option maxRecDepth 100000 in
def f_X2_copyStations (σ : zSt) (l0 : Nat) (l1 : Nat) : Option (zSt) :=
(if z_ob σ l1 2 then (if z_ob σ l0 2 then (zl (z_pI σ l0 5 (z_I σ l1 5)) (fun σ3 => (f_X2_copyStations_10 l0 l1 σ3 (0 : Int32)))) else none) else none)
set_option maxRecDepth 20000 in
set_option maxHeartbeats 4000000 in
theorem K_X2_copyStations {σ : zSt} {l0 : Nat} {l1 : Nat}  {σ' : zSt} (hf : f_X2_copyStations σ l0 l1 = some σ') : z_M l D cA bs yX2_copyStations cX2_copyStations 5 none 1 21 0 0 [.ref l0, .ref l1] σ (z_Qv D cA bs σ') := by
  refine z_met (own := RX2) (lv := [(0, .ref l0), (1, .ref l1)]) (by decide) rfl (Nat.le_of_ble_eq_true rfl) rfl (fun p e s m below meth c ls B hnm hW hl => ?_)
  have hx := B.1
  have hb := B.2.1
  have hown := B.2.2.2.1
  have hts := B.2.2.2.2.1
  unfold f_X2_copyStations at hf
  refine lv_aload_n hx hb dX2_copyStations_0 rfl (lv_at hl 0 rfl) ?_
  refine lv_aload_n hx hb dX2_copyStations_1 rfl (lv_at hl 1 rfl) ?_
  obtain ⟨hg1, hf⟩ := z_g hf
  refine z_getI B hW (Or.inl zf_X2_61) rfl hg1 dX2_copyStations_2 ?_
  obtain ⟨hg2, hf⟩ := z_g hf
  obtain ⟨σ3, hs4, hf⟩ := z_l hf
  refine z_putI B hW zf_X2_61 hg2 rfl hs4 dX2_copyStations_5 (fun H locs hW => ?_)
  refine lv_iconst (v := (0 : Int32)) hx hb dX2_copyStations_8 (by decide) ?_
  refine lv_istore_n (lv' := [(2, .int (0 : Int32)), (0, .ref l0), (1, .ref l1)]) hx hb dX2_copyStations_9 rfl hl (by decide) rfl (fun ls hl => ?_)
  unfold f_X2_copyStations_10 at hf
  exact t_X2_copyStations_10 B  zN hf hW (lv_sub hl [1, 2, 0] rfl)
end GEN
