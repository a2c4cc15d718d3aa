section GEN
variable {p : Program} {l : Launch} {e : Env} {s : State} {m : MethodId} {args : Array Value} {below : List Frame} {meth : Method} {c : Code} {D : va_G} {cA : Nat → ClassId} {bs : Nat}
set_option maxRecDepth 100000 in
def f_X10_completeAfter_69 (σ : zSt) (l0 : Nat) (s0 : Int32) : Option (Int32 × zSt) :=
(if z_ob σ l0 9 then (zb (f_X10_takesBack σ l0) (fun σ3 => (some (s0, σ3)))) else none)
set_option maxRecDepth 20000 in
set_option maxHeartbeats 4000000 in
theorem t_X10_completeAfter_69 (B : z_B p s m args meth c D cA bs RX10 cX10_completeAfter 2 (some .int)) {r : Int32} {σ' : zSt} {σ : zSt} {l0 : Nat} {s0 : Int32} (hf : f_X10_completeAfter_69 σ l0 s0 = some (r, σ')) {H : Heap} {locs : List Loc} {ls : Array Slot} (hW : z_Ok D cA bs s σ H locs) (hl : lv_has ls 2 [(0, .ref l0)])  : W p l e (zrm 6 0 0 141) s m args below meth c H locs 0 0 (MQ below (z_Qi D cA bs r σ') args s 0 0 (fun q => bs ≤ q)) (F0 m 69 ls [.int s0]) := by
  have hx := B.1
  have hb := B.2.1
  have hown := B.2.2.2.1
  have hts := B.2.2.2.2.1
  unfold f_X10_completeAfter_69 at hf
  refine lv_istore_n (lv' := [(1, .int s0), (0, .ref l0)]) hx hb dX10_completeAfter_69 rfl hl (by decide) rfl (fun ls hl => ?_)
  refine lv_aload_n hx hb dX10_completeAfter_70 rfl (lv_at hl 1 rfl) ?_
  obtain ⟨hg1, hf⟩ := z_g hf
  obtain ⟨σ3, hq2, hf⟩ := z_b hf
  refine z_cv hW (z_runV (As := []) (rest := []) B hW zv_X10_146 (K_X10_takesBack hq2) hg1 rfl rfl rfl (Nat.le_of_ble_eq_true rfl) hl.1 ⟨Nat.le_of_ble_eq_true rfl, Nat.le_of_ble_eq_true rfl⟩ dX10_completeAfter_71 ⟨Nat.le_of_ble_eq_true rfl, Nat.le_of_ble_eq_true rfl⟩) (fun H locs hW => ?_)
  refine lv_iload_n hx hb dX10_completeAfter_74 rfl (lv_at hl 0 rfl) ?_
  obtain ⟨rfl, rfl⟩ := z_e2 hf
  exact z_ri B hW dX10_completeAfter_75 (Nat.le_of_ble_eq_true rfl) (Nat.le_of_ble_eq_true rfl)
set_option maxRecDepth 100000 in
def f_X10_completeAfter_57 (σ : zSt) (l0 : Nat) (l1 : Int32) : Option (Int32 × zSt) :=
(if z_ob σ l0 9 then (zb (f_X10_isComplete σ l0) (fun r3 => (if r3 = 0 then
(f_X10_completeAfter_69 σ l0 (-1 : Int32))
else
(f_X10_completeAfter_69 σ l0 l1)))) else none)
set_option maxRecDepth 20000 in
set_option maxHeartbeats 4000000 in
theorem t_X10_completeAfter_57 (B : z_B p s m args meth c D cA bs RX10 cX10_completeAfter 2 (some .int)) {r : Int32} {σ' : zSt} {σ : zSt} {l0 : Nat} {l1 : Int32} (hf : f_X10_completeAfter_57 σ l0 l1 = some (r, σ')) {H : Heap} {locs : List Loc} {ls : Array Slot} (hW : z_Ok D cA bs s σ H locs) (hl : lv_has ls 2 [(0, .ref l0), (1, .int l1)])  : W p l e (zrm 6 0 0 141) s m args below meth c H locs 0 0 (MQ below (z_Qi D cA bs r σ') args s 0 0 (fun q => bs ≤ q)) (F0 m 57 ls []) := by
  have hx := B.1
  have hb := B.2.1
  have hown := B.2.2.2.1
  have hts := B.2.2.2.2.1
  unfold f_X10_completeAfter_57 at hf
  refine lv_aload_n hx hb dX10_completeAfter_57 rfl (lv_at hl 0 rfl) ?_
  obtain ⟨hg1, hf⟩ := z_g hf
  obtain ⟨r3, hq2, hf⟩ := z_b hf
  refine z_ci hW (z_runV (As := []) (rest := []) B hW zv_X10_149 (K_X10_isComplete hq2) hg1 rfl rfl rfl (Nat.le_of_ble_eq_true rfl) hl.1 ⟨Nat.le_of_ble_eq_true rfl, Nat.le_of_ble_eq_true rfl⟩ dX10_completeAfter_58 ⟨Nat.le_of_ble_eq_true rfl, Nat.le_of_ble_eq_true rfl⟩) (fun H locs hW => ?_)
  refine lv_if_eq (tgt := 68) hx hb dX10_completeAfter_61 (by decide) (fun hc61 => ?_) (fun hc61 => ?_)
  · replace hf := z_ip hc61 hf
    refine lv_iconst (v := (-1 : Int32)) hx hb dX10_completeAfter_68 (by decide) ?_
    exact t_X10_completeAfter_69 B hf hW (lv_sub hl [0] rfl) 
  · replace hf := z_in hc61 hf
    refine lv_iload_n hx hb dX10_completeAfter_64 rfl (lv_at hl 1 rfl) ?_
    refine lv_goto (tgt := 69) hx hb dX10_completeAfter_65 (by decide) ?_
    exact t_X10_completeAfter_69 B hf hW (lv_sub hl [0] rfl) 
set_option maxRecDepth 100000 in
def b_X10_completeAfter_33 (l0 : Nat) (σ : zSt) (l1 : Int32) : Option ((zSt × Int32) ⊕ (Int32 × zSt)) :=
(if (300 : Int32) ≤ l1 then
(zex (f_X10_completeAfter_57 σ l0 l1))
else
(if z_ob σ l0 9 then (zb (f_X10_isComplete σ l0) (fun r4 => (if r4 = 0 then
(zb (f_X10_visits σ l0) (fun σ7 => (some (.inl (σ7, (l1 + (1 : Int32)))))))
else
(zex (f_X10_completeAfter_57 σ l0 l1))))) else none))
set_option maxRecDepth 100000 in
def f_X10_completeAfter_33 (l0 : Nat) (σ : zSt) (l1 : Int32) : Option (Int32 × zSt) := zloop (fun (t : zSt × Int32) => b_X10_completeAfter_33 l0 t.1 t.2) zN (σ, l1)
set_option maxRecDepth 20000 in
set_option maxHeartbeats 4000000 in
theorem tb_X10_completeAfter_33 (B : z_B p s m args meth c D cA bs RX10 cX10_completeAfter 2 (some .int)) {r : Int32} {σ' : zSt} {o1 : (zSt × Int32) ⊕ (Int32 × zSt)} {l0 : Nat} {σ : zSt} {l1 : Int32} (hf : b_X10_completeAfter_33 l0 σ l1 = some o1) {H : Heap} {locs : List Loc} {ls : Array Slot} (hW : z_Ok D cA bs s σ H locs) (hl : lv_has ls 2 [(0, .ref l0), (1, .int l1)]) (hk1 : ∀ (σ : zSt) (l1 : Int32), o1 = .inl (σ, l1) → ∀ {H : Heap} {locs : List Loc} {ls : Array Slot}, z_Ok D cA bs s σ H locs → lv_has ls 2 [(0, .ref l0), (1, .int l1)] → W p l e (zrm 6 0 0 141) s m args below meth c H locs 0 0 (MQ below (z_Qi D cA bs r σ') args s 0 0 (fun q => bs ≤ q)) (F0 m 33 ls [])) (hr1 : ∀ x, o1 = .inr x → x = (r, σ')) : W p l e (zrm 6 0 0 141) s m args below meth c H locs 0 0 (MQ below (z_Qi D cA bs r σ') args s 0 0 (fun q => bs ≤ q)) (F0 m 33 ls []) := by
  have hx := B.1
  have hb := B.2.1
  have hown := B.2.2.2.1
  have hts := B.2.2.2.2.1
  unfold b_X10_completeAfter_33 at hf
  refine lv_iload_n hx hb dX10_completeAfter_33 rfl (lv_at hl 1 rfl) ?_
  refine lv_sipush (v := (300 : Int32)) hx hb dX10_completeAfter_34 (by decide) ?_
  refine lv_icmp_ge (tgt := 57) hx hb dX10_completeAfter_37 (by decide) (fun hc37 => ?_) (fun hc37 => ?_)
  · replace hf := z_ip hc37 hf
    obtain ⟨w1, hf, ho1⟩ := z_x hf
    obtain rfl := hr1 _ ho1
    exact t_X10_completeAfter_57 B hf hW hl 
  · replace hf := z_in hc37 hf
    refine lv_aload_n hx hb dX10_completeAfter_40 rfl (lv_at hl 0 rfl) ?_
    obtain ⟨hg2, hf⟩ := z_g hf
    obtain ⟨r4, hq3, hf⟩ := z_b hf
    refine z_ci hW (z_runV (As := []) (rest := []) B hW zv_X10_149 (K_X10_isComplete hq3) hg2 rfl rfl rfl (Nat.le_of_ble_eq_true rfl) hl.1 ⟨Nat.le_of_ble_eq_true rfl, Nat.le_of_ble_eq_true rfl⟩ dX10_completeAfter_41 ⟨Nat.le_of_ble_eq_true rfl, Nat.le_of_ble_eq_true rfl⟩) (fun H locs hW => ?_)
    refine lv_if_ne (tgt := 57) hx hb dX10_completeAfter_44 (by decide) (fun hc44 => ?_) (fun hc44 => ?_)
    · replace hf := z_in hc44 hf
      obtain ⟨w1, hf, ho5⟩ := z_x hf
      obtain rfl := hr1 _ ho5
      exact t_X10_completeAfter_57 B hf hW hl 
    · replace hf := z_ip hc44 hf
      refine lv_aload_n hx hb dX10_completeAfter_47 rfl (lv_at hl 0 rfl) ?_
      obtain ⟨σ7, hq6, hf⟩ := z_b hf
      refine z_cv hW (z_runV (As := []) (rest := []) B hW zv_X10_119 (K_X10_visits hq6) hg2 rfl rfl rfl (Nat.le_of_ble_eq_true rfl) hl.1 ⟨Nat.le_of_ble_eq_true rfl, Nat.le_of_ble_eq_true rfl⟩ dX10_completeAfter_48 ⟨Nat.le_of_ble_eq_true rfl, Nat.le_of_ble_eq_true rfl⟩) (fun H locs hW => ?_)
      refine lv_iinc (v := (l1 + (1 : Int32))) (lv' := [(1, .int (l1 + (1 : Int32))), (0, .ref l0)]) hx hb dX10_completeAfter_51 hl (k := 1) rfl rfl (by decide) rfl (fun ls hl => ?_)
      refine lv_goto (tgt := 33) hx hb dX10_completeAfter_54 (by decide) ?_
      exact hk1 _ _ (Option.some.inj hf).symm hW (lv_sub hl [1, 0] rfl)
set_option maxRecDepth 20000 in
set_option maxHeartbeats 4000000 in
theorem t_X10_completeAfter_33 (B : z_B p s m args meth c D cA bs RX10 cX10_completeAfter 2 (some .int)) {r : Int32} {σ' : zSt} {l0 : Nat}  : ∀ (n : Nat) {σ : zSt} {l1 : Int32}, zloop (fun (t : zSt × Int32) => b_X10_completeAfter_33 l0 t.1 t.2) n (σ, l1) = some (r, σ') → ∀ {H : Heap} {locs : List Loc} {ls : Array Slot}, z_Ok D cA bs s σ H locs → lv_has ls 2 [(0, .ref l0), (1, .int l1)] → W p l e (zrm 6 0 0 141) s m args below meth c H locs 0 0 (MQ below (z_Qi D cA bs r σ') args s 0 0 (fun q => bs ≤ q)) (F0 m 33 ls []) := by
  intro n
  induction n with
  | zero => intro σ l1 hf; cases hf
  | succ n ih =>
    intro σ l1 hf H locs ls hW hl
    obtain ⟨o1, hb1, hf⟩ := z_lp hf
    refine tb_X10_completeAfter_33 B hb1 hW hl  (fun σ l1 he H locs ls hW hl => ?_) (fun x he => ?_)
    · rcases hf with ⟨t, ht, hf⟩ | hf
      · rw [he] at ht
        cases ht
        exact ih hf hW hl
      · rw [he] at hf
        cases hf
    · rcases hf with ⟨t, ht, hf⟩ | hf
      · rw [he] at ht
        cases ht
      · rw [he] at hf
        exact Sum.inr.inj hf
set_option maxRecDepth 100000 in
def f_X10_completeAfter_17 (σ : zSt) (l0 : Nat) (s0 : Int32) (s1 : Option Nat) : Option (Int32 × zSt) :=
(zc s1 none (fun a1 => (if z_ob σ a1 9 then (zb2 (f_X10_goes σ a1 s0 (1 : Int32) (1 : Int32)) (fun r5 σ6 => (if r5 = 0 then
(some ((0 : Int32), σ6))
else
(if z_ob σ6 l0 9 then (zb (f_X10_lays σ6 l0) (fun σ9 => (f_X10_completeAfter_33 l0 σ9 (0 : Int32)))) else none)))) else none)))
set_option maxRecDepth 20000 in
set_option maxHeartbeats 4000000 in
theorem t_X10_completeAfter_17 (B : z_B p s m args meth c D cA bs RX10 cX10_completeAfter 2 (some .int)) {r : Int32} {σ' : zSt} {σ : zSt} {l0 : Nat} {s0 : Int32} {s1 : Option Nat} (hf : f_X10_completeAfter_17 σ l0 s0 s1 = some (r, σ')) {H : Heap} {locs : List Loc} {ls : Array Slot} (hW : z_Ok D cA bs s σ H locs) (hl : lv_has ls 2 [(0, .ref l0)])  : W p l e (zrm 6 0 0 141) s m args below meth c H locs 0 0 (MQ below (z_Qi D cA bs r σ') args s 0 0 (fun q => bs ≤ q)) (F0 m 17 ls [.int s0, va_rf s1]) := by
  have hx := B.1
  have hb := B.2.1
  have hown := B.2.2.2.1
  have hts := B.2.2.2.2.1
  unfold f_X10_completeAfter_17 at hf
  refine lv_iconst (v := (1 : Int32)) hx hb dX10_completeAfter_17 (by decide) ?_
  refine lv_iconst (v := (1 : Int32)) hx hb dX10_completeAfter_18 (by decide) ?_
  obtain ⟨a1, hn2, hf⟩ := z_nn hf
  subst hn2
  obtain ⟨hg3, hf⟩ := z_g hf
  obtain ⟨r5, σ6, hq4, hf⟩ := z_b2 hf
  refine z_ci hW (z_runV (As := [.int s0, .int (1 : Int32), .int (1 : Int32)]) (rest := []) B hW zv_X10_53 (K_X10_goes hq4) hg3 rfl rfl rfl (Nat.le_of_ble_eq_true rfl) hl.1 ⟨Nat.le_of_ble_eq_true rfl, Nat.le_of_ble_eq_true rfl⟩ dX10_completeAfter_19 ⟨Nat.le_of_ble_eq_true rfl, Nat.le_of_ble_eq_true rfl⟩) (fun H locs hW => ?_)
  refine lv_if_ne (tgt := 27) hx hb dX10_completeAfter_22 (by decide) (fun hc22 => ?_) (fun hc22 => ?_)
  · replace hf := z_in hc22 hf
    refine lv_aload_n hx hb dX10_completeAfter_27 rfl (lv_at hl 0 rfl) ?_
    obtain ⟨hg7, hf⟩ := z_g hf
    obtain ⟨σ9, hq8, hf⟩ := z_b hf
    refine z_cv hW (z_runV (As := []) (rest := []) B hW zv_X10_143 (K_X10_lays hq8) hg7 rfl rfl rfl (Nat.le_of_ble_eq_true rfl) hl.1 ⟨Nat.le_of_ble_eq_true rfl, Nat.le_of_ble_eq_true rfl⟩ dX10_completeAfter_28 ⟨Nat.le_of_ble_eq_true rfl, Nat.le_of_ble_eq_true rfl⟩) (fun H locs hW => ?_)
    refine lv_iconst (v := (0 : Int32)) hx hb dX10_completeAfter_31 (by decide) ?_
    refine lv_istore_n (lv' := [(1, .int (0 : Int32)), (0, .ref l0)]) hx hb dX10_completeAfter_32 rfl hl (by decide) rfl (fun ls hl => ?_)
    unfold f_X10_completeAfter_33 at hf
    exact t_X10_completeAfter_33 B  zN hf hW (lv_sub hl [1, 0] rfl)
  · replace hf := z_ip hc22 hf
    refine lv_iconst (v := (0 : Int32)) hx hb dX10_completeAfter_25 (by decide) ?_
    obtain ⟨rfl, rfl⟩ := z_e2 hf
    exact z_ri B hW dX10_completeAfter_26 (Nat.le_of_ble_eq_true rfl) (Nat.le_of_ble_eq_true rfl)
set_option maxRecDepth 100000 in
def f_X10_completeAfter (σ : zSt) (l0 : Nat) : Option (Int32 × zSt) :=
(if z_ob σ l0 9 then (zc (z_R σ l0 0) none (fun q2 => (if z_ar σ q2 0 then (if z_ix (3 : Int32) (z_ln σ q2) then (if (900000 : Int32) < (z_I σ q2 (3 : Int32).toNatClampNeg) then
(f_X10_completeAfter_17 σ l0 (0 : Int32) (some l0))
else
(f_X10_completeAfter_17 σ l0 (1 : Int32) (some l0))) else none) else none))) else none)
set_option maxRecDepth 20000 in
set_option maxHeartbeats 4000000 in
theorem K_X10_completeAfter {σ : zSt} {l0 : Nat} {r : Int32} {σ' : zSt} (hf : f_X10_completeAfter σ l0 = some (r, σ')) : z_M l D cA bs yX10_completeAfter cX10_completeAfter 2 (some .int) 6 141 0 0 [.ref l0] σ (z_Qi D cA bs r σ') := by
  refine z_met (own := RX10) (lv := [(0, .ref l0)]) (by decide) rfl (Nat.le_of_ble_eq_true rfl) rfl (fun p e s m below meth c ls B hnm hW hl => ?_)
  have hx := B.1
  have hb := B.2.1
  have hown := B.2.2.2.1
  have hts := B.2.2.2.2.1
  unfold f_X10_completeAfter at hf
  refine lv_aload_n hx hb dX10_completeAfter_0 rfl (lv_at hl 0 rfl) ?_
  refine lv_aload_n hx hb dX10_completeAfter_1 rfl (lv_at hl 0 rfl) ?_
  obtain ⟨hg1, hf⟩ := z_g hf
  obtain ⟨q2, hv3, hf⟩ := z_nn hf
  refine z_getN B hW (Or.inr zf_X10_7) rfl hg1 hv3 dX10_completeAfter_2 ?_
  refine lv_iconst (v := (3 : Int32)) hx hb dX10_completeAfter_5 (by decide) ?_
  obtain ⟨hg4, hf⟩ := z_g hf
  obtain ⟨hg5, hf⟩ := z_g hf
  refine z_ald B hW hg4 hg5 dX10_completeAfter_6 ?_
  refine lv_ldc hx hb hown (hts _ zk_X10_118) dX10_completeAfter_7 ?_
  refine lv_icmp_gt (tgt := 16) hx hb dX10_completeAfter_9 (by decide) (fun hc9 => ?_) (fun hc9 => ?_)
  · replace hf := z_ip hc9 hf
    refine lv_iconst (v := (0 : Int32)) hx hb dX10_completeAfter_16 (by decide) ?_
    exact t_X10_completeAfter_17 B hf hW hl 
  · replace hf := z_in hc9 hf
    refine lv_iconst (v := (1 : Int32)) hx hb dX10_completeAfter_12 (by decide) ?_
    refine lv_goto (tgt := 17) hx hb dX10_completeAfter_13 (by decide) ?_
    exact t_X10_completeAfter_17 B hf hW hl 
set_option maxRecDepth 100000 in
def f_X10_waiting_40 (σ : zSt) (l0 : Nat) (l2 : Int32) (s0 : Int32) (s1 : Int32) : Option ((Int32 × Int32) ⊕ (Int32)) :=
(zl (s1 + s0) (fun x1 => (some (.inl (x1, (l2 + (1 : Int32)))))))
set_option maxRecDepth 20000 in
set_option maxHeartbeats 4000000 in
theorem t_X10_waiting_40 (B : z_B p s m args meth c D cA bs RX10 cX10_waiting 3 (some .int)) {r : Int32} {o1 : (Int32 × Int32) ⊕ (Int32)} {σ : zSt} {l0 : Nat} {l2 : Int32} {s0 : Int32} {s1 : Int32} (hf : f_X10_waiting_40 σ l0 l2 s0 s1 = some o1) {H : Heap} {locs : List Loc} {ls : Array Slot} (hW : z_Ok D cA bs s σ H locs) (hl : lv_has ls 3 [(0, .ref l0), (2, .int l2)]) (hk1 : ∀ (l1 : Int32) (l2 : Int32), o1 = .inl (l1, l2) → ∀ {H : Heap} {locs : List Loc} {ls : Array Slot}, z_Ok D cA bs s σ H locs → lv_has ls 3 [(0, .ref l0), (1, .int l1), (2, .int l2)] → W p l e (zrm 3 0 0 66) s m args below meth c H locs 0 0 (MQ below (z_Qi D cA bs r σ) args s 0 0 (fun q => bs ≤ q)) (F0 m 4 ls [])) (hr1 : ∀ x, o1 = .inr x → x = r) : W p l e (zrm 3 0 0 66) s m args below meth c H locs 0 0 (MQ below (z_Qi D cA bs r σ) args s 0 0 (fun q => bs ≤ q)) (F0 m 40 ls [.int s0, .int s1]) := by
  have hx := B.1
  have hb := B.2.1
  have hown := B.2.2.2.1
  have hts := B.2.2.2.2.1
  unfold f_X10_waiting_40 at hf
  refine lv_iadd hx hb dX10_waiting_40 ?_
  obtain ⟨x1, hx2, hf⟩ := z_l hf
  rw [hx2]
  refine lv_istore_n (lv' := [(1, .int x1), (0, .ref l0), (2, .int l2)]) hx hb dX10_waiting_41 rfl hl (by decide) rfl (fun ls hl => ?_)
  refine lv_iinc (v := (l2 + (1 : Int32))) (lv' := [(2, .int (l2 + (1 : Int32))), (1, .int x1), (0, .ref l0)]) hx hb dX10_waiting_42 hl (k := 2) rfl rfl (by decide) rfl (fun ls hl => ?_)
  refine lv_goto (tgt := 4) hx hb dX10_waiting_45 (by decide) ?_
  exact hk1 _ _ (Option.some.inj hf).symm hW (lv_sub hl [2, 1, 0] rfl)
set_option maxRecDepth 100000 in
def f_X10_waiting_39 (σ : zSt) (l0 : Nat) (l2 : Int32) (s0 : Int32) : Option ((Int32 × Int32) ⊕ (Int32)) :=
(f_X10_waiting_40 σ l0 l2 (0 : Int32) s0)
set_option maxRecDepth 20000 in
set_option maxHeartbeats 4000000 in
theorem t_X10_waiting_39 (B : z_B p s m args meth c D cA bs RX10 cX10_waiting 3 (some .int)) {r : Int32} {o1 : (Int32 × Int32) ⊕ (Int32)} {σ : zSt} {l0 : Nat} {l2 : Int32} {s0 : Int32} (hf : f_X10_waiting_39 σ l0 l2 s0 = some o1) {H : Heap} {locs : List Loc} {ls : Array Slot} (hW : z_Ok D cA bs s σ H locs) (hl : lv_has ls 3 [(0, .ref l0), (2, .int l2)]) (hk1 : ∀ (l1 : Int32) (l2 : Int32), o1 = .inl (l1, l2) → ∀ {H : Heap} {locs : List Loc} {ls : Array Slot}, z_Ok D cA bs s σ H locs → lv_has ls 3 [(0, .ref l0), (1, .int l1), (2, .int l2)] → W p l e (zrm 3 0 0 66) s m args below meth c H locs 0 0 (MQ below (z_Qi D cA bs r σ) args s 0 0 (fun q => bs ≤ q)) (F0 m 4 ls [])) (hr1 : ∀ x, o1 = .inr x → x = r) : W p l e (zrm 3 0 0 66) s m args below meth c H locs 0 0 (MQ below (z_Qi D cA bs r σ) args s 0 0 (fun q => bs ≤ q)) (F0 m 39 ls [.int s0]) := by
  have hx := B.1
  have hb := B.2.1
  have hown := B.2.2.2.1
  have hts := B.2.2.2.2.1
  unfold f_X10_waiting_39 at hf
  refine lv_iconst (v := (0 : Int32)) hx hb dX10_waiting_39 (by decide) ?_
  exact t_X10_waiting_40 B hf hW hl hk1 hr1
set_option maxRecDepth 100000 in
def b_X10_waiting_4 (σ : zSt) (l0 : Nat) (l1 : Int32) (l2 : Int32) : Option ((Int32 × Int32) ⊕ (Int32)) :=
(if (32 : Int32) ≤ l2 then
(zex (some l1))
else
(if z_ob σ l0 9 then (zb (f_X10_of σ l0 l2 (0 : Int32)) (fun r4 => (if r4 = (1 : Int32) then
(zb (f_X10_of σ l0 l2 (1 : Int32)) (fun r6 => (if r6 = (1 : Int32) then
(zb (f_X10_queueOf σ l0 l2) (fun r8 => (f_X10_waiting_40 σ l0 l2 r8 l1)))
else
(f_X10_waiting_39 σ l0 l2 l1))))
else
(f_X10_waiting_39 σ l0 l2 l1)))) else none))
set_option maxRecDepth 100000 in
def f_X10_waiting_4 (σ : zSt) (l0 : Nat) (l1 : Int32) (l2 : Int32) : Option (Int32) := zloop (fun (t : Int32 × Int32) => b_X10_waiting_4 σ l0 t.1 t.2) zN (l1, l2)
set_option maxRecDepth 20000 in
set_option maxHeartbeats 4000000 in
theorem tb_X10_waiting_4 (B : z_B p s m args meth c D cA bs RX10 cX10_waiting 3 (some .int)) {r : Int32} {o1 : (Int32 × Int32) ⊕ (Int32)} {σ : zSt} {l0 : Nat} {l1 : Int32} {l2 : Int32} (hf : b_X10_waiting_4 σ l0 l1 l2 = some o1) {H : Heap} {locs : List Loc} {ls : Array Slot} (hW : z_Ok D cA bs s σ H locs) (hl : lv_has ls 3 [(0, .ref l0), (1, .int l1), (2, .int l2)]) (hk1 : ∀ (l1 : Int32) (l2 : Int32), o1 = .inl (l1, l2) → ∀ {H : Heap} {locs : List Loc} {ls : Array Slot}, z_Ok D cA bs s σ H locs → lv_has ls 3 [(0, .ref l0), (1, .int l1), (2, .int l2)] → W p l e (zrm 3 0 0 66) s m args below meth c H locs 0 0 (MQ below (z_Qi D cA bs r σ) args s 0 0 (fun q => bs ≤ q)) (F0 m 4 ls [])) (hr1 : ∀ x, o1 = .inr x → x = r) : W p l e (zrm 3 0 0 66) s m args below meth c H locs 0 0 (MQ below (z_Qi D cA bs r σ) args s 0 0 (fun q => bs ≤ q)) (F0 m 4 ls []) := by
  have hx := B.1
  have hb := B.2.1
  have hown := B.2.2.2.1
  have hts := B.2.2.2.2.1
  unfold b_X10_waiting_4 at hf
  refine lv_iload_n hx hb dX10_waiting_4 rfl (lv_at hl 2 rfl) ?_
  refine lv_bipush (v := (32 : Int32)) hx hb dX10_waiting_5 (by decide) ?_
  refine lv_icmp_ge (tgt := 48) hx hb dX10_waiting_7 (by decide) (fun hc7 => ?_) (fun hc7 => ?_)
  · replace hf := z_ip hc7 hf
    obtain ⟨w1, hf, ho1⟩ := z_x hf
    obtain rfl := hr1 _ ho1
    refine lv_iload_n hx hb dX10_waiting_48 rfl (lv_at hl 1 rfl) ?_
    obtain rfl := z_e1 hf
    exact z_ri B hW dX10_waiting_49 (Nat.le_of_ble_eq_true rfl) (Nat.le_of_ble_eq_true rfl)
  · replace hf := z_in hc7 hf
    refine lv_iload_n hx hb dX10_waiting_10 rfl (lv_at hl 1 rfl) ?_
    refine lv_aload_n hx hb dX10_waiting_11 rfl (lv_at hl 0 rfl) ?_
    refine lv_iload_n hx hb dX10_waiting_12 rfl (lv_at hl 2 rfl) ?_
    refine lv_iconst (v := (0 : Int32)) hx hb dX10_waiting_13 (by decide) ?_
    obtain ⟨hg2, hf⟩ := z_g hf
    obtain ⟨r4, hq3, hf⟩ := z_b hf
    refine z_ci hW (z_runV (As := [.int l2, .int (0 : Int32)]) (rest := [.int l1]) B hW zv_X10_39 (K_X10_of hq3) hg2 rfl rfl rfl (Nat.le_of_ble_eq_true rfl) hl.1 ⟨Nat.le_of_ble_eq_true rfl, Nat.le_of_ble_eq_true rfl⟩ dX10_waiting_14 ⟨Nat.le_of_ble_eq_true rfl, Nat.le_of_ble_eq_true rfl⟩) (fun H locs hW => ?_)
    refine lv_iconst (v := (1 : Int32)) hx hb dX10_waiting_17 (by decide) ?_
    refine lv_icmp_ne (tgt := 39) hx hb dX10_waiting_18 (by decide) (fun hc18 => ?_) (fun hc18 => ?_)
    · replace hf := z_in hc18 hf
      exact t_X10_waiting_39 B hf hW (lv_sub hl [0, 2] rfl) hk1 hr1
    · replace hf := z_ip hc18 hf
      refine lv_aload_n hx hb dX10_waiting_21 rfl (lv_at hl 0 rfl) ?_
      refine lv_iload_n hx hb dX10_waiting_22 rfl (lv_at hl 2 rfl) ?_
      refine lv_iconst (v := (1 : Int32)) hx hb dX10_waiting_23 (by decide) ?_
      obtain ⟨r6, hq5, hf⟩ := z_b hf
      refine z_ci hW (z_runV (As := [.int l2, .int (1 : Int32)]) (rest := [.int l1]) B hW zv_X10_39 (K_X10_of hq5) hg2 rfl rfl rfl (Nat.le_of_ble_eq_true rfl) hl.1 ⟨Nat.le_of_ble_eq_true rfl, Nat.le_of_ble_eq_true rfl⟩ dX10_waiting_24 ⟨Nat.le_of_ble_eq_true rfl, Nat.le_of_ble_eq_true rfl⟩) (fun H locs hW => ?_)
      refine lv_iconst (v := (1 : Int32)) hx hb dX10_waiting_27 (by decide) ?_
      refine lv_icmp_ne (tgt := 39) hx hb dX10_waiting_28 (by decide) (fun hc28 => ?_) (fun hc28 => ?_)
      · replace hf := z_in hc28 hf
        exact t_X10_waiting_39 B hf hW (lv_sub hl [0, 2] rfl) hk1 hr1
      · replace hf := z_ip hc28 hf
        refine lv_aload_n hx hb dX10_waiting_31 rfl (lv_at hl 0 rfl) ?_
        refine lv_iload_n hx hb dX10_waiting_32 rfl (lv_at hl 2 rfl) ?_
        obtain ⟨r8, hq7, hf⟩ := z_b hf
        refine z_ci hW (z_runV (As := [.int l2]) (rest := [.int l1]) B hW zv_X10_131 (K_X10_queueOf hq7) hg2 rfl rfl rfl (Nat.le_of_ble_eq_true rfl) hl.1 ⟨Nat.le_of_ble_eq_true rfl, Nat.le_of_ble_eq_true rfl⟩ dX10_waiting_33 ⟨Nat.le_of_ble_eq_true rfl, Nat.le_of_ble_eq_true rfl⟩) (fun H locs hW => ?_)
        refine lv_goto (tgt := 40) hx hb dX10_waiting_36 (by decide) ?_
        exact t_X10_waiting_40 B hf hW (lv_sub hl [0, 2] rfl) hk1 hr1
set_option maxRecDepth 20000 in
set_option maxHeartbeats 4000000 in
theorem t_X10_waiting_4 (B : z_B p s m args meth c D cA bs RX10 cX10_waiting 3 (some .int)) {r : Int32} {σ : zSt} {l0 : Nat}  : ∀ (n : Nat) {l1 : Int32} {l2 : Int32}, zloop (fun (t : Int32 × Int32) => b_X10_waiting_4 σ l0 t.1 t.2) n (l1, l2) = some r → ∀ {H : Heap} {locs : List Loc} {ls : Array Slot}, z_Ok D cA bs s σ H locs → lv_has ls 3 [(0, .ref l0), (1, .int l1), (2, .int l2)] → W p l e (zrm 3 0 0 66) s m args below meth c H locs 0 0 (MQ below (z_Qi D cA bs r σ) args s 0 0 (fun q => bs ≤ q)) (F0 m 4 ls []) := by
  intro n
  induction n with
  | zero => intro l1 l2 hf; cases hf
  | succ n ih =>
    intro l1 l2 hf H locs ls hW hl
    obtain ⟨o1, hb1, hf⟩ := z_lp hf
    refine tb_X10_waiting_4 B hb1 hW hl  (fun l1 l2 he H locs ls hW hl => ?_) (fun x he => ?_)
    · rcases hf with ⟨t, ht, hf⟩ | hf
      · rw [he] at ht
        cases ht
        exact ih hf hW hl
      · rw [he] at hf
        cases hf
    · rcases hf with ⟨t, ht, hf⟩ | hf
      · rw [he] at ht
        cases ht
      · rw [he] at hf
        exact Sum.inr.inj hf
set_option maxRecDepth 100000 in
def f_X10_waiting (σ : zSt) (l0 : Nat) : Option (Int32) :=
(f_X10_waiting_4 σ l0 (0 : Int32) (0 : Int32))
set_option maxRecDepth 20000 in
set_option maxHeartbeats 4000000 in
theorem K_X10_waiting {σ : zSt} {l0 : Nat} {r : Int32} (hf : f_X10_waiting σ l0 = some r) : z_M l D cA bs yX10_waiting cX10_waiting 3 (some .int) 3 66 0 0 [.ref l0] σ (z_Qi D cA bs r σ) := by
  refine z_met (own := RX10) (lv := [(0, .ref l0)]) (by decide) rfl (Nat.le_of_ble_eq_true rfl) rfl (fun p e s m below meth c ls B hnm hW hl => ?_)
  have hx := B.1
  have hb := B.2.1
  have hown := B.2.2.2.1
  have hts := B.2.2.2.2.1
  unfold f_X10_waiting at hf
  refine lv_iconst (v := (0 : Int32)) hx hb dX10_waiting_0 (by decide) ?_
  refine lv_istore_n (lv' := [(1, .int (0 : Int32)), (0, .ref l0)]) hx hb dX10_waiting_1 rfl hl (by decide) rfl (fun ls hl => ?_)
  refine lv_iconst (v := (0 : Int32)) hx hb dX10_waiting_2 (by decide) ?_
  refine lv_istore_n (lv' := [(2, .int (0 : Int32)), (1, .int (0 : Int32)), (0, .ref l0)]) hx hb dX10_waiting_3 rfl hl (by decide) rfl (fun ls hl => ?_)
  unfold f_X10_waiting_4 at hf
  exact t_X10_waiting_4 B  zN hf hW (lv_sub hl [2, 1, 0] rfl)
set_option maxRecDepth 100000 in
def f_X10_leastTarget_80 (σ : zSt) (l0 : Nat) (l1 : Int32) (l2 : Int32) : Option ((zSt × Int32) ⊕ (Int32 × zSt)) :=
(if z_ob σ l0 9 then (zb (f_X10_waiting σ l0) (fun r3 => (zb (f_X10_takesBack σ l0) (fun σ5 => (if r3 = 0 then
(zex (some (l2, σ5)))
else
(some (.inl (σ5, (l2 + (20 : Int32)))))))))) else none)
set_option maxRecDepth 20000 in
set_option maxHeartbeats 4000000 in
theorem t_X10_leastTarget_80 (B : z_B p s m args meth c D cA bs RX10 cX10_leastTarget 4 (some .int)) {r : Int32} {σ' : zSt} {o1 : (zSt × Int32) ⊕ (Int32 × zSt)} {σ : zSt} {l0 : Nat} {l1 : Int32} {l2 : Int32} (hf : f_X10_leastTarget_80 σ l0 l1 l2 = some o1) {H : Heap} {locs : List Loc} {ls : Array Slot} (hW : z_Ok D cA bs s σ H locs) (hl : lv_has ls 4 [(0, .ref l0), (1, .int l1), (2, .int l2)]) (hk1 : ∀ (σ : zSt) (l2 : Int32), o1 = .inl (σ, l2) → ∀ {H : Heap} {locs : List Loc} {ls : Array Slot}, z_Ok D cA bs s σ H locs → lv_has ls 4 [(0, .ref l0), (1, .int l1), (2, .int l2)] → W p l e (zrm 6 0 0 141) s m args below meth c H locs 0 0 (MQ below (z_Qi D cA bs r σ') args s 0 0 (fun q => bs ≤ q)) (F0 m 42 ls [])) (hr1 : ∀ x, o1 = .inr x → x = (r, σ')) : W p l e (zrm 6 0 0 141) s m args below meth c H locs 0 0 (MQ below (z_Qi D cA bs r σ') args s 0 0 (fun q => bs ≤ q)) (F0 m 80 ls []) := by
  have hx := B.1
  have hb := B.2.1
  have hown := B.2.2.2.1
  have hts := B.2.2.2.2.1
  unfold f_X10_leastTarget_80 at hf
  refine lv_aload_n hx hb dX10_leastTarget_80 rfl (lv_at hl 0 rfl) ?_
  obtain ⟨hg1, hf⟩ := z_g hf
  obtain ⟨r3, hq2, hf⟩ := z_b hf
  refine z_ci hW (z_runV (As := []) (rest := []) B hW zv_X10_154 (K_X10_waiting hq2) hg1 rfl rfl rfl (Nat.le_of_ble_eq_true rfl) hl.1 ⟨Nat.le_of_ble_eq_true rfl, Nat.le_of_ble_eq_true rfl⟩ dX10_leastTarget_81 ⟨Nat.le_of_ble_eq_true rfl, Nat.le_of_ble_eq_true rfl⟩) (fun H locs hW => ?_)
  refine lv_istore_n (lv' := [(3, .int r3), (0, .ref l0), (1, .int l1), (2, .int l2)]) hx hb dX10_leastTarget_84 rfl hl (by decide) rfl (fun ls hl => ?_)
  refine lv_aload_n hx hb dX10_leastTarget_85 rfl (lv_at hl 1 rfl) ?_
  obtain ⟨σ5, hq4, hf⟩ := z_b hf
  refine z_cv hW (z_runV (As := []) (rest := []) B hW zv_X10_146 (K_X10_takesBack hq4) hg1 rfl rfl rfl (Nat.le_of_ble_eq_true rfl) hl.1 ⟨Nat.le_of_ble_eq_true rfl, Nat.le_of_ble_eq_true rfl⟩ dX10_leastTarget_86 ⟨Nat.le_of_ble_eq_true rfl, Nat.le_of_ble_eq_true rfl⟩) (fun H locs hW => ?_)
  refine lv_iload_n hx hb dX10_leastTarget_89 rfl (lv_at hl 0 rfl) ?_
  refine lv_if_ne (tgt := 95) hx hb dX10_leastTarget_90 (by decide) (fun hc90 => ?_) (fun hc90 => ?_)
  · replace hf := z_in hc90 hf
    refine lv_iinc (v := (l2 + (20 : Int32))) (lv' := [(2, .int (l2 + (20 : Int32))), (3, .int r3), (0, .ref l0), (1, .int l1)]) hx hb dX10_leastTarget_95 hl (k := 3) rfl rfl (by decide) rfl (fun ls hl => ?_)
    refine lv_goto (tgt := 42) hx hb dX10_leastTarget_98 (by decide) ?_
    exact hk1 _ _ (Option.some.inj hf).symm hW (lv_sub hl [2, 3, 0] rfl)
  · replace hf := z_ip hc90 hf
    obtain ⟨w1, hf, ho6⟩ := z_x hf
    obtain rfl := hr1 _ ho6
    refine lv_iload_n hx hb dX10_leastTarget_93 rfl (lv_at hl 3 rfl) ?_
    obtain ⟨rfl, rfl⟩ := z_e2 hf
    exact z_ri B hW dX10_leastTarget_94 (Nat.le_of_ble_eq_true rfl) (Nat.le_of_ble_eq_true rfl)
set_option maxRecDepth 100000 in
def b_X10_leastTarget_58 (l0 : Nat) (l1 : Int32) (l2 : Int32) (σ : zSt) (l3 : Int32) : Option ((zSt × Int32) ⊕ ((zSt × Int32) ⊕ (Int32 × zSt))) :=
(if l1 ≤ l3 then
(zex (f_X10_leastTarget_80 σ l0 l1 l2))
else
(if z_ob σ l0 9 then (zb (f_X10_waiting σ l0) (fun r4 => (if r4 ≤ 0 then
(zex (f_X10_leastTarget_80 σ l0 l1 l2))
else
(zb (f_X10_visits σ l0) (fun σ7 => (some (.inl (σ7, (l3 + (1 : Int32)))))))))) else none))
set_option maxRecDepth 100000 in
def f_X10_leastTarget_58 (l0 : Nat) (l1 : Int32) (l2 : Int32) (σ : zSt) (l3 : Int32) : Option ((zSt × Int32) ⊕ (Int32 × zSt)) := zloop (fun (t : zSt × Int32) => b_X10_leastTarget_58 l0 l1 l2 t.1 t.2) zN (σ, l3)
set_option maxRecDepth 20000 in
set_option maxHeartbeats 4000000 in
theorem tb_X10_leastTarget_58 (B : z_B p s m args meth c D cA bs RX10 cX10_leastTarget 4 (some .int)) {r : Int32} {σ' : zSt} {o1 : (zSt × Int32) ⊕ (Int32 × zSt)} {o2 : (zSt × Int32) ⊕ ((zSt × Int32) ⊕ (Int32 × zSt))} {l0 : Nat} {l1 : Int32} {l2 : Int32} {σ : zSt} {l3 : Int32} (hf : b_X10_leastTarget_58 l0 l1 l2 σ l3 = some o2) {H : Heap} {locs : List Loc} {ls : Array Slot} (hW : z_Ok D cA bs s σ H locs) (hl : lv_has ls 4 [(0, .ref l0), (1, .int l1), (2, .int l2), (3, .int l3)]) (hk1 : ∀ (σ : zSt) (l2 : Int32), o1 = .inl (σ, l2) → ∀ {H : Heap} {locs : List Loc} {ls : Array Slot}, z_Ok D cA bs s σ H locs → lv_has ls 4 [(0, .ref l0), (1, .int l1), (2, .int l2)] → W p l e (zrm 6 0 0 141) s m args below meth c H locs 0 0 (MQ below (z_Qi D cA bs r σ') args s 0 0 (fun q => bs ≤ q)) (F0 m 42 ls [])) (hr1 : ∀ x, o1 = .inr x → x = (r, σ')) (hk2 : ∀ (σ : zSt) (l3 : Int32), o2 = .inl (σ, l3) → ∀ {H : Heap} {locs : List Loc} {ls : Array Slot}, z_Ok D cA bs s σ H locs → lv_has ls 4 [(0, .ref l0), (1, .int l1), (2, .int l2), (3, .int l3)] → W p l e (zrm 6 0 0 141) s m args below meth c H locs 0 0 (MQ below (z_Qi D cA bs r σ') args s 0 0 (fun q => bs ≤ q)) (F0 m 58 ls [])) (hr2 : ∀ x, o2 = .inr x → x = o1) : W p l e (zrm 6 0 0 141) s m args below meth c H locs 0 0 (MQ below (z_Qi D cA bs r σ') args s 0 0 (fun q => bs ≤ q)) (F0 m 58 ls []) := by
  have hx := B.1
  have hb := B.2.1
  have hown := B.2.2.2.1
  have hts := B.2.2.2.2.1
  unfold b_X10_leastTarget_58 at hf
  refine lv_iload_n hx hb dX10_leastTarget_58 rfl (lv_at hl 3 rfl) ?_
  refine lv_iload_n hx hb dX10_leastTarget_59 rfl (lv_at hl 1 rfl) ?_
  refine lv_icmp_ge (tgt := 80) hx hb dX10_leastTarget_60 (by decide) (fun hc60 => ?_) (fun hc60 => ?_)
  · replace hf := z_ip hc60 hf
    obtain ⟨w2, hf, ho1⟩ := z_x hf
    obtain rfl := hr2 _ ho1
    exact t_X10_leastTarget_80 B hf hW (lv_sub hl [0, 1, 2] rfl) hk1 hr1
  · replace hf := z_in hc60 hf
    refine lv_aload_n hx hb dX10_leastTarget_63 rfl (lv_at hl 0 rfl) ?_
    obtain ⟨hg2, hf⟩ := z_g hf
    obtain ⟨r4, hq3, hf⟩ := z_b hf
    refine z_ci hW (z_runV (As := []) (rest := []) B hW zv_X10_154 (K_X10_waiting hq3) hg2 rfl rfl rfl (Nat.le_of_ble_eq_true rfl) hl.1 ⟨Nat.le_of_ble_eq_true rfl, Nat.le_of_ble_eq_true rfl⟩ dX10_leastTarget_64 ⟨Nat.le_of_ble_eq_true rfl, Nat.le_of_ble_eq_true rfl⟩) (fun H locs hW => ?_)
    refine lv_if_le (tgt := 80) hx hb dX10_leastTarget_67 (by decide) (fun hc67 => ?_) (fun hc67 => ?_)
    · replace hf := z_ip hc67 hf
      obtain ⟨w2, hf, ho5⟩ := z_x hf
      obtain rfl := hr2 _ ho5
      exact t_X10_leastTarget_80 B hf hW (lv_sub hl [0, 1, 2] rfl) hk1 hr1
    · replace hf := z_in hc67 hf
      refine lv_aload_n hx hb dX10_leastTarget_70 rfl (lv_at hl 0 rfl) ?_
      obtain ⟨σ7, hq6, hf⟩ := z_b hf
      refine z_cv hW (z_runV (As := []) (rest := []) B hW zv_X10_119 (K_X10_visits hq6) hg2 rfl rfl rfl (Nat.le_of_ble_eq_true rfl) hl.1 ⟨Nat.le_of_ble_eq_true rfl, Nat.le_of_ble_eq_true rfl⟩ dX10_leastTarget_71 ⟨Nat.le_of_ble_eq_true rfl, Nat.le_of_ble_eq_true rfl⟩) (fun H locs hW => ?_)
      refine lv_iinc (v := (l3 + (1 : Int32))) (lv' := [(3, .int (l3 + (1 : Int32))), (0, .ref l0), (1, .int l1), (2, .int l2)]) hx hb dX10_leastTarget_74 hl (k := 3) rfl rfl (by decide) rfl (fun ls hl => ?_)
      refine lv_goto (tgt := 58) hx hb dX10_leastTarget_77 (by decide) ?_
      exact hk2 _ _ (Option.some.inj hf).symm hW (lv_sub hl [1, 2, 3, 0] rfl)
set_option maxRecDepth 20000 in
set_option maxHeartbeats 4000000 in
theorem t_X10_leastTarget_58 (B : z_B p s m args meth c D cA bs RX10 cX10_leastTarget 4 (some .int)) {r : Int32} {σ' : zSt} {o1 : (zSt × Int32) ⊕ (Int32 × zSt)} {l0 : Nat} {l1 : Int32} {l2 : Int32} (hk1 : ∀ (σ : zSt) (l2 : Int32), o1 = .inl (σ, l2) → ∀ {H : Heap} {locs : List Loc} {ls : Array Slot}, z_Ok D cA bs s σ H locs → lv_has ls 4 [(0, .ref l0), (1, .int l1), (2, .int l2)] → W p l e (zrm 6 0 0 141) s m args below meth c H locs 0 0 (MQ below (z_Qi D cA bs r σ') args s 0 0 (fun q => bs ≤ q)) (F0 m 42 ls [])) (hr1 : ∀ x, o1 = .inr x → x = (r, σ')) : ∀ (n : Nat) {σ : zSt} {l3 : Int32}, zloop (fun (t : zSt × Int32) => b_X10_leastTarget_58 l0 l1 l2 t.1 t.2) n (σ, l3) = some o1 → ∀ {H : Heap} {locs : List Loc} {ls : Array Slot}, z_Ok D cA bs s σ H locs → lv_has ls 4 [(0, .ref l0), (1, .int l1), (2, .int l2), (3, .int l3)] → W p l e (zrm 6 0 0 141) s m args below meth c H locs 0 0 (MQ below (z_Qi D cA bs r σ') args s 0 0 (fun q => bs ≤ q)) (F0 m 58 ls []) := by
  intro n
  induction n with
  | zero => intro σ l3 hf; cases hf
  | succ n ih =>
    intro σ l3 hf H locs ls hW hl
    obtain ⟨o2, hb1, hf⟩ := z_lp hf
    refine tb_X10_leastTarget_58 B hb1 hW hl hk1 hr1 (fun σ l3 he H locs ls hW hl => ?_) (fun x he => ?_)
    · rcases hf with ⟨t, ht, hf⟩ | hf
      · rw [he] at ht
        cases ht
        exact ih hf hW hl
      · rw [he] at hf
        cases hf
    · rcases hf with ⟨t, ht, hf⟩ | hf
      · rw [he] at ht
        cases ht
      · rw [he] at hf
        exact Sum.inr.inj hf
set_option maxRecDepth 100000 in
def b_X10_leastTarget_42 (l0 : Nat) (l1 : Int32) (σ : zSt) (l2 : Int32) : Option ((zSt × Int32) ⊕ (Int32 × zSt)) :=
(if (400 : Int32) < l2 then
(zex (some ((-1 : Int32), σ)))
else
(if z_ob σ l0 9 then (zc (z_R σ l0 0) none (fun q3 => (if z_ar σ q3 0 then (if z_ix (0 : Int32) (z_ln σ q3) then (zl (z_pI σ q3 (0 : Int32).toNatClampNeg l2) (fun σ7 => (f_X10_leastTarget_58 l0 l1 l2 σ7 (0 : Int32)))) else none) else none))) else none))
set_option maxRecDepth 100000 in
def f_X10_leastTarget_42 (l0 : Nat) (l1 : Int32) (σ : zSt) (l2 : Int32) : Option (Int32 × zSt) := zloop (fun (t : zSt × Int32) => b_X10_leastTarget_42 l0 l1 t.1 t.2) zN (σ, l2)
set_option maxRecDepth 20000 in
set_option maxHeartbeats 4000000 in
theorem tb_X10_leastTarget_42 (B : z_B p s m args meth c D cA bs RX10 cX10_leastTarget 4 (some .int)) {r : Int32} {σ' : zSt} {o1 : (zSt × Int32) ⊕ (Int32 × zSt)} {l0 : Nat} {l1 : Int32} {σ : zSt} {l2 : Int32} (hf : b_X10_leastTarget_42 l0 l1 σ l2 = some o1) {H : Heap} {locs : List Loc} {ls : Array Slot} (hW : z_Ok D cA bs s σ H locs) (hl : lv_has ls 4 [(0, .ref l0), (1, .int l1), (2, .int l2)]) (hk1 : ∀ (σ : zSt) (l2 : Int32), o1 = .inl (σ, l2) → ∀ {H : Heap} {locs : List Loc} {ls : Array Slot}, z_Ok D cA bs s σ H locs → lv_has ls 4 [(0, .ref l0), (1, .int l1), (2, .int l2)] → W p l e (zrm 6 0 0 141) s m args below meth c H locs 0 0 (MQ below (z_Qi D cA bs r σ') args s 0 0 (fun q => bs ≤ q)) (F0 m 42 ls [])) (hr1 : ∀ x, o1 = .inr x → x = (r, σ')) : W p l e (zrm 6 0 0 141) s m args below meth c H locs 0 0 (MQ below (z_Qi D cA bs r σ') args s 0 0 (fun q => bs ≤ q)) (F0 m 42 ls []) := by
  have hx := B.1
  have hb := B.2.1
  have hown := B.2.2.2.1
  have hts := B.2.2.2.2.1
  unfold b_X10_leastTarget_42 at hf
  refine lv_iload_n hx hb dX10_leastTarget_42 rfl (lv_at hl 2 rfl) ?_
  refine lv_sipush (v := (400 : Int32)) hx hb dX10_leastTarget_43 (by decide) ?_
  refine lv_icmp_gt (tgt := 101) hx hb dX10_leastTarget_46 (by decide) (fun hc46 => ?_) (fun hc46 => ?_)
  · replace hf := z_ip hc46 hf
    obtain ⟨w1, hf, ho1⟩ := z_x hf
    obtain rfl := hr1 _ ho1
    refine lv_iconst (v := (-1 : Int32)) hx hb dX10_leastTarget_101 (by decide) ?_
    obtain ⟨rfl, rfl⟩ := z_e2 hf
    exact z_ri B hW dX10_leastTarget_102 (Nat.le_of_ble_eq_true rfl) (Nat.le_of_ble_eq_true rfl)
  · replace hf := z_in hc46 hf
    refine lv_aload_n hx hb dX10_leastTarget_49 rfl (lv_at hl 0 rfl) ?_
    obtain ⟨hg2, hf⟩ := z_g hf
    obtain ⟨q3, hv4, hf⟩ := z_nn hf
    refine z_getN B hW (Or.inr zf_X10_7) rfl hg2 hv4 dX10_leastTarget_50 ?_
    refine lv_iconst (v := (0 : Int32)) hx hb dX10_leastTarget_53 (by decide) ?_
    refine lv_iload_n hx hb dX10_leastTarget_54 rfl (lv_at hl 2 rfl) ?_
    obtain ⟨hg5, hf⟩ := z_g hf
    obtain ⟨hg6, hf⟩ := z_g hf
    obtain ⟨σ7, hs8, hf⟩ := z_l hf
    refine z_ast B hW hg5 hg6 hs8 dX10_leastTarget_55 (fun H locs hW => ?_)
    refine lv_iconst (v := (0 : Int32)) hx hb dX10_leastTarget_56 (by decide) ?_
    refine lv_istore_n (lv' := [(3, .int (0 : Int32)), (0, .ref l0), (1, .int l1), (2, .int l2)]) hx hb dX10_leastTarget_57 rfl hl (by decide) rfl (fun ls hl => ?_)
    unfold f_X10_leastTarget_58 at hf
    exact t_X10_leastTarget_58 B hk1 hr1 zN hf hW (lv_sub hl [1, 2, 3, 0] rfl)
set_option maxRecDepth 20000 in
set_option maxHeartbeats 4000000 in
theorem t_X10_leastTarget_42 (B : z_B p s m args meth c D cA bs RX10 cX10_leastTarget 4 (some .int)) {r : Int32} {σ' : zSt} {l0 : Nat} {l1 : Int32}  : ∀ (n : Nat) {σ : zSt} {l2 : Int32}, zloop (fun (t : zSt × Int32) => b_X10_leastTarget_42 l0 l1 t.1 t.2) n (σ, l2) = some (r, σ') → ∀ {H : Heap} {locs : List Loc} {ls : Array Slot}, z_Ok D cA bs s σ H locs → lv_has ls 4 [(0, .ref l0), (1, .int l1), (2, .int l2)] → W p l e (zrm 6 0 0 141) s m args below meth c H locs 0 0 (MQ below (z_Qi D cA bs r σ') args s 0 0 (fun q => bs ≤ q)) (F0 m 42 ls []) := by
  intro n
  induction n with
  | zero => intro σ l2 hf; cases hf
  | succ n ih =>
    intro σ l2 hf H locs ls hW hl
    obtain ⟨o1, hb1, hf⟩ := z_lp hf
    refine tb_X10_leastTarget_42 B hb1 hW hl  (fun σ l2 he H locs ls hW hl => ?_) (fun x he => ?_)
    · rcases hf with ⟨t, ht, hf⟩ | hf
      · rw [he] at ht
        cases ht
        exact ih hf hW hl
      · rw [he] at hf
        cases hf
    · rcases hf with ⟨t, ht, hf⟩ | hf
      · rw [he] at ht
        cases ht
      · rw [he] at hf
        exact Sum.inr.inj hf
set_option maxRecDepth 100000 in
def f_X10_leastTarget_26 (σ : zSt) (l0 : Nat) (l1 : Int32) (s0 : Int32) (s1 : Int32) (s2 : Option Nat) : Option (Int32 × zSt) :=
(zc s2 none (fun a1 => (if z_ob σ a1 9 then (zb2 (f_X10_goes σ a1 s1 s0 (1 : Int32)) (fun r5 σ6 => (if r5 = 0 then
(some ((0 : Int32), σ6))
else
(if z_ob σ6 l0 9 then (zb (f_X10_lays σ6 l0) (fun σ9 => (f_X10_leastTarget_42 l0 l1 σ9 (20 : Int32)))) else none)))) else none)))
set_option maxRecDepth 20000 in
set_option maxHeartbeats 4000000 in
theorem t_X10_leastTarget_26 (B : z_B p s m args meth c D cA bs RX10 cX10_leastTarget 4 (some .int)) {r : Int32} {σ' : zSt} {σ : zSt} {l0 : Nat} {l1 : Int32} {s0 : Int32} {s1 : Int32} {s2 : Option Nat} (hf : f_X10_leastTarget_26 σ l0 l1 s0 s1 s2 = some (r, σ')) {H : Heap} {locs : List Loc} {ls : Array Slot} (hW : z_Ok D cA bs s σ H locs) (hl : lv_has ls 4 [(0, .ref l0), (1, .int l1)])  : W p l e (zrm 6 0 0 141) s m args below meth c H locs 0 0 (MQ below (z_Qi D cA bs r σ') args s 0 0 (fun q => bs ≤ q)) (F0 m 26 ls [.int s0, .int s1, va_rf s2]) := by
  have hx := B.1
  have hb := B.2.1
  have hown := B.2.2.2.1
  have hts := B.2.2.2.2.1
  unfold f_X10_leastTarget_26 at hf
  refine lv_iconst (v := (1 : Int32)) hx hb dX10_leastTarget_26 (by decide) ?_
  obtain ⟨a1, hn2, hf⟩ := z_nn hf
  subst hn2
  obtain ⟨hg3, hf⟩ := z_g hf
  obtain ⟨r5, σ6, hq4, hf⟩ := z_b2 hf
  refine z_ci hW (z_runV (As := [.int s1, .int s0, .int (1 : Int32)]) (rest := []) B hW zv_X10_53 (K_X10_goes hq4) hg3 rfl rfl rfl (Nat.le_of_ble_eq_true rfl) hl.1 ⟨Nat.le_of_ble_eq_true rfl, Nat.le_of_ble_eq_true rfl⟩ dX10_leastTarget_27 ⟨Nat.le_of_ble_eq_true rfl, Nat.le_of_ble_eq_true rfl⟩) (fun H locs hW => ?_)
  refine lv_if_ne (tgt := 35) hx hb dX10_leastTarget_30 (by decide) (fun hc30 => ?_) (fun hc30 => ?_)
  · replace hf := z_in hc30 hf
    refine lv_aload_n hx hb dX10_leastTarget_35 rfl (lv_at hl 0 rfl) ?_
    obtain ⟨hg7, hf⟩ := z_g hf
    obtain ⟨σ9, hq8, hf⟩ := z_b hf
    refine z_cv hW (z_runV (As := []) (rest := []) B hW zv_X10_143 (K_X10_lays hq8) hg7 rfl rfl rfl (Nat.le_of_ble_eq_true rfl) hl.1 ⟨Nat.le_of_ble_eq_true rfl, Nat.le_of_ble_eq_true rfl⟩ dX10_leastTarget_36 ⟨Nat.le_of_ble_eq_true rfl, Nat.le_of_ble_eq_true rfl⟩) (fun H locs hW => ?_)
    refine lv_bipush (v := (20 : Int32)) hx hb dX10_leastTarget_39 (by decide) ?_
    refine lv_istore_n (lv' := [(2, .int (20 : Int32)), (0, .ref l0), (1, .int l1)]) hx hb dX10_leastTarget_41 rfl hl (by decide) rfl (fun ls hl => ?_)
    unfold f_X10_leastTarget_42 at hf
    exact t_X10_leastTarget_42 B  zN hf hW (lv_sub hl [1, 2, 0] rfl)
  · replace hf := z_ip hc30 hf
    refine lv_iconst (v := (0 : Int32)) hx hb dX10_leastTarget_33 (by decide) ?_
    obtain ⟨rfl, rfl⟩ := z_e2 hf
    exact z_ri B hW dX10_leastTarget_34 (Nat.le_of_ble_eq_true rfl) (Nat.le_of_ble_eq_true rfl)
set_option maxRecDepth 100000 in
def f_X10_leastTarget (σ : zSt) (l0 : Nat) (l1 : Int32) : Option (Int32 × zSt) :=
(zb (f_X10_in σ l1.toInt64 (0 : Int64) (100 : Int64)) (fun r2 => (if z_ob σ l0 9 then (zc (z_R σ l0 0) none (fun q4 => (if z_ar σ q4 0 then (if z_ix (3 : Int32) (z_ln σ q4) then (if (900000 : Int32) < (z_I σ q4 (3 : Int32).toNatClampNeg) then
(f_X10_leastTarget_26 σ l0 l1 (0 : Int32) r2 (some l0))
else
(f_X10_leastTarget_26 σ l0 l1 (1 : Int32) r2 (some l0))) else none) else none))) else none)))
set_option maxRecDepth 20000 in
set_option maxHeartbeats 4000000 in
theorem K_X10_leastTarget {σ : zSt} {l0 : Nat} {l1 : Int32} {r : Int32} {σ' : zSt} (hf : f_X10_leastTarget σ l0 l1 = some (r, σ')) : z_M l D cA bs yX10_leastTarget cX10_leastTarget 4 (some .int) 6 141 0 0 [.ref l0, .int l1] σ (z_Qi D cA bs r σ') := by
  refine z_met (own := RX10) (lv := [(0, .ref l0), (1, .int l1)]) (by decide) rfl (Nat.le_of_ble_eq_true rfl) rfl (fun p e s m below meth c ls B hnm hW hl => ?_)
  have hx := B.1
  have hb := B.2.1
  have hown := B.2.2.2.1
  have hts := B.2.2.2.2.1
  unfold f_X10_leastTarget at hf
  refine lv_aload_n hx hb dX10_leastTarget_0 rfl (lv_at hl 0 rfl) ?_
  refine lv_iload_n hx hb dX10_leastTarget_1 rfl (lv_at hl 1 rfl) ?_
  refine lv_i2l (v := l1.toInt64) hx hb dX10_leastTarget_2 rfl ?_
  refine lv_lconst (v := (0 : Int64)) hx hb dX10_leastTarget_3 (by decide) ?_
  refine lv_ldc2 hx hb hown (hts _ zk_X10_152) dX10_leastTarget_4 ?_
  obtain ⟨r2, hq1, hf⟩ := z_b hf
  refine z_ci hW (z_runS (As := [.long l1.toInt64, .long (0 : Int64), .long (100 : Int64)]) (rest := [.ref l0]) B hW zv_X10_35 (K_X10_in hq1) rfl rfl (Nat.le_of_ble_eq_true rfl) hl.1 ⟨Nat.le_of_ble_eq_true rfl, Nat.le_of_ble_eq_true rfl⟩ dX10_leastTarget_7 ⟨Nat.le_of_ble_eq_true rfl, Nat.le_of_ble_eq_true rfl⟩) (fun H locs hW => ?_)
  refine lv_aload_n hx hb dX10_leastTarget_10 rfl (lv_at hl 0 rfl) ?_
  obtain ⟨hg3, hf⟩ := z_g hf
  obtain ⟨q4, hv5, hf⟩ := z_nn hf
  refine z_getN B hW (Or.inr zf_X10_7) rfl hg3 hv5 dX10_leastTarget_11 ?_
  refine lv_iconst (v := (3 : Int32)) hx hb dX10_leastTarget_14 (by decide) ?_
  obtain ⟨hg6, hf⟩ := z_g hf
  obtain ⟨hg7, hf⟩ := z_g hf
  refine z_ald B hW hg6 hg7 dX10_leastTarget_15 ?_
  refine lv_ldc hx hb hown (hts _ zk_X10_118) dX10_leastTarget_16 ?_
  refine lv_icmp_gt (tgt := 25) hx hb dX10_leastTarget_18 (by decide) (fun hc18 => ?_) (fun hc18 => ?_)
  · replace hf := z_ip hc18 hf
    refine lv_iconst (v := (0 : Int32)) hx hb dX10_leastTarget_25 (by decide) ?_
    exact t_X10_leastTarget_26 B hf hW hl 
  · replace hf := z_in hc18 hf
    refine lv_iconst (v := (1 : Int32)) hx hb dX10_leastTarget_21 (by decide) ?_
    refine lv_goto (tgt := 26) hx hb dX10_leastTarget_22 (by decide) ?_
    exact t_X10_leastTarget_26 B hf hW hl 
set_option maxRecDepth 100000 in
def f_X10_append_24 (σ : zSt) (l0 : Nat) (l1 : Int32) (s0 : Int32) (s1 : Int32) (s2 : Option Nat) : Option (Int32 × zSt) :=
(zc s2 none (fun a1 => (if z_ob σ a1 9 then (zb2 (f_X10_goes σ a1 s1 s0 (1 : Int32)) (fun r5 σ6 => (if r5 = 0 then
(some ((0 : Int32), σ6))
else
(if z_ob σ6 l0 9 then (zc (z_R σ6 l0 5) none (fun q8 => (if z_ar σ6 q8 0 then (if z_ix (z_I σ6 l0 6) (z_ln σ6 q8) then (zl (z_pI σ6 q8 (z_I σ6 l0 6).toNatClampNeg l1) (fun σ12 => (if z_ob σ12 l0 9 then (zl (z_pI σ12 l0 6 ((z_I σ12 l0 6) + (1 : Int32))) (fun σ15 => (if z_ob σ15 l0 9 then (some ((z_I σ15 l0 6), σ15)) else none))) else none))) else none) else none))) else none)))) else none)))
set_option maxRecDepth 20000 in
set_option maxHeartbeats 4000000 in
theorem t_X10_append_24 (B : z_B p s m args meth c D cA bs RX10 cX10_append 2 (some .int)) {r : Int32} {σ' : zSt} {σ : zSt} {l0 : Nat} {l1 : Int32} {s0 : Int32} {s1 : Int32} {s2 : Option Nat} (hf : f_X10_append_24 σ l0 l1 s0 s1 s2 = some (r, σ')) {H : Heap} {locs : List Loc} {ls : Array Slot} (hW : z_Ok D cA bs s σ H locs) (hl : lv_has ls 2 [(0, .ref l0), (1, .int l1)])  : W p l e (zrm 1 0 0 25) s m args below meth c H locs 0 0 (MQ below (z_Qi D cA bs r σ') args s 0 0 (fun q => bs ≤ q)) (F0 m 24 ls [.int s0, .int s1, va_rf s2]) := by
  have hx := B.1
  have hb := B.2.1
  have hown := B.2.2.2.1
  have hts := B.2.2.2.2.1
  unfold f_X10_append_24 at hf
  refine lv_iconst (v := (1 : Int32)) hx hb dX10_append_24 (by decide) ?_
  obtain ⟨a1, hn2, hf⟩ := z_nn hf
  subst hn2
  obtain ⟨hg3, hf⟩ := z_g hf
  obtain ⟨r5, σ6, hq4, hf⟩ := z_b2 hf
  refine z_ci hW (z_runV (As := [.int s1, .int s0, .int (1 : Int32)]) (rest := []) B hW zv_X10_53 (K_X10_goes hq4) hg3 rfl rfl rfl (Nat.le_of_ble_eq_true rfl) hl.1 ⟨Nat.le_of_ble_eq_true rfl, Nat.le_of_ble_eq_true rfl⟩ dX10_append_25 ⟨Nat.le_of_ble_eq_true rfl, Nat.le_of_ble_eq_true rfl⟩) (fun H locs hW => ?_)
  refine lv_if_ne (tgt := 33) hx hb dX10_append_28 (by decide) (fun hc28 => ?_) (fun hc28 => ?_)
  · replace hf := z_in hc28 hf
    refine lv_aload_n hx hb dX10_append_33 rfl (lv_at hl 0 rfl) ?_
    obtain ⟨hg7, hf⟩ := z_g hf
    obtain ⟨q8, hv9, hf⟩ := z_nn hf
    refine z_getN B hW (Or.inr zf_X10_19) rfl hg7 hv9 dX10_append_34 ?_
    refine lv_aload_n hx hb dX10_append_37 rfl (lv_at hl 0 rfl) ?_
    refine z_getI B hW (Or.inl zf_X10_159) rfl hg7 dX10_append_38 ?_
    refine lv_iload_n hx hb dX10_append_41 rfl (lv_at hl 1 rfl) ?_
    obtain ⟨hg10, hf⟩ := z_g hf
    obtain ⟨hg11, hf⟩ := z_g hf
    obtain ⟨σ12, hs13, hf⟩ := z_l hf
    refine z_ast B hW hg10 hg11 hs13 dX10_append_42 (fun H locs hW => ?_)
    refine lv_aload_n hx hb dX10_append_43 rfl (lv_at hl 0 rfl) ?_
    refine lv_dup hx hb dX10_append_44 rfl ?_
    obtain ⟨hg14, hf⟩ := z_g hf
    refine z_getI B hW (Or.inl zf_X10_159) rfl hg14 dX10_append_45 ?_
    refine lv_iconst (v := (1 : Int32)) hx hb dX10_append_48 (by decide) ?_
    refine lv_iadd hx hb dX10_append_49 ?_
    obtain ⟨σ15, hs16, hf⟩ := z_l hf
    refine z_putI B hW zf_X10_159 hg14 rfl hs16 dX10_append_50 (fun H locs hW => ?_)
    refine lv_aload_n hx hb dX10_append_53 rfl (lv_at hl 0 rfl) ?_
    obtain ⟨hg17, hf⟩ := z_g hf
    refine z_getI B hW (Or.inl zf_X10_159) rfl hg17 dX10_append_54 ?_
    obtain ⟨rfl, rfl⟩ := z_e2 hf
    exact z_ri B hW dX10_append_57 (Nat.le_of_ble_eq_true rfl) (Nat.le_of_ble_eq_true rfl)
  · replace hf := z_ip hc28 hf
    refine lv_iconst (v := (0 : Int32)) hx hb dX10_append_31 (by decide) ?_
    obtain ⟨rfl, rfl⟩ := z_e2 hf
    exact z_ri B hW dX10_append_32 (Nat.le_of_ble_eq_true rfl) (Nat.le_of_ble_eq_true rfl)
set_option maxRecDepth 100000 in
def f_X10_append (σ : zSt) (l0 : Nat) (l1 : Int32) : Option (Int32 × zSt) :=
(zb (f_X10_in σ l1.toInt64 (0 : Int64) (127 : Int64)) (fun r2 => (if z_ob σ l0 9 then (if (120 : Int32) ≤ (z_I σ l0 6) then
(f_X10_append_24 σ l0 l1 (0 : Int32) r2 (some l0))
else
(f_X10_append_24 σ l0 l1 (1 : Int32) r2 (some l0))) else none)))
set_option maxRecDepth 20000 in
set_option maxHeartbeats 4000000 in
theorem K_X10_append {σ : zSt} {l0 : Nat} {l1 : Int32} {r : Int32} {σ' : zSt} (hf : f_X10_append σ l0 l1 = some (r, σ')) : z_M l D cA bs yX10_append cX10_append 2 (some .int) 1 25 0 0 [.ref l0, .int l1] σ (z_Qi D cA bs r σ') := by
  refine z_met (own := RX10) (lv := [(0, .ref l0), (1, .int l1)]) (by decide) rfl (Nat.le_of_ble_eq_true rfl) rfl (fun p e s m below meth c ls B hnm hW hl => ?_)
  have hx := B.1
  have hb := B.2.1
  have hown := B.2.2.2.1
  have hts := B.2.2.2.2.1
  unfold f_X10_append at hf
  refine lv_aload_n hx hb dX10_append_0 rfl (lv_at hl 0 rfl) ?_
  refine lv_iload_n hx hb dX10_append_1 rfl (lv_at hl 1 rfl) ?_
  refine lv_i2l (v := l1.toInt64) hx hb dX10_append_2 rfl ?_
  refine lv_lconst (v := (0 : Int64)) hx hb dX10_append_3 (by decide) ?_
  refine lv_ldc2 hx hb hown (hts _ zk_X10_157) dX10_append_4 ?_
  obtain ⟨r2, hq1, hf⟩ := z_b hf
  refine z_ci hW (z_runS (As := [.long l1.toInt64, .long (0 : Int64), .long (127 : Int64)]) (rest := [.ref l0]) B hW zv_X10_35 (K_X10_in hq1) rfl rfl (Nat.le_of_ble_eq_true rfl) hl.1 ⟨Nat.le_of_ble_eq_true rfl, Nat.le_of_ble_eq_true rfl⟩ dX10_append_7 ⟨Nat.le_of_ble_eq_true rfl, Nat.le_of_ble_eq_true rfl⟩) (fun H locs hW => ?_)
  refine lv_aload_n hx hb dX10_append_10 rfl (lv_at hl 0 rfl) ?_
  obtain ⟨hg3, hf⟩ := z_g hf
  refine z_getI B hW (Or.inl zf_X10_159) rfl hg3 dX10_append_11 ?_
  refine lv_bipush (v := (120 : Int32)) hx hb dX10_append_14 (by decide) ?_
  refine lv_icmp_ge (tgt := 23) hx hb dX10_append_16 (by decide) (fun hc16 => ?_) (fun hc16 => ?_)
  · replace hf := z_ip hc16 hf
    refine lv_iconst (v := (0 : Int32)) hx hb dX10_append_23 (by decide) ?_
    exact t_X10_append_24 B hf hW hl 
  · replace hf := z_in hc16 hf
    refine lv_iconst (v := (1 : Int32)) hx hb dX10_append_19 (by decide) ?_
    refine lv_goto (tgt := 24) hx hb dX10_append_20 (by decide) ?_
    exact t_X10_append_24 B hf hW hl 
set_option maxRecDepth 100000 in
def f_X10_clearText (σ : zSt) (l0 : Nat) : Option (Int32 × zSt) :=
(if z_ob σ l0 9 then (zl (z_pI σ l0 4 (0 : Int32)) (fun σ2 => (if z_ob σ2 l0 9 then (zl (z_I σ2 l0 6) (fun x5 => (zl (z_pI σ2 l0 6 (0 : Int32)) (fun σ7 => (some (x5, σ7)))))) else none))) else none)
set_option maxRecDepth 20000 in
set_option maxHeartbeats 4000000 in
theorem K_X10_clearText {σ : zSt} {l0 : Nat} {r : Int32} {σ' : zSt} (hf : f_X10_clearText σ l0 = some (r, σ')) : z_M l D cA bs yX10_clearText cX10_clearText 2 (some .int) 0 0 0 0 [.ref l0] σ (z_Qi D cA bs r σ') := by
  refine z_met (own := RX10) (lv := [(0, .ref l0)]) (by decide) rfl (Nat.le_of_ble_eq_true rfl) rfl (fun p e s m below meth c ls B hnm hW hl => ?_)
  have hx := B.1
  have hb := B.2.1
  have hown := B.2.2.2.1
  have hts := B.2.2.2.2.1
  unfold f_X10_clearText at hf
  refine lv_aload_n hx hb dX10_clearText_0 rfl (lv_at hl 0 rfl) ?_
  refine lv_iconst (v := (0 : Int32)) hx hb dX10_clearText_1 (by decide) ?_
  obtain ⟨hg1, hf⟩ := z_g hf
  obtain ⟨σ2, hs3, hf⟩ := z_l hf
  refine z_putI B hW zf_X10_22 hg1 rfl hs3 dX10_clearText_2 (fun H locs hW => ?_)
  refine lv_aload_n hx hb dX10_clearText_5 rfl (lv_at hl 0 rfl) ?_
  obtain ⟨hg4, hf⟩ := z_g hf
  refine z_getI B hW (Or.inl zf_X10_159) rfl hg4 dX10_clearText_6 ?_
  obtain ⟨x5, hx6, hf⟩ := z_l hf
  rw [hx6]
  refine lv_istore_n (lv' := [(1, .int x5), (0, .ref l0)]) hx hb dX10_clearText_9 rfl hl (by decide) rfl (fun ls hl => ?_)
  refine lv_aload_n hx hb dX10_clearText_10 rfl (lv_at hl 1 rfl) ?_
  refine lv_iconst (v := (0 : Int32)) hx hb dX10_clearText_11 (by decide) ?_
  obtain ⟨σ7, hs8, hf⟩ := z_l hf
  refine z_putI B hW zf_X10_159 hg4 rfl hs8 dX10_clearText_12 (fun H locs hW => ?_)
  refine lv_iload_n hx hb dX10_clearText_15 rfl (lv_at hl 0 rfl) ?_
  obtain ⟨rfl, rfl⟩ := z_e2 hf
  exact z_ri B hW dX10_clearText_16 (Nat.le_of_ble_eq_true rfl) (Nat.le_of_ble_eq_true rfl)
set_option maxRecDepth 100000 in
def f_X10_isFigure_38 (σ : zSt) (s0 : Int32) : Option (Int32) :=
(if z_bl s0 then (some s0) else none)
set_option maxRecDepth 20000 in
set_option maxHeartbeats 4000000 in
theorem t_X10_isFigure_38 (B : z_B p s m args meth c D cA bs RX10 cX10_isFigure 1 (some .boolean)) {r : Int32} {σ : zSt} {s0 : Int32} (hf : f_X10_isFigure_38 σ s0 = some r) {H : Heap} {locs : List Loc} {ls : Array Slot} (hW : z_Ok D cA bs s σ H locs) (hl : lv_has ls 1 [])  : W p l e (zrm 1 0 0 25) s m args below meth c H locs 0 0 (MQ below (z_Qi D cA bs r σ) args s 0 0 (fun q => bs ≤ q)) (F0 m 38 ls [.int s0]) := by
  have hx := B.1
  have hb := B.2.1
  have hown := B.2.2.2.1
  have hts := B.2.2.2.2.1
  unfold f_X10_isFigure_38 at hf
  obtain ⟨hg1, hf⟩ := z_g hf
  obtain rfl := z_e1 hf
  exact z_rz hg1 B hW dX10_isFigure_38 (Nat.le_of_ble_eq_true rfl) (Nat.le_of_ble_eq_true rfl)
set_option maxRecDepth 100000 in
def f_X10_isFigure_37 (σ : zSt) : Option (Int32) :=
(f_X10_isFigure_38 σ (0 : Int32))
set_option maxRecDepth 20000 in
set_option maxHeartbeats 4000000 in
theorem t_X10_isFigure_37 (B : z_B p s m args meth c D cA bs RX10 cX10_isFigure 1 (some .boolean)) {r : Int32} {σ : zSt} (hf : f_X10_isFigure_37 σ = some r) {H : Heap} {locs : List Loc} {ls : Array Slot} (hW : z_Ok D cA bs s σ H locs) (hl : lv_has ls 1 [])  : W p l e (zrm 1 0 0 25) s m args below meth c H locs 0 0 (MQ below (z_Qi D cA bs r σ) args s 0 0 (fun q => bs ≤ q)) (F0 m 37 ls []) := by
  have hx := B.1
  have hb := B.2.1
  have hown := B.2.2.2.1
  have hts := B.2.2.2.2.1
  unfold f_X10_isFigure_37 at hf
  refine lv_iconst (v := (0 : Int32)) hx hb dX10_isFigure_37 (by decide) ?_
  exact t_X10_isFigure_38 B hf hW hl 
set_option maxRecDepth 100000 in
def f_X10_isFigure (σ : zSt) (l0 : Nat) : Option (Int32) :=
(if z_ob σ l0 9 then (if (z_I σ l0 6) ≤ (z_I σ l0 7) then
(f_X10_isFigure_37 σ)
else
(zc (z_R σ l0 5) none (fun q2 => (if z_ar σ q2 0 then (if z_ix (z_I σ l0 7) (z_ln σ q2) then (zb (f_X10_in σ ((z_I σ q2 (z_I σ l0 7).toNatClampNeg).toInt64) (48 : Int64) (57 : Int64)) (fun r7 => (if r7 = 0 then
(f_X10_isFigure_37 σ)
else
(f_X10_isFigure_38 σ (1 : Int32))))) else none) else none)))) else none)
set_option maxRecDepth 20000 in
set_option maxHeartbeats 4000000 in
theorem K_X10_isFigure {σ : zSt} {l0 : Nat} {r : Int32} (hf : f_X10_isFigure σ l0 = some r) : z_M l D cA bs yX10_isFigure cX10_isFigure 1 (some .boolean) 1 25 0 0 [.ref l0] σ (z_Qi D cA bs r σ) := by
  refine z_met (own := RX10) (lv := [(0, .ref l0)]) (by decide) rfl (Nat.le_of_ble_eq_true rfl) rfl (fun p e s m below meth c ls B hnm hW hl => ?_)
  have hx := B.1
  have hb := B.2.1
  have hown := B.2.2.2.1
  have hts := B.2.2.2.2.1
  unfold f_X10_isFigure at hf
  refine lv_aload_n hx hb dX10_isFigure_0 rfl (lv_at hl 0 rfl) ?_
  obtain ⟨hg1, hf⟩ := z_g hf
  refine z_getI B hW (Or.inl zf_X10_162) rfl hg1 dX10_isFigure_1 ?_
  refine lv_aload_n hx hb dX10_isFigure_4 rfl (lv_at hl 0 rfl) ?_
  refine z_getI B hW (Or.inl zf_X10_159) rfl hg1 dX10_isFigure_5 ?_
  refine lv_icmp_ge (tgt := 37) hx hb dX10_isFigure_8 (by decide) (fun hc8 => ?_) (fun hc8 => ?_)
  · replace hf := z_ip hc8 hf
    exact t_X10_isFigure_37 B hf hW (lv_sub hl [] rfl) 
  · replace hf := z_in hc8 hf
    refine lv_aload_n hx hb dX10_isFigure_11 rfl (lv_at hl 0 rfl) ?_
    obtain ⟨q2, hv3, hf⟩ := z_nn hf
    refine z_getN B hW (Or.inr zf_X10_19) rfl hg1 hv3 dX10_isFigure_12 ?_
    refine lv_aload_n hx hb dX10_isFigure_15 rfl (lv_at hl 0 rfl) ?_
    refine z_getI B hW (Or.inl zf_X10_162) rfl hg1 dX10_isFigure_16 ?_
    obtain ⟨hg4, hf⟩ := z_g hf
    obtain ⟨hg5, hf⟩ := z_g hf
    refine z_ald B hW hg4 hg5 dX10_isFigure_19 ?_
    refine lv_i2l (v := (z_I σ q2 (z_I σ l0 7).toNatClampNeg).toInt64) hx hb dX10_isFigure_20 rfl ?_
    refine lv_ldc2 hx hb hown (hts _ zk_X10_165) dX10_isFigure_21 ?_
    refine lv_ldc2 hx hb hown (hts _ zk_X10_167) dX10_isFigure_24 ?_
    obtain ⟨r7, hq6, hf⟩ := z_b hf
    refine z_ci hW (z_runS (As := [.long (z_I σ q2 (z_I σ l0 7).toNatClampNeg).toInt64, .long (48 : Int64), .long (57 : Int64)]) (rest := []) B hW zv_X10_35 (K_X10_in hq6) rfl rfl (Nat.le_of_ble_eq_true rfl) hl.1 ⟨Nat.le_of_ble_eq_true rfl, Nat.le_of_ble_eq_true rfl⟩ dX10_isFigure_27 ⟨Nat.le_of_ble_eq_true rfl, Nat.le_of_ble_eq_true rfl⟩) (fun H locs hW => ?_)
    refine lv_if_eq (tgt := 37) hx hb dX10_isFigure_30 (by decide) (fun hc30 => ?_) (fun hc30 => ?_)
    · replace hf := z_ip hc30 hf
      exact t_X10_isFigure_37 B hf hW (lv_sub hl [] rfl) 
    · replace hf := z_in hc30 hf
      refine lv_iconst (v := (1 : Int32)) hx hb dX10_isFigure_33 (by decide) ?_
      refine lv_goto (tgt := 38) hx hb dX10_isFigure_34 (by decide) ?_
      exact t_X10_isFigure_38 B hf hW (lv_sub hl [] rfl) 
end GEN
