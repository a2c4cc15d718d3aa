section GEN
variable {p : Program} {l : Launch} {e : Env} {s : State} {m : MethodId} {args : Array Value} {below : List Frame} {meth : Method} {c : Code} {D : va_G} {cA : Nat → ClassId} {bs : Nat}
set_option maxRecDepth 100000 in
def b_X10_undo_35 (l0 : Nat) (σ : zSt) (l1 : Int32) : Option ((zSt × Int32) ⊕ (Int32 × zSt)) :=
(if (942 : Int32) ≤ l1 then
(zex (if z_ob σ l0 9 then (some ((z_I σ l0 3), σ)) else none))
else
(if z_ob σ l0 9 then (zc (z_R σ l0 0) none (fun q4 => (zc (z_R σ l0 1) none (fun q6 => (if z_ar σ q6 0 then (if z_ix (((942 : Int32) * (z_I σ l0 3)) + l1) (z_ln σ q6) then (if z_ar σ q4 0 then (if z_ix l1 (z_ln σ q4) then (zl (z_pI σ q4 l1.toNatClampNeg (z_I σ q6 (((942 : Int32) * (z_I σ l0 3)) + l1).toNatClampNeg)) (fun σ12 => (some (.inl (σ12, (l1 + (1 : Int32))))))) else none) else none) else none) else none))))) else none))
set_option maxRecDepth 100000 in
def f_X10_undo_35 (l0 : Nat) (σ : zSt) (l1 : Int32) : Option (Int32 × zSt) := zloop (fun (t : zSt × Int32) => b_X10_undo_35 l0 t.1 t.2) zN (σ, l1)
set_option maxRecDepth 20000 in
set_option maxHeartbeats 4000000 in
theorem tb_X10_undo_35 (B : z_B p s m args meth c D cA bs RX10 cX10_undo 2 (some .int)) {r : Int32} {σ' : zSt} {o1 : (zSt × Int32) ⊕ (Int32 × zSt)} {l0 : Nat} {σ : zSt} {l1 : Int32} (hf : b_X10_undo_35 l0 σ l1 = some o1) {H : Heap} {locs : List Loc} {ls : Array Slot} (hW : z_Ok D cA bs s σ H locs) (hl : lv_has ls 2 [(0, .ref l0), (1, .int l1)]) (hk1 : ∀ (σ : zSt) (l1 : Int32), o1 = .inl (σ, l1) → ∀ {H : Heap} {locs : List Loc} {ls : Array Slot}, z_Ok D cA bs s σ H locs → lv_has ls 2 [(0, .ref l0), (1, .int l1)] → W p l e (zrm 1 0 0 23) s m args below meth c H locs 0 0 (MQ below (z_Qi D cA bs r σ') args s 0 0 (fun q => bs ≤ q)) (F0 m 35 ls [])) (hr1 : ∀ x, o1 = .inr x → x = (r, σ')) : W p l e (zrm 1 0 0 23) s m args below meth c H locs 0 0 (MQ below (z_Qi D cA bs r σ') args s 0 0 (fun q => bs ≤ q)) (F0 m 35 ls []) := by
  have hx := B.1
  have hb := B.2.1
  have hown := B.2.2.2.1
  have hts := B.2.2.2.2.1
  unfold b_X10_undo_35 at hf
  refine lv_iload_n hx hb dX10_undo_35 rfl (lv_at hl 1 rfl) ?_
  refine lv_sipush (v := (942 : Int32)) hx hb dX10_undo_36 (by decide) ?_
  refine lv_icmp_ge (tgt := 69) hx hb dX10_undo_39 (by decide) (fun hc39 => ?_) (fun hc39 => ?_)
  · replace hf := z_ip hc39 hf
    obtain ⟨w1, hf, ho2⟩ := z_x hf
    obtain rfl := hr1 _ ho2
    refine lv_aload_n hx hb dX10_undo_69 rfl (lv_at hl 0 rfl) ?_
    obtain ⟨hg1, hf⟩ := z_g hf
    refine z_getI B hW (Or.inl zf_X10_26) rfl hg1 dX10_undo_70 ?_
    obtain ⟨rfl, rfl⟩ := z_e2 hf
    exact z_ri B hW dX10_undo_73 (Nat.le_of_ble_eq_true rfl) (Nat.le_of_ble_eq_true rfl)
  · replace hf := z_in hc39 hf
    refine lv_aload_n hx hb dX10_undo_42 rfl (lv_at hl 0 rfl) ?_
    obtain ⟨hg3, hf⟩ := z_g hf
    obtain ⟨q4, hv5, hf⟩ := z_nn hf
    refine z_getN B hW (Or.inr zf_X10_7) rfl hg3 hv5 dX10_undo_43 ?_
    refine lv_iload_n hx hb dX10_undo_46 rfl (lv_at hl 1 rfl) ?_
    refine lv_aload_n hx hb dX10_undo_47 rfl (lv_at hl 0 rfl) ?_
    obtain ⟨q6, hv7, hf⟩ := z_nn hf
    refine z_getN B hW (Or.inr zf_X10_13) rfl hg3 hv7 dX10_undo_48 ?_
    refine lv_sipush (v := (942 : Int32)) hx hb dX10_undo_51 (by decide) ?_
    refine lv_aload_n hx hb dX10_undo_54 rfl (lv_at hl 0 rfl) ?_
    refine z_getI B hW (Or.inl zf_X10_26) rfl hg3 dX10_undo_55 ?_
    refine lv_imul hx hb dX10_undo_58 ?_
    refine lv_iload_n hx hb dX10_undo_59 rfl (lv_at hl 1 rfl) ?_
    refine lv_iadd hx hb dX10_undo_60 ?_
    obtain ⟨hg8, hf⟩ := z_g hf
    obtain ⟨hg9, hf⟩ := z_g hf
    refine z_ald B hW hg8 hg9 dX10_undo_61 ?_
    obtain ⟨hg10, hf⟩ := z_g hf
    obtain ⟨hg11, hf⟩ := z_g hf
    obtain ⟨σ12, hs13, hf⟩ := z_l hf
    refine z_ast B hW hg10 hg11 hs13 dX10_undo_62 (fun H locs hW => ?_)
    refine lv_iinc (v := (l1 + (1 : Int32))) (lv' := [(1, .int (l1 + (1 : Int32))), (0, .ref l0)]) hx hb dX10_undo_63 hl (k := 1) rfl rfl (by decide) rfl (fun ls hl => ?_)
    refine lv_goto (tgt := 35) hx hb dX10_undo_66 (by decide) ?_
    exact hk1 _ _ (Option.some.inj hf).symm hW (lv_sub hl [1, 0] rfl)
set_option maxRecDepth 20000 in
set_option maxHeartbeats 4000000 in
theorem t_X10_undo_35 (B : z_B p s m args meth c D cA bs RX10 cX10_undo 2 (some .int)) {r : Int32} {σ' : zSt} {l0 : Nat}  : ∀ (n : Nat) {σ : zSt} {l1 : Int32}, zloop (fun (t : zSt × Int32) => b_X10_undo_35 l0 t.1 t.2) n (σ, l1) = some (r, σ') → ∀ {H : Heap} {locs : List Loc} {ls : Array Slot}, z_Ok D cA bs s σ H locs → lv_has ls 2 [(0, .ref l0), (1, .int l1)] → W p l e (zrm 1 0 0 23) s m args below meth c H locs 0 0 (MQ below (z_Qi D cA bs r σ') args s 0 0 (fun q => bs ≤ q)) (F0 m 35 ls []) := by
  intro n
  induction n with
  | zero => intro σ l1 hf; cases hf
  | succ n ih =>
    intro σ l1 hf H locs ls hW hl
    obtain ⟨o1, hb1, hf⟩ := z_lp hf
    refine tb_X10_undo_35 B hb1 hW hl  (fun σ l1 he H locs ls hW hl => ?_) (fun x he => ?_)
    · rcases hf with ⟨t, ht, hf⟩ | hf
      · rw [he] at ht
        cases ht
        exact ih hf hW hl
      · rw [he] at hf
        cases hf
    · rcases hf with ⟨t, ht, hf⟩ | hf
      · rw [he] at ht
        cases ht
      · rw [he] at hf
        exact Sum.inr.inj hf
set_option maxRecDepth 100000 in
def f_X10_undo_13 (σ : zSt) (l0 : Nat) (s0 : Int32) (s1 : Option Nat) : Option (Int32 × zSt) :=
(zc s1 none (fun a1 => (if z_ob σ a1 9 then (zb2 (f_X10_goes σ a1 s0 (1 : Int32) (1 : Int32)) (fun r5 σ6 => (if r5 = 0 then
(some ((0 : Int32), σ6))
else
(if z_ob σ6 l0 9 then (zl (z_pI σ6 l0 3 ((z_I σ6 l0 3) - (1 : Int32))) (fun σ8 => (f_X10_undo_35 l0 σ8 (0 : Int32)))) else none)))) else none)))
set_option maxRecDepth 20000 in
set_option maxHeartbeats 4000000 in
theorem t_X10_undo_13 (B : z_B p s m args meth c D cA bs RX10 cX10_undo 2 (some .int)) {r : Int32} {σ' : zSt} {σ : zSt} {l0 : Nat} {s0 : Int32} {s1 : Option Nat} (hf : f_X10_undo_13 σ l0 s0 s1 = some (r, σ')) {H : Heap} {locs : List Loc} {ls : Array Slot} (hW : z_Ok D cA bs s σ H locs) (hl : lv_has ls 2 [(0, .ref l0)])  : W p l e (zrm 1 0 0 23) s m args below meth c H locs 0 0 (MQ below (z_Qi D cA bs r σ') args s 0 0 (fun q => bs ≤ q)) (F0 m 13 ls [.int s0, va_rf s1]) := by
  have hx := B.1
  have hb := B.2.1
  have hown := B.2.2.2.1
  have hts := B.2.2.2.2.1
  unfold f_X10_undo_13 at hf
  refine lv_iconst (v := (1 : Int32)) hx hb dX10_undo_13 (by decide) ?_
  refine lv_iconst (v := (1 : Int32)) hx hb dX10_undo_14 (by decide) ?_
  obtain ⟨a1, hn2, hf⟩ := z_nn hf
  subst hn2
  obtain ⟨hg3, hf⟩ := z_g hf
  obtain ⟨r5, σ6, hq4, hf⟩ := z_b2 hf
  refine z_ci hW (z_runV (As := [.int s0, .int (1 : Int32), .int (1 : Int32)]) (rest := []) B hW zv_X10_53 (K_X10_goes hq4) hg3 rfl rfl rfl (Nat.le_of_ble_eq_true rfl) hl.1 ⟨Nat.le_of_ble_eq_true rfl, Nat.le_of_ble_eq_true rfl⟩ dX10_undo_15 ⟨Nat.le_of_ble_eq_true rfl, Nat.le_of_ble_eq_true rfl⟩) (fun H locs hW => ?_)
  refine lv_if_ne (tgt := 23) hx hb dX10_undo_18 (by decide) (fun hc18 => ?_) (fun hc18 => ?_)
  · replace hf := z_in hc18 hf
    refine lv_aload_n hx hb dX10_undo_23 rfl (lv_at hl 0 rfl) ?_
    refine lv_dup hx hb dX10_undo_24 rfl ?_
    obtain ⟨hg7, hf⟩ := z_g hf
    refine z_getI B hW (Or.inl zf_X10_26) rfl hg7 dX10_undo_25 ?_
    refine lv_iconst (v := (1 : Int32)) hx hb dX10_undo_28 (by decide) ?_
    refine lv_isub hx hb dX10_undo_29 ?_
    obtain ⟨σ8, hs9, hf⟩ := z_l hf
    refine z_putI B hW zf_X10_26 hg7 rfl hs9 dX10_undo_30 (fun H locs hW => ?_)
    refine lv_iconst (v := (0 : Int32)) hx hb dX10_undo_33 (by decide) ?_
    refine lv_istore_n (lv' := [(1, .int (0 : Int32)), (0, .ref l0)]) hx hb dX10_undo_34 rfl hl (by decide) rfl (fun ls hl => ?_)
    unfold f_X10_undo_35 at hf
    exact t_X10_undo_35 B  zN hf hW (lv_sub hl [1, 0] rfl)
  · replace hf := z_ip hc18 hf
    refine lv_iconst (v := (0 : Int32)) hx hb dX10_undo_21 (by decide) ?_
    obtain ⟨rfl, rfl⟩ := z_e2 hf
    exact z_ri B hW dX10_undo_22 (Nat.le_of_ble_eq_true rfl) (Nat.le_of_ble_eq_true rfl)
set_option maxRecDepth 100000 in
def f_X10_undo (σ : zSt) (l0 : Nat) : Option (Int32 × zSt) :=
(if z_ob σ l0 9 then (if (z_I σ l0 3) ≤ 0 then
(f_X10_undo_13 σ l0 (0 : Int32) (some l0))
else
(f_X10_undo_13 σ l0 (1 : Int32) (some l0))) else none)
set_option maxRecDepth 20000 in
set_option maxHeartbeats 4000000 in
theorem K_X10_undo {σ : zSt} {l0 : Nat} {r : Int32} {σ' : zSt} (hf : f_X10_undo σ l0 = some (r, σ')) : z_M l D cA bs yX10_undo cX10_undo 2 (some .int) 1 23 0 0 [.ref l0] σ (z_Qi D cA bs r σ') := by
  refine z_met (own := RX10) (lv := [(0, .ref l0)]) (by decide) rfl (Nat.le_of_ble_eq_true rfl) rfl (fun p e s m below meth c ls B hnm hW hl => ?_)
  have hx := B.1
  have hb := B.2.1
  have hown := B.2.2.2.1
  have hts := B.2.2.2.2.1
  unfold f_X10_undo at hf
  refine lv_aload_n hx hb dX10_undo_0 rfl (lv_at hl 0 rfl) ?_
  refine lv_aload_n hx hb dX10_undo_1 rfl (lv_at hl 0 rfl) ?_
  obtain ⟨hg1, hf⟩ := z_g hf
  refine z_getI B hW (Or.inl zf_X10_26) rfl hg1 dX10_undo_2 ?_
  refine lv_if_le (tgt := 12) hx hb dX10_undo_5 (by decide) (fun hc5 => ?_) (fun hc5 => ?_)
  · replace hf := z_ip hc5 hf
    refine lv_iconst (v := (0 : Int32)) hx hb dX10_undo_12 (by decide) ?_
    exact t_X10_undo_13 B hf hW hl 
  · replace hf := z_in hc5 hf
    refine lv_iconst (v := (1 : Int32)) hx hb dX10_undo_8 (by decide) ?_
    refine lv_goto (tgt := 13) hx hb dX10_undo_9 (by decide) ?_
    exact t_X10_undo_13 B hf hW hl 
set_option maxRecDepth 100000 in
def f_X10_sums (σ : zSt) (l0 : Int64) (l2 : Int64) : Option (Int64) :=
(some (((31 : Int64) * l0) + l2))
set_option maxRecDepth 20000 in
set_option maxHeartbeats 4000000 in
theorem K_X10_sums {σ : zSt} {l0 : Int64} {l2 : Int64} {r : Int64} (hf : f_X10_sums σ l0 l2 = some r) : z_M l D cA bs yX10_sums cX10_sums 4 (some .long) 0 0 0 0 [.long l0, .long l2] σ (z_Ql D cA bs r σ) := by
  refine z_met (own := RX10) (lv := [(0, .long l0), (2, .long l2)]) (by decide) rfl (Nat.le_of_ble_eq_true rfl) rfl (fun p e s m below meth c ls B hnm hW hl => ?_)
  have hx := B.1
  have hb := B.2.1
  have hown := B.2.2.2.1
  have hts := B.2.2.2.2.1
  unfold f_X10_sums at hf
  refine lv_ldc2 hx hb hown (hts _ zk_X10_33) dX10_sums_0 ?_
  refine lv_lload_n hx hb dX10_sums_3 rfl (lv_at hl 0 rfl) ?_
  refine lv_lmul hx hb dX10_sums_4 ?_
  refine lv_lload_n hx hb dX10_sums_5 rfl (lv_at hl 1 rfl) ?_
  refine lv_ladd hx hb dX10_sums_6 ?_
  obtain rfl := z_e1 hf
  exact z_rl B hW dX10_sums_7 (Nat.le_of_ble_eq_true rfl) (Nat.le_of_ble_eq_true rfl)
set_option maxRecDepth 100000 in
def b_X10_withStation_47 (σ : zSt) (l0 : Nat) (l3 : Int32) (l4 : Int64) (l6 : Int32) : Option ((Int64 × Int32) ⊕ (Int64)) :=
(if l6 = (-1 : Int32) then
(zex (some l4))
else
(zb (f_X10_sums σ l4 l6.toInt64) (fun r3 => (if z_ob σ l0 9 then (zb (f_X10_nextOf σ l0 l3 l6) (fun r6 => (some (.inl (r3, r6))))) else none))))
set_option maxRecDepth 100000 in
def f_X10_withStation_47 (σ : zSt) (l0 : Nat) (l3 : Int32) (l4 : Int64) (l6 : Int32) : Option (Int64) := zloop (fun (t : Int64 × Int32) => b_X10_withStation_47 σ l0 l3 t.1 t.2) zN (l4, l6)
set_option maxRecDepth 20000 in
set_option maxHeartbeats 4000000 in
theorem tb_X10_withStation_47 (B : z_B p s m args meth c D cA bs RX10 cX10_withStation 7 (some .long)) {r : Int64} {o1 : (Int64 × Int32) ⊕ (Int64)} {σ : zSt} {l0 : Nat} {l3 : Int32} {l4 : Int64} {l6 : Int32} (hf : b_X10_withStation_47 σ l0 l3 l4 l6 = some o1) {H : Heap} {locs : List Loc} {ls : Array Slot} (hW : z_Ok D cA bs s σ H locs) (hl : lv_has ls 7 [(0, .ref l0), (3, .int l3), (4, .long l4), (6, .int l6)]) (hk1 : ∀ (l4 : Int64) (l6 : Int32), o1 = .inl (l4, l6) → ∀ {H : Heap} {locs : List Loc} {ls : Array Slot}, z_Ok D cA bs s σ H locs → lv_has ls 7 [(0, .ref l0), (3, .int l3), (4, .long l4), (6, .int l6)] → W p l e (zrm 4 0 0 88) s m args below meth c H locs 0 0 (MQ below (z_Ql D cA bs r σ) args s 0 0 (fun q => bs ≤ q)) (F0 m 47 ls [])) (hr1 : ∀ x, o1 = .inr x → x = r) : W p l e (zrm 4 0 0 88) s m args below meth c H locs 0 0 (MQ below (z_Ql D cA bs r σ) args s 0 0 (fun q => bs ≤ q)) (F0 m 47 ls []) := by
  have hx := B.1
  have hb := B.2.1
  have hown := B.2.2.2.1
  have hts := B.2.2.2.2.1
  unfold b_X10_withStation_47 at hf
  refine lv_iload hx hb dX10_withStation_47 (lv_at hl 3 rfl) ?_
  refine lv_iconst (v := (-1 : Int32)) hx hb dX10_withStation_49 (by decide) ?_
  refine lv_icmp_eq (tgt := 75) hx hb dX10_withStation_50 (by decide) (fun hc50 => ?_) (fun hc50 => ?_)
  · replace hf := z_ip hc50 hf
    obtain ⟨w1, hf, ho1⟩ := z_x hf
    obtain rfl := hr1 _ ho1
    refine lv_lload hx hb dX10_withStation_75 (lv_at hl 2 rfl) ?_
    obtain rfl := z_e1 hf
    exact z_rl B hW dX10_withStation_77 (Nat.le_of_ble_eq_true rfl) (Nat.le_of_ble_eq_true rfl)
  · replace hf := z_in hc50 hf
    refine lv_lload hx hb dX10_withStation_53 (lv_at hl 2 rfl) ?_
    refine lv_iload hx hb dX10_withStation_55 (lv_at hl 3 rfl) ?_
    refine lv_i2l (v := l6.toInt64) hx hb dX10_withStation_57 rfl ?_
    obtain ⟨r3, hq2, hf⟩ := z_b hf
    refine z_cl hW (z_runS (As := [.long l4, .long l6.toInt64]) (rest := []) B hW zv_X10_187 (K_X10_sums hq2) rfl rfl (Nat.le_of_ble_eq_true rfl) hl.1 ⟨Nat.le_of_ble_eq_true rfl, Nat.le_of_ble_eq_true rfl⟩ dX10_withStation_58 ⟨Nat.le_of_ble_eq_true rfl, Nat.le_of_ble_eq_true rfl⟩) (fun H locs hW => ?_)
    refine lv_lstore (lv' := [(4, .long r3), (0, .ref l0), (3, .int l3), (6, .int l6)]) hx hb dX10_withStation_61 hl (by decide) rfl (fun ls hl => ?_)
    refine lv_aload_n hx hb dX10_withStation_63 rfl (lv_at hl 1 rfl) ?_
    refine lv_iload_n hx hb dX10_withStation_64 rfl (lv_at hl 2 rfl) ?_
    refine lv_iload hx hb dX10_withStation_65 (lv_at hl 3 rfl) ?_
    obtain ⟨hg4, hf⟩ := z_g hf
    obtain ⟨r6, hq5, hf⟩ := z_b hf
    refine z_ci hW (z_runV (As := [.int l3, .int l6]) (rest := []) B hW zv_X10_86 (K_X10_nextOf hq5) hg4 rfl rfl rfl (Nat.le_of_ble_eq_true rfl) hl.1 ⟨Nat.le_of_ble_eq_true rfl, Nat.le_of_ble_eq_true rfl⟩ dX10_withStation_67 ⟨Nat.le_of_ble_eq_true rfl, Nat.le_of_ble_eq_true rfl⟩) (fun H locs hW => ?_)
    refine lv_istore (lv' := [(6, .int r6), (4, .long r3), (0, .ref l0), (3, .int l3)]) hx hb dX10_withStation_70 hl (by decide) rfl (fun ls hl => ?_)
    refine lv_goto (tgt := 47) hx hb dX10_withStation_72 (by decide) ?_
    exact hk1 _ _ (Option.some.inj hf).symm hW (lv_sub hl [2, 3, 1, 0] rfl)
set_option maxRecDepth 20000 in
set_option maxHeartbeats 4000000 in
theorem t_X10_withStation_47 (B : z_B p s m args meth c D cA bs RX10 cX10_withStation 7 (some .long)) {r : Int64} {σ : zSt} {l0 : Nat} {l3 : Int32}  : ∀ (n : Nat) {l4 : Int64} {l6 : Int32}, zloop (fun (t : Int64 × Int32) => b_X10_withStation_47 σ l0 l3 t.1 t.2) n (l4, l6) = some r → ∀ {H : Heap} {locs : List Loc} {ls : Array Slot}, z_Ok D cA bs s σ H locs → lv_has ls 7 [(0, .ref l0), (3, .int l3), (4, .long l4), (6, .int l6)] → W p l e (zrm 4 0 0 88) s m args below meth c H locs 0 0 (MQ below (z_Ql D cA bs r σ) args s 0 0 (fun q => bs ≤ q)) (F0 m 47 ls []) := by
  intro n
  induction n with
  | zero => intro l4 l6 hf; cases hf
  | succ n ih =>
    intro l4 l6 hf H locs ls hW hl
    obtain ⟨o1, hb1, hf⟩ := z_lp hf
    refine tb_X10_withStation_47 B hb1 hW hl  (fun l4 l6 he H locs ls hW hl => ?_) (fun x he => ?_)
    · rcases hf with ⟨t, ht, hf⟩ | hf
      · rw [he] at ht
        cases ht
        exact ih hf hW hl
      · rw [he] at hf
        cases hf
    · rcases hf with ⟨t, ht, hf⟩ | hf
      · rw [he] at ht
        cases ht
      · rw [he] at hf
        exact Sum.inr.inj hf
set_option maxRecDepth 100000 in
def b_X10_withStation_11 (σ : zSt) (l0 : Nat) (l3 : Int32) (l4 : Int64) (l6 : Int32) : Option ((Int64 × Int32) ⊕ (Int64)) :=
(if (7 : Int32) ≤ l6 then
(zex (if z_ob σ l0 9 then (zb (f_X10_nextOf σ l0 l3 (-1 : Int32)) (fun r3 => (f_X10_withStation_47 σ l0 l3 l4 r3))) else none))
else
(if z_ob σ l0 9 then (zb (f_X10_stationOf σ l0 l3 l6) (fun r7 => (zb (f_X10_sums σ l4 r7.toInt64) (fun r9 => (some (.inl (r9, (l6 + (1 : Int32))))))))) else none))
set_option maxRecDepth 100000 in
def f_X10_withStation_11 (σ : zSt) (l0 : Nat) (l3 : Int32) (l4 : Int64) (l6 : Int32) : Option (Int64) := zloop (fun (t : Int64 × Int32) => b_X10_withStation_11 σ l0 l3 t.1 t.2) zN (l4, l6)
set_option maxRecDepth 20000 in
set_option maxHeartbeats 4000000 in
theorem tb_X10_withStation_11 (B : z_B p s m args meth c D cA bs RX10 cX10_withStation 7 (some .long)) {r : Int64} {o1 : (Int64 × Int32) ⊕ (Int64)} {σ : zSt} {l0 : Nat} {l3 : Int32} {l4 : Int64} {l6 : Int32} (hf : b_X10_withStation_11 σ l0 l3 l4 l6 = some o1) {H : Heap} {locs : List Loc} {ls : Array Slot} (hW : z_Ok D cA bs s σ H locs) (hl : lv_has ls 7 [(0, .ref l0), (3, .int l3), (4, .long l4), (6, .int l6)]) (hk1 : ∀ (l4 : Int64) (l6 : Int32), o1 = .inl (l4, l6) → ∀ {H : Heap} {locs : List Loc} {ls : Array Slot}, z_Ok D cA bs s σ H locs → lv_has ls 7 [(0, .ref l0), (3, .int l3), (4, .long l4), (6, .int l6)] → W p l e (zrm 4 0 0 88) s m args below meth c H locs 0 0 (MQ below (z_Ql D cA bs r σ) args s 0 0 (fun q => bs ≤ q)) (F0 m 11 ls [])) (hr1 : ∀ x, o1 = .inr x → x = r) : W p l e (zrm 4 0 0 88) s m args below meth c H locs 0 0 (MQ below (z_Ql D cA bs r σ) args s 0 0 (fun q => bs ≤ q)) (F0 m 11 ls []) := by
  have hx := B.1
  have hb := B.2.1
  have hown := B.2.2.2.1
  have hts := B.2.2.2.2.1
  unfold b_X10_withStation_11 at hf
  refine lv_iload hx hb dX10_withStation_11 (lv_at hl 3 rfl) ?_
  refine lv_bipush (v := (7 : Int32)) hx hb dX10_withStation_13 (by decide) ?_
  refine lv_icmp_ge (tgt := 39) hx hb dX10_withStation_15 (by decide) (fun hc15 => ?_) (fun hc15 => ?_)
  · replace hf := z_ip hc15 hf
    obtain ⟨w1, hf, ho4⟩ := z_x hf
    obtain rfl := hr1 _ ho4
    refine lv_aload_n hx hb dX10_withStation_39 rfl (lv_at hl 0 rfl) ?_
    refine lv_iload_n hx hb dX10_withStation_40 rfl (lv_at hl 1 rfl) ?_
    refine lv_iconst (v := (-1 : Int32)) hx hb dX10_withStation_41 (by decide) ?_
    obtain ⟨hg1, hf⟩ := z_g hf
    obtain ⟨r3, hq2, hf⟩ := z_b hf
    refine z_ci hW (z_runV (As := [.int l3, .int (-1 : Int32)]) (rest := []) B hW zv_X10_86 (K_X10_nextOf hq2) hg1 rfl rfl rfl (Nat.le_of_ble_eq_true rfl) hl.1 ⟨Nat.le_of_ble_eq_true rfl, Nat.le_of_ble_eq_true rfl⟩ dX10_withStation_42 ⟨Nat.le_of_ble_eq_true rfl, Nat.le_of_ble_eq_true rfl⟩) (fun H locs hW => ?_)
    refine lv_istore (lv' := [(6, .int r3), (0, .ref l0), (3, .int l3), (4, .long l4)]) hx hb dX10_withStation_45 hl (by decide) rfl (fun ls hl => ?_)
    unfold f_X10_withStation_47 at hf
    exact t_X10_withStation_47 B  zN hf hW (lv_sub hl [1, 2, 3, 0] rfl)
  · replace hf := z_in hc15 hf
    refine lv_lload hx hb dX10_withStation_18 (lv_at hl 2 rfl) ?_
    refine lv_aload_n hx hb dX10_withStation_20 rfl (lv_at hl 0 rfl) ?_
    refine lv_iload_n hx hb dX10_withStation_21 rfl (lv_at hl 1 rfl) ?_
    refine lv_iload hx hb dX10_withStation_22 (lv_at hl 3 rfl) ?_
    obtain ⟨hg5, hf⟩ := z_g hf
    obtain ⟨r7, hq6, hf⟩ := z_b hf
    refine z_ci hW (z_runV (As := [.int l3, .int l6]) (rest := [.long l4]) B hW zv_X10_136 (K_X10_stationOf hq6) hg5 rfl rfl rfl (Nat.le_of_ble_eq_true rfl) hl.1 ⟨Nat.le_of_ble_eq_true rfl, Nat.le_of_ble_eq_true rfl⟩ dX10_withStation_24 ⟨Nat.le_of_ble_eq_true rfl, Nat.le_of_ble_eq_true rfl⟩) (fun H locs hW => ?_)
    refine lv_i2l (v := r7.toInt64) hx hb dX10_withStation_27 rfl ?_
    obtain ⟨r9, hq8, hf⟩ := z_b hf
    refine z_cl hW (z_runS (As := [.long l4, .long r7.toInt64]) (rest := []) B hW zv_X10_187 (K_X10_sums hq8) rfl rfl (Nat.le_of_ble_eq_true rfl) hl.1 ⟨Nat.le_of_ble_eq_true rfl, Nat.le_of_ble_eq_true rfl⟩ dX10_withStation_28 ⟨Nat.le_of_ble_eq_true rfl, Nat.le_of_ble_eq_true rfl⟩) (fun H locs hW => ?_)
    refine lv_lstore (lv' := [(4, .long r9), (0, .ref l0), (3, .int l3), (6, .int l6)]) hx hb dX10_withStation_31 hl (by decide) rfl (fun ls hl => ?_)
    refine lv_iinc (v := (l6 + (1 : Int32))) (lv' := [(6, .int (l6 + (1 : Int32))), (4, .long r9), (0, .ref l0), (3, .int l3)]) hx hb dX10_withStation_33 hl (k := 3) rfl rfl (by decide) rfl (fun ls hl => ?_)
    refine lv_goto (tgt := 11) hx hb dX10_withStation_36 (by decide) ?_
    exact hk1 _ _ (Option.some.inj hf).symm hW (lv_sub hl [2, 3, 1, 0] rfl)
set_option maxRecDepth 20000 in
set_option maxHeartbeats 4000000 in
theorem t_X10_withStation_11 (B : z_B p s m args meth c D cA bs RX10 cX10_withStation 7 (some .long)) {r : Int64} {σ : zSt} {l0 : Nat} {l3 : Int32}  : ∀ (n : Nat) {l4 : Int64} {l6 : Int32}, zloop (fun (t : Int64 × Int32) => b_X10_withStation_11 σ l0 l3 t.1 t.2) n (l4, l6) = some r → ∀ {H : Heap} {locs : List Loc} {ls : Array Slot}, z_Ok D cA bs s σ H locs → lv_has ls 7 [(0, .ref l0), (3, .int l3), (4, .long l4), (6, .int l6)] → W p l e (zrm 4 0 0 88) s m args below meth c H locs 0 0 (MQ below (z_Ql D cA bs r σ) args s 0 0 (fun q => bs ≤ q)) (F0 m 11 ls []) := by
  intro n
  induction n with
  | zero => intro l4 l6 hf; cases hf
  | succ n ih =>
    intro l4 l6 hf H locs ls hW hl
    obtain ⟨o1, hb1, hf⟩ := z_lp hf
    refine tb_X10_withStation_11 B hb1 hW hl  (fun l4 l6 he H locs ls hW hl => ?_) (fun x he => ?_)
    · rcases hf with ⟨t, ht, hf⟩ | hf
      · rw [he] at ht
        cases ht
        exact ih hf hW hl
      · rw [he] at hf
        cases hf
    · rcases hf with ⟨t, ht, hf⟩ | hf
      · rw [he] at ht
        cases ht
      · rw [he] at hf
        exact Sum.inr.inj hf
set_option maxRecDepth 100000 in
def f_X10_withStation (σ : zSt) (l0 : Nat) (l1 : Int64) (l3 : Int32) : Option (Int64) :=
(zb (f_X10_sums σ l1 l3.toInt64) (fun r2 => (f_X10_withStation_11 σ l0 l3 r2 (0 : Int32))))
set_option maxRecDepth 20000 in
set_option maxHeartbeats 4000000 in
theorem K_X10_withStation {σ : zSt} {l0 : Nat} {l1 : Int64} {l3 : Int32} {r : Int64} (hf : f_X10_withStation σ l0 l1 l3 = some r) : z_M l D cA bs yX10_withStation cX10_withStation 7 (some .long) 4 88 0 0 [.ref l0, .long l1, .int l3] σ (z_Ql D cA bs r σ) := by
  refine z_met (own := RX10) (lv := [(0, .ref l0), (1, .long l1), (3, .int l3)]) (by decide) rfl (Nat.le_of_ble_eq_true rfl) rfl (fun p e s m below meth c ls B hnm hW hl => ?_)
  have hx := B.1
  have hb := B.2.1
  have hown := B.2.2.2.1
  have hts := B.2.2.2.2.1
  unfold f_X10_withStation at hf
  refine lv_lload_n hx hb dX10_withStation_0 rfl (lv_at hl 1 rfl) ?_
  refine lv_iload_n hx hb dX10_withStation_1 rfl (lv_at hl 2 rfl) ?_
  refine lv_i2l (v := l3.toInt64) hx hb dX10_withStation_2 rfl ?_
  obtain ⟨r2, hq1, hf⟩ := z_b hf
  refine z_cl hW (z_runS (As := [.long l1, .long l3.toInt64]) (rest := []) B hW zv_X10_187 (K_X10_sums hq1) rfl rfl (Nat.le_of_ble_eq_true rfl) hl.1 ⟨Nat.le_of_ble_eq_true rfl, Nat.le_of_ble_eq_true rfl⟩ dX10_withStation_3 ⟨Nat.le_of_ble_eq_true rfl, Nat.le_of_ble_eq_true rfl⟩) (fun H locs hW => ?_)
  refine lv_lstore (lv' := [(4, .long r2), (0, .ref l0), (1, .long l1), (3, .int l3)]) hx hb dX10_withStation_6 hl (by decide) rfl (fun ls hl => ?_)
  refine lv_iconst (v := (0 : Int32)) hx hb dX10_withStation_8 (by decide) ?_
  refine lv_istore (lv' := [(6, .int (0 : Int32)), (4, .long r2), (0, .ref l0), (1, .long l1), (3, .int l3)]) hx hb dX10_withStation_9 hl (by decide) rfl (fun ls hl => ?_)
  unfold f_X10_withStation_11 at hf
  exact t_X10_withStation_11 B  zN hf hW (lv_sub hl [2, 4, 1, 0] rfl)
set_option maxRecDepth 100000 in
def b_X10_digest_168 (σ : zSt) (l0 : Nat) (l1 : Int64) (l3 : Int32) : Option ((Int64 × Int32) ⊕ (Int64 × zSt)) :=
(if z_ob σ l0 9 then (zc (z_R σ l0 0) none (fun q2 => (if z_ar σ q2 0 then (if z_ix (7 : Int32) (z_ln σ q2) then (if ((4 : Int32) * (z_I σ q2 (7 : Int32).toNatClampNeg)) ≤ l3 then
(zex (zb (f_X10_sums σ l1 ((z_I σ l0 3).toInt64)) (fun r7 => (some (r7, σ)))))
else
(zc (z_R σ l0 0) none (fun q9 => (if z_ar σ q9 0 then (if z_ix ((782 : Int32) + l3) (z_ln σ q9) then (zb (f_X10_sums σ l1 ((z_I σ q9 ((782 : Int32) + l3).toNatClampNeg).toInt64)) (fun r14 => (some (.inl (r14, (l3 + (1 : Int32))))))) else none) else none)))) else none) else none))) else none)
set_option maxRecDepth 100000 in
def f_X10_digest_168 (σ : zSt) (l0 : Nat) (l1 : Int64) (l3 : Int32) : Option (Int64 × zSt) := zloop (fun (t : Int64 × Int32) => b_X10_digest_168 σ l0 t.1 t.2) zN (l1, l3)
set_option maxRecDepth 20000 in
set_option maxHeartbeats 4000000 in
theorem tb_X10_digest_168 (B : z_B p s m args meth c D cA bs RX10 cX10_digest 4 (some .long)) {r : Int64} {σ' : zSt} {o1 : (Int64 × Int32) ⊕ (Int64 × zSt)} {σ : zSt} {l0 : Nat} {l1 : Int64} {l3 : Int32} (hf : b_X10_digest_168 σ l0 l1 l3 = some o1) {H : Heap} {locs : List Loc} {ls : Array Slot} (hW : z_Ok D cA bs s σ H locs) (hl : lv_has ls 4 [(0, .ref l0), (1, .long l1), (3, .int l3)]) (hk1 : ∀ (l1 : Int64) (l3 : Int32), o1 = .inl (l1, l3) → ∀ {H : Heap} {locs : List Loc} {ls : Array Slot}, z_Ok D cA bs s σ H locs → lv_has ls 4 [(0, .ref l0), (1, .long l1), (3, .int l3)] → W p l e (zrm 5 0 0 114) s m args below meth c H locs 0 0 (MQ below (z_Ql D cA bs r σ') args s 0 0 (fun q => bs ≤ q)) (F0 m 168 ls [])) (hr1 : ∀ x, o1 = .inr x → x = (r, σ')) : W p l e (zrm 5 0 0 114) s m args below meth c H locs 0 0 (MQ below (z_Ql D cA bs r σ') args s 0 0 (fun q => bs ≤ q)) (F0 m 168 ls []) := by
  have hx := B.1
  have hb := B.2.1
  have hown := B.2.2.2.1
  have hts := B.2.2.2.2.1
  unfold b_X10_digest_168 at hf
  refine lv_iload_n hx hb dX10_digest_168 rfl (lv_at hl 2 rfl) ?_
  refine lv_iconst (v := (4 : Int32)) hx hb dX10_digest_169 (by decide) ?_
  refine lv_aload_n hx hb dX10_digest_170 rfl (lv_at hl 0 rfl) ?_
  obtain ⟨hg1, hf⟩ := z_g hf
  obtain ⟨q2, hv3, hf⟩ := z_nn hf
  refine z_getN B hW (Or.inr zf_X10_7) rfl hg1 hv3 dX10_digest_171 ?_
  refine lv_bipush (v := (7 : Int32)) hx hb dX10_digest_174 (by decide) ?_
  obtain ⟨hg4, hf⟩ := z_g hf
  obtain ⟨hg5, hf⟩ := z_g hf
  refine z_ald B hW hg4 hg5 dX10_digest_176 ?_
  refine lv_imul hx hb dX10_digest_177 ?_
  refine lv_icmp_ge (tgt := 203) hx hb dX10_digest_178 (by decide) (fun hc178 => ?_) (fun hc178 => ?_)
  · replace hf := z_ip hc178 hf
    obtain ⟨w1, hf, ho8⟩ := z_x hf
    obtain rfl := hr1 _ ho8
    refine lv_lload_n hx hb dX10_digest_203 rfl (lv_at hl 1 rfl) ?_
    refine lv_aload_n hx hb dX10_digest_204 rfl (lv_at hl 0 rfl) ?_
    refine z_getI B hW (Or.inl zf_X10_26) rfl hg1 dX10_digest_205 ?_
    refine lv_i2l (v := (z_I σ l0 3).toInt64) hx hb dX10_digest_208 rfl ?_
    obtain ⟨r7, hq6, hf⟩ := z_b hf
    refine z_cl hW (z_runS (As := [.long l1, .long (z_I σ l0 3).toInt64]) (rest := []) B hW zv_X10_187 (K_X10_sums hq6) rfl rfl (Nat.le_of_ble_eq_true rfl) hl.1 ⟨Nat.le_of_ble_eq_true rfl, Nat.le_of_ble_eq_true rfl⟩ dX10_digest_209 ⟨Nat.le_of_ble_eq_true rfl, Nat.le_of_ble_eq_true rfl⟩) (fun H locs hW => ?_)
    obtain ⟨rfl, rfl⟩ := z_e2 hf
    exact z_rl B hW dX10_digest_212 (Nat.le_of_ble_eq_true rfl) (Nat.le_of_ble_eq_true rfl)
  · replace hf := z_in hc178 hf
    refine lv_lload_n hx hb dX10_digest_181 rfl (lv_at hl 1 rfl) ?_
    refine lv_aload_n hx hb dX10_digest_182 rfl (lv_at hl 0 rfl) ?_
    obtain ⟨q9, hv10, hf⟩ := z_nn hf
    refine z_getN B hW (Or.inr zf_X10_7) rfl hg1 hv10 dX10_digest_183 ?_
    refine lv_sipush (v := (782 : Int32)) hx hb dX10_digest_186 (by decide) ?_
    refine lv_iload_n hx hb dX10_digest_189 rfl (lv_at hl 2 rfl) ?_
    refine lv_iadd hx hb dX10_digest_190 ?_
    obtain ⟨hg11, hf⟩ := z_g hf
    obtain ⟨hg12, hf⟩ := z_g hf
    refine z_ald B hW hg11 hg12 dX10_digest_191 ?_
    refine lv_i2l (v := (z_I σ q9 ((782 : Int32) + l3).toNatClampNeg).toInt64) hx hb dX10_digest_192 rfl ?_
    obtain ⟨r14, hq13, hf⟩ := z_b hf
    refine z_cl hW (z_runS (As := [.long l1, .long (z_I σ q9 ((782 : Int32) + l3).toNatClampNeg).toInt64]) (rest := []) B hW zv_X10_187 (K_X10_sums hq13) rfl rfl (Nat.le_of_ble_eq_true rfl) hl.1 ⟨Nat.le_of_ble_eq_true rfl, Nat.le_of_ble_eq_true rfl⟩ dX10_digest_193 ⟨Nat.le_of_ble_eq_true rfl, Nat.le_of_ble_eq_true rfl⟩) (fun H locs hW => ?_)
    refine lv_lstore_n (lv' := [(1, .long r14), (0, .ref l0), (3, .int l3)]) hx hb dX10_digest_196 rfl hl (by decide) rfl (fun ls hl => ?_)
    refine lv_iinc (v := (l3 + (1 : Int32))) (lv' := [(3, .int (l3 + (1 : Int32))), (1, .long r14), (0, .ref l0)]) hx hb dX10_digest_197 hl (k := 2) rfl rfl (by decide) rfl (fun ls hl => ?_)
    refine lv_goto (tgt := 168) hx hb dX10_digest_200 (by decide) ?_
    exact hk1 _ _ (Option.some.inj hf).symm hW (lv_sub hl [2, 1, 0] rfl)
set_option maxRecDepth 20000 in
set_option maxHeartbeats 4000000 in
theorem t_X10_digest_168 (B : z_B p s m args meth c D cA bs RX10 cX10_digest 4 (some .long)) {r : Int64} {σ' : zSt} {σ : zSt} {l0 : Nat}  : ∀ (n : Nat) {l1 : Int64} {l3 : Int32}, zloop (fun (t : Int64 × Int32) => b_X10_digest_168 σ l0 t.1 t.2) n (l1, l3) = some (r, σ') → ∀ {H : Heap} {locs : List Loc} {ls : Array Slot}, z_Ok D cA bs s σ H locs → lv_has ls 4 [(0, .ref l0), (1, .long l1), (3, .int l3)] → W p l e (zrm 5 0 0 114) s m args below meth c H locs 0 0 (MQ below (z_Ql D cA bs r σ') args s 0 0 (fun q => bs ≤ q)) (F0 m 168 ls []) := by
  intro n
  induction n with
  | zero => intro l1 l3 hf; cases hf
  | succ n ih =>
    intro l1 l3 hf H locs ls hW hl
    obtain ⟨o1, hb1, hf⟩ := z_lp hf
    refine tb_X10_digest_168 B hb1 hW hl  (fun l1 l3 he H locs ls hW hl => ?_) (fun x he => ?_)
    · rcases hf with ⟨t, ht, hf⟩ | hf
      · rw [he] at ht
        cases ht
        exact ih hf hW hl
      · rw [he] at hf
        cases hf
    · rcases hf with ⟨t, ht, hf⟩ | hf
      · rw [he] at ht
        cases ht
      · rw [he] at hf
        exact Sum.inr.inj hf
set_option maxRecDepth 100000 in
def b_X10_digest_115 (σ : zSt) (l0 : Nat) (l1 : Int64) (l3 : Int32) : Option ((Int64 × Int32) ⊕ (Int64 × zSt)) :=
(if (7 : Int32) ≤ l3 then
(zex (if z_ob σ l0 9 then (zc (z_R σ l0 0) none (fun q2 => (if z_ar σ q2 0 then (if z_ix (8 : Int32) (z_ln σ q2) then (zb (f_X10_sums σ l1 ((z_I σ q2 (8 : Int32).toNatClampNeg).toInt64)) (fun r7 => (zc (z_R σ l0 0) none (fun q8 => (if z_ar σ q8 0 then (if z_ix (7 : Int32) (z_ln σ q8) then (zb (f_X10_sums σ r7 ((z_I σ q8 (7 : Int32).toNatClampNeg).toInt64)) (fun r13 => (f_X10_digest_168 σ l0 r13 (0 : Int32)))) else none) else none))))) else none) else none))) else none))
else
(if z_ob σ l0 9 then (zc (z_R σ l0 0) none (fun q16 => (if z_ar σ q16 0 then (if z_ix ((9 : Int32) + l3) (z_ln σ q16) then (zb (f_X10_sums σ l1 ((z_I σ q16 ((9 : Int32) + l3).toNatClampNeg).toInt64)) (fun r21 => (some (.inl (r21, (l3 + (1 : Int32))))))) else none) else none))) else none))
set_option maxRecDepth 100000 in
def f_X10_digest_115 (σ : zSt) (l0 : Nat) (l1 : Int64) (l3 : Int32) : Option (Int64 × zSt) := zloop (fun (t : Int64 × Int32) => b_X10_digest_115 σ l0 t.1 t.2) zN (l1, l3)
set_option maxRecDepth 20000 in
set_option maxHeartbeats 4000000 in
theorem tb_X10_digest_115 (B : z_B p s m args meth c D cA bs RX10 cX10_digest 4 (some .long)) {r : Int64} {σ' : zSt} {o1 : (Int64 × Int32) ⊕ (Int64 × zSt)} {σ : zSt} {l0 : Nat} {l1 : Int64} {l3 : Int32} (hf : b_X10_digest_115 σ l0 l1 l3 = some o1) {H : Heap} {locs : List Loc} {ls : Array Slot} (hW : z_Ok D cA bs s σ H locs) (hl : lv_has ls 4 [(0, .ref l0), (1, .long l1), (3, .int l3)]) (hk1 : ∀ (l1 : Int64) (l3 : Int32), o1 = .inl (l1, l3) → ∀ {H : Heap} {locs : List Loc} {ls : Array Slot}, z_Ok D cA bs s σ H locs → lv_has ls 4 [(0, .ref l0), (1, .long l1), (3, .int l3)] → W p l e (zrm 5 0 0 114) s m args below meth c H locs 0 0 (MQ below (z_Ql D cA bs r σ') args s 0 0 (fun q => bs ≤ q)) (F0 m 115 ls [])) (hr1 : ∀ x, o1 = .inr x → x = (r, σ')) : W p l e (zrm 5 0 0 114) s m args below meth c H locs 0 0 (MQ below (z_Ql D cA bs r σ') args s 0 0 (fun q => bs ≤ q)) (F0 m 115 ls []) := by
  have hx := B.1
  have hb := B.2.1
  have hown := B.2.2.2.1
  have hts := B.2.2.2.2.1
  unfold b_X10_digest_115 at hf
  refine lv_iload_n hx hb dX10_digest_115 rfl (lv_at hl 2 rfl) ?_
  refine lv_bipush (v := (7 : Int32)) hx hb dX10_digest_116 (by decide) ?_
  refine lv_icmp_ge (tgt := 142) hx hb dX10_digest_118 (by decide) (fun hc118 => ?_) (fun hc118 => ?_)
  · replace hf := z_ip hc118 hf
    obtain ⟨w1, hf, ho14⟩ := z_x hf
    obtain rfl := hr1 _ ho14
    refine lv_lload_n hx hb dX10_digest_142 rfl (lv_at hl 1 rfl) ?_
    refine lv_aload_n hx hb dX10_digest_143 rfl (lv_at hl 0 rfl) ?_
    obtain ⟨hg1, hf⟩ := z_g hf
    obtain ⟨q2, hv3, hf⟩ := z_nn hf
    refine z_getN B hW (Or.inr zf_X10_7) rfl hg1 hv3 dX10_digest_144 ?_
    refine lv_bipush (v := (8 : Int32)) hx hb dX10_digest_147 (by decide) ?_
    obtain ⟨hg4, hf⟩ := z_g hf
    obtain ⟨hg5, hf⟩ := z_g hf
    refine z_ald B hW hg4 hg5 dX10_digest_149 ?_
    refine lv_i2l (v := (z_I σ q2 (8 : Int32).toNatClampNeg).toInt64) hx hb dX10_digest_150 rfl ?_
    obtain ⟨r7, hq6, hf⟩ := z_b hf
    refine z_cl hW (z_runS (As := [.long l1, .long (z_I σ q2 (8 : Int32).toNatClampNeg).toInt64]) (rest := []) B hW zv_X10_187 (K_X10_sums hq6) rfl rfl (Nat.le_of_ble_eq_true rfl) hl.1 ⟨Nat.le_of_ble_eq_true rfl, Nat.le_of_ble_eq_true rfl⟩ dX10_digest_151 ⟨Nat.le_of_ble_eq_true rfl, Nat.le_of_ble_eq_true rfl⟩) (fun H locs hW => ?_)
    refine lv_aload_n hx hb dX10_digest_154 rfl (lv_at hl 0 rfl) ?_
    obtain ⟨q8, hv9, hf⟩ := z_nn hf
    refine z_getN B hW (Or.inr zf_X10_7) rfl hg1 hv9 dX10_digest_155 ?_
    refine lv_bipush (v := (7 : Int32)) hx hb dX10_digest_158 (by decide) ?_
    obtain ⟨hg10, hf⟩ := z_g hf
    obtain ⟨hg11, hf⟩ := z_g hf
    refine z_ald B hW hg10 hg11 dX10_digest_160 ?_
    refine lv_i2l (v := (z_I σ q8 (7 : Int32).toNatClampNeg).toInt64) hx hb dX10_digest_161 rfl ?_
    obtain ⟨r13, hq12, hf⟩ := z_b hf
    refine z_cl hW (z_runS (As := [.long r7, .long (z_I σ q8 (7 : Int32).toNatClampNeg).toInt64]) (rest := []) B hW zv_X10_187 (K_X10_sums hq12) rfl rfl (Nat.le_of_ble_eq_true rfl) hl.1 ⟨Nat.le_of_ble_eq_true rfl, Nat.le_of_ble_eq_true rfl⟩ dX10_digest_162 ⟨Nat.le_of_ble_eq_true rfl, Nat.le_of_ble_eq_true rfl⟩) (fun H locs hW => ?_)
    refine lv_lstore_n (lv' := [(1, .long r13), (0, .ref l0), (3, .int l3)]) hx hb dX10_digest_165 rfl hl (by decide) rfl (fun ls hl => ?_)
    refine lv_iconst (v := (0 : Int32)) hx hb dX10_digest_166 (by decide) ?_
    refine lv_istore_n (lv' := [(3, .int (0 : Int32)), (1, .long r13), (0, .ref l0)]) hx hb dX10_digest_167 rfl hl (by decide) rfl (fun ls hl => ?_)
    unfold f_X10_digest_168 at hf
    exact t_X10_digest_168 B  zN hf hW (lv_sub hl [2, 1, 0] rfl)
  · replace hf := z_in hc118 hf
    refine lv_lload_n hx hb dX10_digest_121 rfl (lv_at hl 1 rfl) ?_
    refine lv_aload_n hx hb dX10_digest_122 rfl (lv_at hl 0 rfl) ?_
    obtain ⟨hg15, hf⟩ := z_g hf
    obtain ⟨q16, hv17, hf⟩ := z_nn hf
    refine z_getN B hW (Or.inr zf_X10_7) rfl hg15 hv17 dX10_digest_123 ?_
    refine lv_bipush (v := (9 : Int32)) hx hb dX10_digest_126 (by decide) ?_
    refine lv_iload_n hx hb dX10_digest_128 rfl (lv_at hl 2 rfl) ?_
    refine lv_iadd hx hb dX10_digest_129 ?_
    obtain ⟨hg18, hf⟩ := z_g hf
    obtain ⟨hg19, hf⟩ := z_g hf
    refine z_ald B hW hg18 hg19 dX10_digest_130 ?_
    refine lv_i2l (v := (z_I σ q16 ((9 : Int32) + l3).toNatClampNeg).toInt64) hx hb dX10_digest_131 rfl ?_
    obtain ⟨r21, hq20, hf⟩ := z_b hf
    refine z_cl hW (z_runS (As := [.long l1, .long (z_I σ q16 ((9 : Int32) + l3).toNatClampNeg).toInt64]) (rest := []) B hW zv_X10_187 (K_X10_sums hq20) rfl rfl (Nat.le_of_ble_eq_true rfl) hl.1 ⟨Nat.le_of_ble_eq_true rfl, Nat.le_of_ble_eq_true rfl⟩ dX10_digest_132 ⟨Nat.le_of_ble_eq_true rfl, Nat.le_of_ble_eq_true rfl⟩) (fun H locs hW => ?_)
    refine lv_lstore_n (lv' := [(1, .long r21), (0, .ref l0), (3, .int l3)]) hx hb dX10_digest_135 rfl hl (by decide) rfl (fun ls hl => ?_)
    refine lv_iinc (v := (l3 + (1 : Int32))) (lv' := [(3, .int (l3 + (1 : Int32))), (1, .long r21), (0, .ref l0)]) hx hb dX10_digest_136 hl (k := 2) rfl rfl (by decide) rfl (fun ls hl => ?_)
    refine lv_goto (tgt := 115) hx hb dX10_digest_139 (by decide) ?_
    exact hk1 _ _ (Option.some.inj hf).symm hW (lv_sub hl [2, 1, 0] rfl)
set_option maxRecDepth 20000 in
set_option maxHeartbeats 4000000 in
theorem t_X10_digest_115 (B : z_B p s m args meth c D cA bs RX10 cX10_digest 4 (some .long)) {r : Int64} {σ' : zSt} {σ : zSt} {l0 : Nat}  : ∀ (n : Nat) {l1 : Int64} {l3 : Int32}, zloop (fun (t : Int64 × Int32) => b_X10_digest_115 σ l0 t.1 t.2) n (l1, l3) = some (r, σ') → ∀ {H : Heap} {locs : List Loc} {ls : Array Slot}, z_Ok D cA bs s σ H locs → lv_has ls 4 [(0, .ref l0), (1, .long l1), (3, .int l3)] → W p l e (zrm 5 0 0 114) s m args below meth c H locs 0 0 (MQ below (z_Ql D cA bs r σ') args s 0 0 (fun q => bs ≤ q)) (F0 m 115 ls []) := by
  intro n
  induction n with
  | zero => intro l1 l3 hf; cases hf
  | succ n ih =>
    intro l1 l3 hf H locs ls hW hl
    obtain ⟨o1, hb1, hf⟩ := z_lp hf
    refine tb_X10_digest_115 B hb1 hW hl  (fun l1 l3 he H locs ls hW hl => ?_) (fun x he => ?_)
    · rcases hf with ⟨t, ht, hf⟩ | hf
      · rw [he] at ht
        cases ht
        exact ih hf hW hl
      · rw [he] at hf
        cases hf
    · rcases hf with ⟨t, ht, hf⟩ | hf
      · rw [he] at ht
        cases ht
      · rw [he] at hf
        exact Sum.inr.inj hf
set_option maxRecDepth 100000 in
def b_X10_digest_79 (σ : zSt) (l0 : Nat) (l1 : Int64) (l3 : Int32) : Option ((Int64 × Int32) ⊕ (Int64 × zSt)) :=
(if z_ob σ l0 9 then (zc (z_R σ l0 0) none (fun q2 => (if z_ar σ q2 0 then (if z_ix (5 : Int32) (z_ln σ q2) then (if ((5 : Int32) * (z_I σ q2 (5 : Int32).toNatClampNeg)) ≤ l3 then
(zex (f_X10_digest_115 σ l0 l1 (0 : Int32)))
else
(zc (z_R σ l0 0) none (fun q7 => (if z_ar σ q7 0 then (if z_ix ((242 : Int32) + l3) (z_ln σ q7) then (zb (f_X10_sums σ l1 ((z_I σ q7 ((242 : Int32) + l3).toNatClampNeg).toInt64)) (fun r12 => (some (.inl (r12, (l3 + (1 : Int32))))))) else none) else none)))) else none) else none))) else none)
set_option maxRecDepth 100000 in
def f_X10_digest_79 (σ : zSt) (l0 : Nat) (l1 : Int64) (l3 : Int32) : Option (Int64 × zSt) := zloop (fun (t : Int64 × Int32) => b_X10_digest_79 σ l0 t.1 t.2) zN (l1, l3)
set_option maxRecDepth 20000 in
set_option maxHeartbeats 4000000 in
theorem tb_X10_digest_79 (B : z_B p s m args meth c D cA bs RX10 cX10_digest 4 (some .long)) {r : Int64} {σ' : zSt} {o1 : (Int64 × Int32) ⊕ (Int64 × zSt)} {σ : zSt} {l0 : Nat} {l1 : Int64} {l3 : Int32} (hf : b_X10_digest_79 σ l0 l1 l3 = some o1) {H : Heap} {locs : List Loc} {ls : Array Slot} (hW : z_Ok D cA bs s σ H locs) (hl : lv_has ls 4 [(0, .ref l0), (1, .long l1), (3, .int l3)]) (hk1 : ∀ (l1 : Int64) (l3 : Int32), o1 = .inl (l1, l3) → ∀ {H : Heap} {locs : List Loc} {ls : Array Slot}, z_Ok D cA bs s σ H locs → lv_has ls 4 [(0, .ref l0), (1, .long l1), (3, .int l3)] → W p l e (zrm 5 0 0 114) s m args below meth c H locs 0 0 (MQ below (z_Ql D cA bs r σ') args s 0 0 (fun q => bs ≤ q)) (F0 m 79 ls [])) (hr1 : ∀ x, o1 = .inr x → x = (r, σ')) : W p l e (zrm 5 0 0 114) s m args below meth c H locs 0 0 (MQ below (z_Ql D cA bs r σ') args s 0 0 (fun q => bs ≤ q)) (F0 m 79 ls []) := by
  have hx := B.1
  have hb := B.2.1
  have hown := B.2.2.2.1
  have hts := B.2.2.2.2.1
  unfold b_X10_digest_79 at hf
  refine lv_iload_n hx hb dX10_digest_79 rfl (lv_at hl 2 rfl) ?_
  refine lv_iconst (v := (5 : Int32)) hx hb dX10_digest_80 (by decide) ?_
  refine lv_aload_n hx hb dX10_digest_81 rfl (lv_at hl 0 rfl) ?_
  obtain ⟨hg1, hf⟩ := z_g hf
  obtain ⟨q2, hv3, hf⟩ := z_nn hf
  refine z_getN B hW (Or.inr zf_X10_7) rfl hg1 hv3 dX10_digest_82 ?_
  refine lv_iconst (v := (5 : Int32)) hx hb dX10_digest_85 (by decide) ?_
  obtain ⟨hg4, hf⟩ := z_g hf
  obtain ⟨hg5, hf⟩ := z_g hf
  refine z_ald B hW hg4 hg5 dX10_digest_86 ?_
  refine lv_imul hx hb dX10_digest_87 ?_
  refine lv_icmp_ge (tgt := 113) hx hb dX10_digest_88 (by decide) (fun hc88 => ?_) (fun hc88 => ?_)
  · replace hf := z_ip hc88 hf
    obtain ⟨w1, hf, ho6⟩ := z_x hf
    obtain rfl := hr1 _ ho6
    refine lv_iconst (v := (0 : Int32)) hx hb dX10_digest_113 (by decide) ?_
    refine lv_istore_n (lv' := [(3, .int (0 : Int32)), (0, .ref l0), (1, .long l1)]) hx hb dX10_digest_114 rfl hl (by decide) rfl (fun ls hl => ?_)
    unfold f_X10_digest_115 at hf
    exact t_X10_digest_115 B  zN hf hW (lv_sub hl [1, 2, 0] rfl)
  · replace hf := z_in hc88 hf
    refine lv_lload_n hx hb dX10_digest_91 rfl (lv_at hl 1 rfl) ?_
    refine lv_aload_n hx hb dX10_digest_92 rfl (lv_at hl 0 rfl) ?_
    obtain ⟨q7, hv8, hf⟩ := z_nn hf
    refine z_getN B hW (Or.inr zf_X10_7) rfl hg1 hv8 dX10_digest_93 ?_
    refine lv_sipush (v := (242 : Int32)) hx hb dX10_digest_96 (by decide) ?_
    refine lv_iload_n hx hb dX10_digest_99 rfl (lv_at hl 2 rfl) ?_
    refine lv_iadd hx hb dX10_digest_100 ?_
    obtain ⟨hg9, hf⟩ := z_g hf
    obtain ⟨hg10, hf⟩ := z_g hf
    refine z_ald B hW hg9 hg10 dX10_digest_101 ?_
    refine lv_i2l (v := (z_I σ q7 ((242 : Int32) + l3).toNatClampNeg).toInt64) hx hb dX10_digest_102 rfl ?_
    obtain ⟨r12, hq11, hf⟩ := z_b hf
    refine z_cl hW (z_runS (As := [.long l1, .long (z_I σ q7 ((242 : Int32) + l3).toNatClampNeg).toInt64]) (rest := []) B hW zv_X10_187 (K_X10_sums hq11) rfl rfl (Nat.le_of_ble_eq_true rfl) hl.1 ⟨Nat.le_of_ble_eq_true rfl, Nat.le_of_ble_eq_true rfl⟩ dX10_digest_103 ⟨Nat.le_of_ble_eq_true rfl, Nat.le_of_ble_eq_true rfl⟩) (fun H locs hW => ?_)
    refine lv_lstore_n (lv' := [(1, .long r12), (0, .ref l0), (3, .int l3)]) hx hb dX10_digest_106 rfl hl (by decide) rfl (fun ls hl => ?_)
    refine lv_iinc (v := (l3 + (1 : Int32))) (lv' := [(3, .int (l3 + (1 : Int32))), (1, .long r12), (0, .ref l0)]) hx hb dX10_digest_107 hl (k := 2) rfl rfl (by decide) rfl (fun ls hl => ?_)
    refine lv_goto (tgt := 79) hx hb dX10_digest_110 (by decide) ?_
    exact hk1 _ _ (Option.some.inj hf).symm hW (lv_sub hl [2, 1, 0] rfl)
set_option maxRecDepth 20000 in
set_option maxHeartbeats 4000000 in
theorem t_X10_digest_79 (B : z_B p s m args meth c D cA bs RX10 cX10_digest 4 (some .long)) {r : Int64} {σ' : zSt} {σ : zSt} {l0 : Nat}  : ∀ (n : Nat) {l1 : Int64} {l3 : Int32}, zloop (fun (t : Int64 × Int32) => b_X10_digest_79 σ l0 t.1 t.2) n (l1, l3) = some (r, σ') → ∀ {H : Heap} {locs : List Loc} {ls : Array Slot}, z_Ok D cA bs s σ H locs → lv_has ls 4 [(0, .ref l0), (1, .long l1), (3, .int l3)] → W p l e (zrm 5 0 0 114) s m args below meth c H locs 0 0 (MQ below (z_Ql D cA bs r σ') args s 0 0 (fun q => bs ≤ q)) (F0 m 79 ls []) := by
  intro n
  induction n with
  | zero => intro l1 l3 hf; cases hf
  | succ n ih =>
    intro l1 l3 hf H locs ls hW hl
    obtain ⟨o1, hb1, hf⟩ := z_lp hf
    refine tb_X10_digest_79 B hb1 hW hl  (fun l1 l3 he H locs ls hW hl => ?_) (fun x he => ?_)
    · rcases hf with ⟨t, ht, hf⟩ | hf
      · rw [he] at ht
        cases ht
        exact ih hf hW hl
      · rw [he] at hf
        cases hf
    · rcases hf with ⟨t, ht, hf⟩ | hf
      · rw [he] at ht
        cases ht
      · rw [he] at hf
        exact Sum.inr.inj hf
set_option maxRecDepth 100000 in
def f_X10_digest_70 (σ : zSt) (l0 : Nat) (l3 : Int32) (s0 : Int64) : Option ((Int64 × Int32) ⊕ (Int64 × zSt)) :=
(some (.inl (s0, (l3 + (1 : Int32)))))
set_option maxRecDepth 20000 in
set_option maxHeartbeats 4000000 in
theorem t_X10_digest_70 (B : z_B p s m args meth c D cA bs RX10 cX10_digest 4 (some .long)) {r : Int64} {σ' : zSt} {o1 : (Int64 × Int32) ⊕ (Int64 × zSt)} {σ : zSt} {l0 : Nat} {l3 : Int32} {s0 : Int64} (hf : f_X10_digest_70 σ l0 l3 s0 = some o1) {H : Heap} {locs : List Loc} {ls : Array Slot} (hW : z_Ok D cA bs s σ H locs) (hl : lv_has ls 4 [(0, .ref l0), (3, .int l3)]) (hk1 : ∀ (l1 : Int64) (l3 : Int32), o1 = .inl (l1, l3) → ∀ {H : Heap} {locs : List Loc} {ls : Array Slot}, z_Ok D cA bs s σ H locs → lv_has ls 4 [(0, .ref l0), (1, .long l1), (3, .int l3)] → W p l e (zrm 5 0 0 114) s m args below meth c H locs 0 0 (MQ below (z_Ql D cA bs r σ') args s 0 0 (fun q => bs ≤ q)) (F0 m 44 ls [])) (hr1 : ∀ x, o1 = .inr x → x = (r, σ')) : W p l e (zrm 5 0 0 114) s m args below meth c H locs 0 0 (MQ below (z_Ql D cA bs r σ') args s 0 0 (fun q => bs ≤ q)) (F0 m 70 ls [.long s0]) := by
  have hx := B.1
  have hb := B.2.1
  have hown := B.2.2.2.1
  have hts := B.2.2.2.2.1
  unfold f_X10_digest_70 at hf
  refine lv_lstore_n (lv' := [(1, .long s0), (0, .ref l0), (3, .int l3)]) hx hb dX10_digest_70 rfl hl (by decide) rfl (fun ls hl => ?_)
  refine lv_iinc (v := (l3 + (1 : Int32))) (lv' := [(3, .int (l3 + (1 : Int32))), (1, .long s0), (0, .ref l0)]) hx hb dX10_digest_71 hl (k := 2) rfl rfl (by decide) rfl (fun ls hl => ?_)
  refine lv_goto (tgt := 44) hx hb dX10_digest_74 (by decide) ?_
  exact hk1 _ _ (Option.some.inj hf).symm hW (lv_sub hl [2, 1, 0] rfl)
set_option maxRecDepth 100000 in
def b_X10_digest_44 (σ : zSt) (l0 : Nat) (l1 : Int64) (l3 : Int32) : Option ((Int64 × Int32) ⊕ (Int64 × zSt)) :=
(if (32 : Int32) ≤ l3 then
(zex (f_X10_digest_79 σ l0 l1 (0 : Int32)))
else
(if z_ob σ l0 9 then (zb (f_X10_of σ l0 l3 (0 : Int32)) (fun r4 => (if r4 = (1 : Int32) then
(zb (f_X10_withStation σ l0 l1 l3) (fun r6 => (f_X10_digest_70 σ l0 l3 r6)))
else
(f_X10_digest_70 σ l0 l3 l1)))) else none))
set_option maxRecDepth 100000 in
def f_X10_digest_44 (σ : zSt) (l0 : Nat) (l1 : Int64) (l3 : Int32) : Option (Int64 × zSt) := zloop (fun (t : Int64 × Int32) => b_X10_digest_44 σ l0 t.1 t.2) zN (l1, l3)
set_option maxRecDepth 20000 in
set_option maxHeartbeats 4000000 in
theorem tb_X10_digest_44 (B : z_B p s m args meth c D cA bs RX10 cX10_digest 4 (some .long)) {r : Int64} {σ' : zSt} {o1 : (Int64 × Int32) ⊕ (Int64 × zSt)} {σ : zSt} {l0 : Nat} {l1 : Int64} {l3 : Int32} (hf : b_X10_digest_44 σ l0 l1 l3 = some o1) {H : Heap} {locs : List Loc} {ls : Array Slot} (hW : z_Ok D cA bs s σ H locs) (hl : lv_has ls 4 [(0, .ref l0), (1, .long l1), (3, .int l3)]) (hk1 : ∀ (l1 : Int64) (l3 : Int32), o1 = .inl (l1, l3) → ∀ {H : Heap} {locs : List Loc} {ls : Array Slot}, z_Ok D cA bs s σ H locs → lv_has ls 4 [(0, .ref l0), (1, .long l1), (3, .int l3)] → W p l e (zrm 5 0 0 114) s m args below meth c H locs 0 0 (MQ below (z_Ql D cA bs r σ') args s 0 0 (fun q => bs ≤ q)) (F0 m 44 ls [])) (hr1 : ∀ x, o1 = .inr x → x = (r, σ')) : W p l e (zrm 5 0 0 114) s m args below meth c H locs 0 0 (MQ below (z_Ql D cA bs r σ') args s 0 0 (fun q => bs ≤ q)) (F0 m 44 ls []) := by
  have hx := B.1
  have hb := B.2.1
  have hown := B.2.2.2.1
  have hts := B.2.2.2.2.1
  unfold b_X10_digest_44 at hf
  refine lv_iload_n hx hb dX10_digest_44 rfl (lv_at hl 2 rfl) ?_
  refine lv_bipush (v := (32 : Int32)) hx hb dX10_digest_45 (by decide) ?_
  refine lv_icmp_ge (tgt := 77) hx hb dX10_digest_47 (by decide) (fun hc47 => ?_) (fun hc47 => ?_)
  · replace hf := z_ip hc47 hf
    obtain ⟨w1, hf, ho1⟩ := z_x hf
    obtain rfl := hr1 _ ho1
    refine lv_iconst (v := (0 : Int32)) hx hb dX10_digest_77 (by decide) ?_
    refine lv_istore_n (lv' := [(3, .int (0 : Int32)), (0, .ref l0), (1, .long l1)]) hx hb dX10_digest_78 rfl hl (by decide) rfl (fun ls hl => ?_)
    unfold f_X10_digest_79 at hf
    exact t_X10_digest_79 B  zN hf hW (lv_sub hl [1, 2, 0] rfl)
  · replace hf := z_in hc47 hf
    refine lv_aload_n hx hb dX10_digest_50 rfl (lv_at hl 0 rfl) ?_
    refine lv_iload_n hx hb dX10_digest_51 rfl (lv_at hl 2 rfl) ?_
    refine lv_iconst (v := (0 : Int32)) hx hb dX10_digest_52 (by decide) ?_
    obtain ⟨hg2, hf⟩ := z_g hf
    obtain ⟨r4, hq3, hf⟩ := z_b hf
    refine z_ci hW (z_runV (As := [.int l3, .int (0 : Int32)]) (rest := []) B hW zv_X10_39 (K_X10_of hq3) hg2 rfl rfl rfl (Nat.le_of_ble_eq_true rfl) hl.1 ⟨Nat.le_of_ble_eq_true rfl, Nat.le_of_ble_eq_true rfl⟩ dX10_digest_53 ⟨Nat.le_of_ble_eq_true rfl, Nat.le_of_ble_eq_true rfl⟩) (fun H locs hW => ?_)
    refine lv_iconst (v := (1 : Int32)) hx hb dX10_digest_56 (by decide) ?_
    refine lv_icmp_ne (tgt := 69) hx hb dX10_digest_57 (by decide) (fun hc57 => ?_) (fun hc57 => ?_)
    · replace hf := z_in hc57 hf
      refine lv_lload_n hx hb dX10_digest_69 rfl (lv_at hl 1 rfl) ?_
      exact t_X10_digest_70 B hf hW (lv_sub hl [0, 2] rfl) hk1 hr1
    · replace hf := z_ip hc57 hf
      refine lv_aload_n hx hb dX10_digest_60 rfl (lv_at hl 0 rfl) ?_
      refine lv_lload_n hx hb dX10_digest_61 rfl (lv_at hl 1 rfl) ?_
      refine lv_iload_n hx hb dX10_digest_62 rfl (lv_at hl 2 rfl) ?_
      obtain ⟨r6, hq5, hf⟩ := z_b hf
      refine z_cl hW (z_runV (As := [.long l1, .int l3]) (rest := []) B hW zv_X10_193 (K_X10_withStation hq5) hg2 rfl rfl rfl (Nat.le_of_ble_eq_true rfl) hl.1 ⟨Nat.le_of_ble_eq_true rfl, Nat.le_of_ble_eq_true rfl⟩ dX10_digest_63 ⟨Nat.le_of_ble_eq_true rfl, Nat.le_of_ble_eq_true rfl⟩) (fun H locs hW => ?_)
      refine lv_goto (tgt := 70) hx hb dX10_digest_66 (by decide) ?_
      exact t_X10_digest_70 B hf hW (lv_sub hl [0, 2] rfl) hk1 hr1
set_option maxRecDepth 20000 in
set_option maxHeartbeats 4000000 in
theorem t_X10_digest_44 (B : z_B p s m args meth c D cA bs RX10 cX10_digest 4 (some .long)) {r : Int64} {σ' : zSt} {σ : zSt} {l0 : Nat}  : ∀ (n : Nat) {l1 : Int64} {l3 : Int32}, zloop (fun (t : Int64 × Int32) => b_X10_digest_44 σ l0 t.1 t.2) n (l1, l3) = some (r, σ') → ∀ {H : Heap} {locs : List Loc} {ls : Array Slot}, z_Ok D cA bs s σ H locs → lv_has ls 4 [(0, .ref l0), (1, .long l1), (3, .int l3)] → W p l e (zrm 5 0 0 114) s m args below meth c H locs 0 0 (MQ below (z_Ql D cA bs r σ') args s 0 0 (fun q => bs ≤ q)) (F0 m 44 ls []) := by
  intro n
  induction n with
  | zero => intro l1 l3 hf; cases hf
  | succ n ih =>
    intro l1 l3 hf H locs ls hW hl
    obtain ⟨o1, hb1, hf⟩ := z_lp hf
    refine tb_X10_digest_44 B hb1 hW hl  (fun l1 l3 he H locs ls hW hl => ?_) (fun x he => ?_)
    · rcases hf with ⟨t, ht, hf⟩ | hf
      · rw [he] at ht
        cases ht
        exact ih hf hW hl
      · rw [he] at hf
        cases hf
    · rcases hf with ⟨t, ht, hf⟩ | hf
      · rw [he] at ht
        cases ht
      · rw [he] at hf
        exact Sum.inr.inj hf
set_option maxRecDepth 100000 in
def b_X10_digest_19 (σ : zSt) (l0 : Nat) (l1 : Int64) (l3 : Int32) : Option ((Int64 × Int32) ⊕ (Int64 × zSt)) :=
(if (9 : Int32) ≤ l3 then
(zex (f_X10_digest_44 σ l0 l1 (0 : Int32)))
else
(if z_ob σ l0 9 then (zb (f_X10_settingOf σ l0 l3) (fun r4 => (zb (f_X10_sums σ l1 r4.toInt64) (fun r6 => (some (.inl (r6, (l3 + (1 : Int32))))))))) else none))
set_option maxRecDepth 100000 in
def f_X10_digest_19 (σ : zSt) (l0 : Nat) (l1 : Int64) (l3 : Int32) : Option (Int64 × zSt) := zloop (fun (t : Int64 × Int32) => b_X10_digest_19 σ l0 t.1 t.2) zN (l1, l3)
set_option maxRecDepth 20000 in
set_option maxHeartbeats 4000000 in
theorem tb_X10_digest_19 (B : z_B p s m args meth c D cA bs RX10 cX10_digest 4 (some .long)) {r : Int64} {σ' : zSt} {o1 : (Int64 × Int32) ⊕ (Int64 × zSt)} {σ : zSt} {l0 : Nat} {l1 : Int64} {l3 : Int32} (hf : b_X10_digest_19 σ l0 l1 l3 = some o1) {H : Heap} {locs : List Loc} {ls : Array Slot} (hW : z_Ok D cA bs s σ H locs) (hl : lv_has ls 4 [(0, .ref l0), (1, .long l1), (3, .int l3)]) (hk1 : ∀ (l1 : Int64) (l3 : Int32), o1 = .inl (l1, l3) → ∀ {H : Heap} {locs : List Loc} {ls : Array Slot}, z_Ok D cA bs s σ H locs → lv_has ls 4 [(0, .ref l0), (1, .long l1), (3, .int l3)] → W p l e (zrm 5 0 0 114) s m args below meth c H locs 0 0 (MQ below (z_Ql D cA bs r σ') args s 0 0 (fun q => bs ≤ q)) (F0 m 19 ls [])) (hr1 : ∀ x, o1 = .inr x → x = (r, σ')) : W p l e (zrm 5 0 0 114) s m args below meth c H locs 0 0 (MQ below (z_Ql D cA bs r σ') args s 0 0 (fun q => bs ≤ q)) (F0 m 19 ls []) := by
  have hx := B.1
  have hb := B.2.1
  have hown := B.2.2.2.1
  have hts := B.2.2.2.2.1
  unfold b_X10_digest_19 at hf
  refine lv_iload_n hx hb dX10_digest_19 rfl (lv_at hl 2 rfl) ?_
  refine lv_bipush (v := (9 : Int32)) hx hb dX10_digest_20 (by decide) ?_
  refine lv_icmp_ge (tgt := 42) hx hb dX10_digest_22 (by decide) (fun hc22 => ?_) (fun hc22 => ?_)
  · replace hf := z_ip hc22 hf
    obtain ⟨w1, hf, ho1⟩ := z_x hf
    obtain rfl := hr1 _ ho1
    refine lv_iconst (v := (0 : Int32)) hx hb dX10_digest_42 (by decide) ?_
    refine lv_istore_n (lv' := [(3, .int (0 : Int32)), (0, .ref l0), (1, .long l1)]) hx hb dX10_digest_43 rfl hl (by decide) rfl (fun ls hl => ?_)
    unfold f_X10_digest_44 at hf
    exact t_X10_digest_44 B  zN hf hW (lv_sub hl [1, 2, 0] rfl)
  · replace hf := z_in hc22 hf
    refine lv_lload_n hx hb dX10_digest_25 rfl (lv_at hl 1 rfl) ?_
    refine lv_aload_n hx hb dX10_digest_26 rfl (lv_at hl 0 rfl) ?_
    refine lv_iload_n hx hb dX10_digest_27 rfl (lv_at hl 2 rfl) ?_
    obtain ⟨hg2, hf⟩ := z_g hf
    obtain ⟨r4, hq3, hf⟩ := z_b hf
    refine z_ci hW (z_runV (As := [.int l3]) (rest := [.long l1]) B hW zv_X10_127 (K_X10_settingOf hq3) hg2 rfl rfl rfl (Nat.le_of_ble_eq_true rfl) hl.1 ⟨Nat.le_of_ble_eq_true rfl, Nat.le_of_ble_eq_true rfl⟩ dX10_digest_28 ⟨Nat.le_of_ble_eq_true rfl, Nat.le_of_ble_eq_true rfl⟩) (fun H locs hW => ?_)
    refine lv_i2l (v := r4.toInt64) hx hb dX10_digest_31 rfl ?_
    obtain ⟨r6, hq5, hf⟩ := z_b hf
    refine z_cl hW (z_runS (As := [.long l1, .long r4.toInt64]) (rest := []) B hW zv_X10_187 (K_X10_sums hq5) rfl rfl (Nat.le_of_ble_eq_true rfl) hl.1 ⟨Nat.le_of_ble_eq_true rfl, Nat.le_of_ble_eq_true rfl⟩ dX10_digest_32 ⟨Nat.le_of_ble_eq_true rfl, Nat.le_of_ble_eq_true rfl⟩) (fun H locs hW => ?_)
    refine lv_lstore_n (lv' := [(1, .long r6), (0, .ref l0), (3, .int l3)]) hx hb dX10_digest_35 rfl hl (by decide) rfl (fun ls hl => ?_)
    refine lv_iinc (v := (l3 + (1 : Int32))) (lv' := [(3, .int (l3 + (1 : Int32))), (1, .long r6), (0, .ref l0)]) hx hb dX10_digest_36 hl (k := 2) rfl rfl (by decide) rfl (fun ls hl => ?_)
    refine lv_goto (tgt := 19) hx hb dX10_digest_39 (by decide) ?_
    exact hk1 _ _ (Option.some.inj hf).symm hW (lv_sub hl [2, 1, 0] rfl)
set_option maxRecDepth 20000 in
set_option maxHeartbeats 4000000 in
theorem t_X10_digest_19 (B : z_B p s m args meth c D cA bs RX10 cX10_digest 4 (some .long)) {r : Int64} {σ' : zSt} {σ : zSt} {l0 : Nat}  : ∀ (n : Nat) {l1 : Int64} {l3 : Int32}, zloop (fun (t : Int64 × Int32) => b_X10_digest_19 σ l0 t.1 t.2) n (l1, l3) = some (r, σ') → ∀ {H : Heap} {locs : List Loc} {ls : Array Slot}, z_Ok D cA bs s σ H locs → lv_has ls 4 [(0, .ref l0), (1, .long l1), (3, .int l3)] → W p l e (zrm 5 0 0 114) s m args below meth c H locs 0 0 (MQ below (z_Ql D cA bs r σ') args s 0 0 (fun q => bs ≤ q)) (F0 m 19 ls []) := by
  intro n
  induction n with
  | zero => intro l1 l3 hf; cases hf
  | succ n ih =>
    intro l1 l3 hf H locs ls hW hl
    obtain ⟨o1, hb1, hf⟩ := z_lp hf
    refine tb_X10_digest_19 B hb1 hW hl  (fun l1 l3 he H locs ls hW hl => ?_) (fun x he => ?_)
    · rcases hf with ⟨t, ht, hf⟩ | hf
      · rw [he] at ht
        cases ht
        exact ih hf hW hl
      · rw [he] at hf
        cases hf
    · rcases hf with ⟨t, ht, hf⟩ | hf
      · rw [he] at ht
        cases ht
      · rw [he] at hf
        exact Sum.inr.inj hf
set_option maxRecDepth 100000 in
def f_X10_digest (σ : zSt) (l0 : Nat) : Option (Int64 × zSt) :=
(if z_ob σ l0 9 then (zl (z_pI σ l0 4 (0 : Int32)) (fun σ2 => (if z_ob σ2 l0 9 then (zb (f_X10_sums σ2 (3169 : Int64) ((z_I σ2 l0 6).toInt64)) (fun r6 => (f_X10_digest_19 σ2 l0 r6 (0 : Int32)))) else none))) else none)
set_option maxRecDepth 20000 in
set_option maxHeartbeats 4000000 in
theorem K_X10_digest {σ : zSt} {l0 : Nat} {r : Int64} {σ' : zSt} (hf : f_X10_digest σ l0 = some (r, σ')) : z_M l D cA bs yX10_digest cX10_digest 4 (some .long) 5 114 0 0 [.ref l0] σ (z_Ql D cA bs r σ') := by
  refine z_met (own := RX10) (lv := [(0, .ref l0)]) (by decide) rfl (Nat.le_of_ble_eq_true rfl) rfl (fun p e s m below meth c ls B hnm hW hl => ?_)
  have hx := B.1
  have hb := B.2.1
  have hown := B.2.2.2.1
  have hts := B.2.2.2.2.1
  unfold f_X10_digest at hf
  refine lv_aload_n hx hb dX10_digest_0 rfl (lv_at hl 0 rfl) ?_
  refine lv_iconst (v := (0 : Int32)) hx hb dX10_digest_1 (by decide) ?_
  obtain ⟨hg1, hf⟩ := z_g hf
  obtain ⟨σ2, hs3, hf⟩ := z_l hf
  refine z_putI B hW zf_X10_22 hg1 rfl hs3 dX10_digest_2 (fun H locs hW => ?_)
  refine lv_ldc2 hx hb hown (hts _ zk_X10_191) dX10_digest_5 ?_
  refine lv_aload_n hx hb dX10_digest_8 rfl (lv_at hl 0 rfl) ?_
  obtain ⟨hg4, hf⟩ := z_g hf
  refine z_getI B hW (Or.inl zf_X10_159) rfl hg4 dX10_digest_9 ?_
  refine lv_i2l (v := (z_I σ2 l0 6).toInt64) hx hb dX10_digest_12 rfl ?_
  obtain ⟨r6, hq5, hf⟩ := z_b hf
  refine z_cl hW (z_runS (As := [.long (3169 : Int64), .long (z_I σ2 l0 6).toInt64]) (rest := []) B hW zv_X10_187 (K_X10_sums hq5) rfl rfl (Nat.le_of_ble_eq_true rfl) hl.1 ⟨Nat.le_of_ble_eq_true rfl, Nat.le_of_ble_eq_true rfl⟩ dX10_digest_13 ⟨Nat.le_of_ble_eq_true rfl, Nat.le_of_ble_eq_true rfl⟩) (fun H locs hW => ?_)
  refine lv_lstore_n (lv' := [(1, .long r6), (0, .ref l0)]) hx hb dX10_digest_16 rfl hl (by decide) rfl (fun ls hl => ?_)
  refine lv_iconst (v := (0 : Int32)) hx hb dX10_digest_17 (by decide) ?_
  refine lv_istore_n (lv' := [(3, .int (0 : Int32)), (1, .long r6), (0, .ref l0)]) hx hb dX10_digest_18 rfl hl (by decide) rfl (fun ls hl => ?_)
  unfold f_X10_digest_19 at hf
  exact t_X10_digest_19 B  zN hf hW (lv_sub hl [2, 1, 0] rfl)
end GEN
