section GEN
variable {p : Program} {l : Launch} {e : Env} {s : State} {m : MethodId} {args : Array Value} {below : List Frame} {meth : Method} {c : Code} {D : va_G} {cA : Nat → ClassId} {bs : Nat}
set_option maxRecDepth 100000 in
def f_X10_sendsAll_77 (σ : zSt) : Option (zSt) :=
(some σ)
set_option maxRecDepth 20000 in
set_option maxHeartbeats 4000000 in
theorem t_X10_sendsAll_77 (B : z_B p s m args meth c D cA bs RX10 cX10_sendsAll 6 none)  {σ' : zSt} {σ : zSt} (hf : f_X10_sendsAll_77 σ = some σ') {H : Heap} {locs : List Loc} {ls : Array Slot} (hW : z_Ok D cA bs s σ H locs) (hl : lv_has ls 6 [])  : W p l e (zrm 4 0 0 92) s m args below meth c H locs 0 0 (MQ below (z_Qv D cA bs σ') args s 0 0 (fun q => bs ≤ q)) (F0 m 77 ls []) := by
  have hx := B.1
  have hb := B.2.1
  have hown := B.2.2.2.1
  have hts := B.2.2.2.2.1
  unfold f_X10_sendsAll_77 at hf
  obtain rfl := z_e1 hf
  exact z_rv B hW dX10_sendsAll_77 (Nat.le_of_ble_eq_true rfl) (Nat.le_of_ble_eq_true rfl)
set_option maxRecDepth 100000 in
def b_X10_sendsAll_40 (l0 : Nat) (l1 : Int32) (l2 : Int32) (l3 : Int32) (σ : zSt) (l5 : Int32) : Option ((zSt × Int32) ⊕ (zSt)) :=
(if l5 = 0 then
(if z_ob σ l0 9 then (zb (f_X10_nextOf σ l0 l1 (-1 : Int32)) (fun r4 => (if r4 = (-1 : Int32) then
(zex (f_X10_sendsAll_77 σ))
else
(zc (z_R σ l0 0) none (fun q6 => (if z_ar σ q6 0 then (if z_ix (3 : Int32) (z_ln σ q6) then (if l3 ≤ ((z_I σ q6 (3 : Int32).toNatClampNeg) - l2) then
(zex (f_X10_sendsAll_77 σ))
else
(zb2 (f_X10_sends σ l0 l1) (fun r12 σ13 => (some (.inl (σ13, r12)))))) else none) else none)))))) else none)
else
(zex (f_X10_sendsAll_77 σ)))
set_option maxRecDepth 100000 in
def f_X10_sendsAll_40 (l0 : Nat) (l1 : Int32) (l2 : Int32) (l3 : Int32) (σ : zSt) (l5 : Int32) : Option (zSt) := zloop (fun (t : zSt × Int32) => b_X10_sendsAll_40 l0 l1 l2 l3 t.1 t.2) zN (σ, l5)
set_option maxRecDepth 20000 in
set_option maxHeartbeats 4000000 in
theorem tb_X10_sendsAll_40 (B : z_B p s m args meth c D cA bs RX10 cX10_sendsAll 6 none)  {σ' : zSt} {o1 : (zSt × Int32) ⊕ (zSt)} {l0 : Nat} {l1 : Int32} {l2 : Int32} {l3 : Int32} {σ : zSt} {l5 : Int32} (hf : b_X10_sendsAll_40 l0 l1 l2 l3 σ l5 = some o1) {H : Heap} {locs : List Loc} {ls : Array Slot} (hW : z_Ok D cA bs s σ H locs) (hl : lv_has ls 6 [(0, .ref l0), (1, .int l1), (2, .int l2), (3, .int l3), (5, .int l5)]) (hk1 : ∀ (σ : zSt) (l5 : Int32), o1 = .inl (σ, l5) → ∀ {H : Heap} {locs : List Loc} {ls : Array Slot}, z_Ok D cA bs s σ H locs → lv_has ls 6 [(0, .ref l0), (1, .int l1), (2, .int l2), (3, .int l3), (5, .int l5)] → W p l e (zrm 4 0 0 92) s m args below meth c H locs 0 0 (MQ below (z_Qv D cA bs σ') args s 0 0 (fun q => bs ≤ q)) (F0 m 40 ls [])) (hr1 : ∀ x, o1 = .inr x → x = σ') : W p l e (zrm 4 0 0 92) s m args below meth c H locs 0 0 (MQ below (z_Qv D cA bs σ') args s 0 0 (fun q => bs ≤ q)) (F0 m 40 ls []) := by
  have hx := B.1
  have hb := B.2.1
  have hown := B.2.2.2.1
  have hts := B.2.2.2.2.1
  unfold b_X10_sendsAll_40 at hf
  refine lv_iload hx hb dX10_sendsAll_40 (lv_at hl 4 rfl) ?_
  refine lv_if_ne (tgt := 77) hx hb dX10_sendsAll_42 (by decide) (fun hc42 => ?_) (fun hc42 => ?_)
  · replace hf := z_in hc42 hf
    obtain ⟨w1, hf, ho1⟩ := z_x hf
    obtain rfl := hr1 _ ho1
    exact t_X10_sendsAll_77 B hf hW (lv_sub hl [] rfl) 
  · replace hf := z_ip hc42 hf
    refine lv_aload_n hx hb dX10_sendsAll_45 rfl (lv_at hl 0 rfl) ?_
    refine lv_iload_n hx hb dX10_sendsAll_46 rfl (lv_at hl 1 rfl) ?_
    refine lv_iconst (v := (-1 : Int32)) hx hb dX10_sendsAll_47 (by decide) ?_
    obtain ⟨hg2, hf⟩ := z_g hf
    obtain ⟨r4, hq3, hf⟩ := z_b hf
    refine z_ci hW (z_runV (As := [.int l1, .int (-1 : Int32)]) (rest := []) B hW zv_X10_86 (K_X10_nextOf hq3) hg2 rfl rfl rfl (Nat.le_of_ble_eq_true rfl) hl.1 ⟨Nat.le_of_ble_eq_true rfl, Nat.le_of_ble_eq_true rfl⟩ dX10_sendsAll_48 ⟨Nat.le_of_ble_eq_true rfl, Nat.le_of_ble_eq_true rfl⟩) (fun H locs hW => ?_)
    refine lv_iconst (v := (-1 : Int32)) hx hb dX10_sendsAll_51 (by decide) ?_
    refine lv_icmp_eq (tgt := 77) hx hb dX10_sendsAll_52 (by decide) (fun hc52 => ?_) (fun hc52 => ?_)
    · replace hf := z_ip hc52 hf
      obtain ⟨w1, hf, ho5⟩ := z_x hf
      obtain rfl := hr1 _ ho5
      exact t_X10_sendsAll_77 B hf hW (lv_sub hl [] rfl) 
    · replace hf := z_in hc52 hf
      refine lv_aload_n hx hb dX10_sendsAll_55 rfl (lv_at hl 0 rfl) ?_
      obtain ⟨q6, hv7, hf⟩ := z_nn hf
      refine z_getN B hW (Or.inr zf_X10_7) rfl hg2 hv7 dX10_sendsAll_56 ?_
      refine lv_iconst (v := (3 : Int32)) hx hb dX10_sendsAll_59 (by decide) ?_
      obtain ⟨hg8, hf⟩ := z_g hf
      obtain ⟨hg9, hf⟩ := z_g hf
      refine z_ald B hW hg8 hg9 dX10_sendsAll_60 ?_
      refine lv_iload_n hx hb dX10_sendsAll_61 rfl (lv_at hl 2 rfl) ?_
      refine lv_isub hx hb dX10_sendsAll_62 ?_
      refine lv_iload_n hx hb dX10_sendsAll_63 rfl (lv_at hl 3 rfl) ?_
      refine lv_icmp_ge (tgt := 77) hx hb dX10_sendsAll_64 (by decide) (fun hc64 => ?_) (fun hc64 => ?_)
      · replace hf := z_ip hc64 hf
        obtain ⟨w1, hf, ho10⟩ := z_x hf
        obtain rfl := hr1 _ ho10
        exact t_X10_sendsAll_77 B hf hW (lv_sub hl [] rfl) 
      · replace hf := z_in hc64 hf
        refine lv_aload_n hx hb dX10_sendsAll_67 rfl (lv_at hl 0 rfl) ?_
        refine lv_iload_n hx hb dX10_sendsAll_68 rfl (lv_at hl 1 rfl) ?_
        obtain ⟨r12, σ13, hq11, hf⟩ := z_b2 hf
        refine z_ci hW (z_runV (As := [.int l1]) (rest := []) B hW zv_X10_92 (K_X10_sends hq11) hg2 rfl rfl rfl (Nat.le_of_ble_eq_true rfl) hl.1 ⟨Nat.le_of_ble_eq_true rfl, Nat.le_of_ble_eq_true rfl⟩ dX10_sendsAll_69 ⟨Nat.le_of_ble_eq_true rfl, Nat.le_of_ble_eq_true rfl⟩) (fun H locs hW => ?_)
        refine lv_istore (lv' := [(5, .int r12), (0, .ref l0), (1, .int l1), (2, .int l2), (3, .int l3)]) hx hb dX10_sendsAll_72 hl (by decide) rfl (fun ls hl => ?_)
        refine lv_goto (tgt := 40) hx hb dX10_sendsAll_74 (by decide) ?_
        exact hk1 _ _ (Option.some.inj hf).symm hW (lv_sub hl [1, 2, 3, 4, 0] rfl)
set_option maxRecDepth 20000 in
set_option maxHeartbeats 4000000 in
theorem t_X10_sendsAll_40 (B : z_B p s m args meth c D cA bs RX10 cX10_sendsAll 6 none)  {σ' : zSt} {l0 : Nat} {l1 : Int32} {l2 : Int32} {l3 : Int32}  : ∀ (n : Nat) {σ : zSt} {l5 : Int32}, zloop (fun (t : zSt × Int32) => b_X10_sendsAll_40 l0 l1 l2 l3 t.1 t.2) n (σ, l5) = some σ' → ∀ {H : Heap} {locs : List Loc} {ls : Array Slot}, z_Ok D cA bs s σ H locs → lv_has ls 6 [(0, .ref l0), (1, .int l1), (2, .int l2), (3, .int l3), (5, .int l5)] → W p l e (zrm 4 0 0 92) s m args below meth c H locs 0 0 (MQ below (z_Qv D cA bs σ') args s 0 0 (fun q => bs ≤ q)) (F0 m 40 ls []) := by
  intro n
  induction n with
  | zero => intro σ l5 hf; cases hf
  | succ n ih =>
    intro σ l5 hf H locs ls hW hl
    obtain ⟨o1, hb1, hf⟩ := z_lp hf
    refine tb_X10_sendsAll_40 B hb1 hW hl  (fun σ l5 he H locs ls hW hl => ?_) (fun x he => ?_)
    · rcases hf with ⟨t, ht, hf⟩ | hf
      · rw [he] at ht
        cases ht
        exact ih hf hW hl
      · rw [he] at hf
        cases hf
    · rcases hf with ⟨t, ht, hf⟩ | hf
      · rw [he] at ht
        cases ht
      · rw [he] at hf
        exact Sum.inr.inj hf
set_option maxRecDepth 100000 in
def f_X10_sendsAll_38 (σ : zSt) (l0 : Nat) (l1 : Int32) (l2 : Int32) (l3 : Int32) (s0 : Int32) : Option (zSt) :=
(f_X10_sendsAll_40 l0 l1 l2 l3 σ s0)
set_option maxRecDepth 20000 in
set_option maxHeartbeats 4000000 in
theorem t_X10_sendsAll_38 (B : z_B p s m args meth c D cA bs RX10 cX10_sendsAll 6 none)  {σ' : zSt} {σ : zSt} {l0 : Nat} {l1 : Int32} {l2 : Int32} {l3 : Int32} {s0 : Int32} (hf : f_X10_sendsAll_38 σ l0 l1 l2 l3 s0 = some σ') {H : Heap} {locs : List Loc} {ls : Array Slot} (hW : z_Ok D cA bs s σ H locs) (hl : lv_has ls 6 [(0, .ref l0), (1, .int l1), (2, .int l2), (3, .int l3)])  : W p l e (zrm 4 0 0 92) s m args below meth c H locs 0 0 (MQ below (z_Qv D cA bs σ') args s 0 0 (fun q => bs ≤ q)) (F0 m 38 ls [.int s0]) := by
  have hx := B.1
  have hb := B.2.1
  have hown := B.2.2.2.1
  have hts := B.2.2.2.2.1
  unfold f_X10_sendsAll_38 at hf
  refine lv_istore (lv' := [(5, .int s0), (0, .ref l0), (1, .int l1), (2, .int l2), (3, .int l3)]) hx hb dX10_sendsAll_38 hl (by decide) rfl (fun ls hl => ?_)
  unfold f_X10_sendsAll_40 at hf
  exact t_X10_sendsAll_40 B  zN hf hW (lv_sub hl [1, 2, 3, 4, 0] rfl)
set_option maxRecDepth 100000 in
def f_X10_sendsAll_37 (σ : zSt) (l0 : Nat) (l1 : Int32) (l2 : Int32) (l3 : Int32) : Option (zSt) :=
(f_X10_sendsAll_38 σ l0 l1 l2 l3 (0 : Int32))
set_option maxRecDepth 20000 in
set_option maxHeartbeats 4000000 in
theorem t_X10_sendsAll_37 (B : z_B p s m args meth c D cA bs RX10 cX10_sendsAll 6 none)  {σ' : zSt} {σ : zSt} {l0 : Nat} {l1 : Int32} {l2 : Int32} {l3 : Int32} (hf : f_X10_sendsAll_37 σ l0 l1 l2 l3 = some σ') {H : Heap} {locs : List Loc} {ls : Array Slot} (hW : z_Ok D cA bs s σ H locs) (hl : lv_has ls 6 [(0, .ref l0), (1, .int l1), (2, .int l2), (3, .int l3)])  : W p l e (zrm 4 0 0 92) s m args below meth c H locs 0 0 (MQ below (z_Qv D cA bs σ') args s 0 0 (fun q => bs ≤ q)) (F0 m 37 ls []) := by
  have hx := B.1
  have hb := B.2.1
  have hown := B.2.2.2.1
  have hts := B.2.2.2.2.1
  unfold f_X10_sendsAll_37 at hf
  refine lv_iconst (v := (0 : Int32)) hx hb dX10_sendsAll_37 (by decide) ?_
  exact t_X10_sendsAll_38 B hf hW hl 
set_option maxRecDepth 100000 in
def f_X10_sendsAll (σ : zSt) (l0 : Nat) (l1 : Int32) (l2 : Int32) (l3 : Int32) : Option (zSt) :=
(if z_ob σ l0 9 then (zb (f_X10_nextOf σ l0 l1 (-1 : Int32)) (fun r3 => (if r3 = (-1 : Int32) then
(f_X10_sendsAll_37 σ l0 l1 l2 l3)
else
(zb (f_X10_ofMessage σ l0 r3 (1 : Int32)) (fun r5 => (if r5 < (5 : Int32) then
(f_X10_sendsAll_37 σ l0 l1 l2 l3)
else
(zb2 (f_X10_sends σ l0 l1) (fun r7 σ8 => (if r7 = 0 then
(f_X10_sendsAll_37 σ8 l0 l1 l2 l3)
else
(f_X10_sendsAll_38 σ8 l0 l1 l2 l3 (1 : Int32))))))))))) else none)
set_option maxRecDepth 20000 in
set_option maxHeartbeats 4000000 in
theorem K_X10_sendsAll {σ : zSt} {l0 : Nat} {l1 : Int32} {l2 : Int32} {l3 : Int32}  {σ' : zSt} (hf : f_X10_sendsAll σ l0 l1 l2 l3 = some σ') : z_M l D cA bs yX10_sendsAll cX10_sendsAll 6 none 4 92 0 0 [.ref l0, .int l1, .int l2, .int l3] σ (z_Qv D cA bs σ') := by
  refine z_met (own := RX10) (lv := [(0, .ref l0), (1, .int l1), (2, .int l2), (3, .int l3)]) (by decide) rfl (Nat.le_of_ble_eq_true rfl) rfl (fun p e s m below meth c ls B hnm hW hl => ?_)
  have hx := B.1
  have hb := B.2.1
  have hown := B.2.2.2.1
  have hts := B.2.2.2.2.1
  unfold f_X10_sendsAll at hf
  refine lv_aload_n hx hb dX10_sendsAll_0 rfl (lv_at hl 0 rfl) ?_
  refine lv_iload_n hx hb dX10_sendsAll_1 rfl (lv_at hl 1 rfl) ?_
  refine lv_iconst (v := (-1 : Int32)) hx hb dX10_sendsAll_2 (by decide) ?_
  obtain ⟨hg1, hf⟩ := z_g hf
  obtain ⟨r3, hq2, hf⟩ := z_b hf
  refine z_ci hW (z_runV (As := [.int l1, .int (-1 : Int32)]) (rest := []) B hW zv_X10_86 (K_X10_nextOf hq2) hg1 rfl rfl rfl (Nat.le_of_ble_eq_true rfl) hl.1 ⟨Nat.le_of_ble_eq_true rfl, Nat.le_of_ble_eq_true rfl⟩ dX10_sendsAll_3 ⟨Nat.le_of_ble_eq_true rfl, Nat.le_of_ble_eq_true rfl⟩) (fun H locs hW => ?_)
  refine lv_istore (lv' := [(4, .int r3), (0, .ref l0), (1, .int l1), (2, .int l2), (3, .int l3)]) hx hb dX10_sendsAll_6 hl (by decide) rfl (fun ls hl => ?_)
  refine lv_iload hx hb dX10_sendsAll_8 (lv_at hl 0 rfl) ?_
  refine lv_iconst (v := (-1 : Int32)) hx hb dX10_sendsAll_10 (by decide) ?_
  refine lv_icmp_eq (tgt := 37) hx hb dX10_sendsAll_11 (by decide) (fun hc11 => ?_) (fun hc11 => ?_)
  · replace hf := z_ip hc11 hf
    exact t_X10_sendsAll_37 B hf hW (lv_sub hl [1, 2, 3, 4] rfl) 
  · replace hf := z_in hc11 hf
    refine lv_aload_n hx hb dX10_sendsAll_14 rfl (lv_at hl 1 rfl) ?_
    refine lv_iload hx hb dX10_sendsAll_15 (lv_at hl 0 rfl) ?_
    refine lv_iconst (v := (1 : Int32)) hx hb dX10_sendsAll_17 (by decide) ?_
    obtain ⟨r5, hq4, hf⟩ := z_b hf
    refine z_ci hW (z_runV (As := [.int r3, .int (1 : Int32)]) (rest := []) B hW zv_X10_80 (K_X10_ofMessage hq4) hg1 rfl rfl rfl (Nat.le_of_ble_eq_true rfl) hl.1 ⟨Nat.le_of_ble_eq_true rfl, Nat.le_of_ble_eq_true rfl⟩ dX10_sendsAll_18 ⟨Nat.le_of_ble_eq_true rfl, Nat.le_of_ble_eq_true rfl⟩) (fun H locs hW => ?_)
    refine lv_iconst (v := (5 : Int32)) hx hb dX10_sendsAll_21 (by decide) ?_
    refine lv_icmp_lt (tgt := 37) hx hb dX10_sendsAll_22 (by decide) (fun hc22 => ?_) (fun hc22 => ?_)
    · replace hf := z_ip hc22 hf
      exact t_X10_sendsAll_37 B hf hW (lv_sub hl [1, 2, 3, 4] rfl) 
    · replace hf := z_in hc22 hf
      refine lv_aload_n hx hb dX10_sendsAll_25 rfl (lv_at hl 1 rfl) ?_
      refine lv_iload_n hx hb dX10_sendsAll_26 rfl (lv_at hl 2 rfl) ?_
      obtain ⟨r7, σ8, hq6, hf⟩ := z_b2 hf
      refine z_ci hW (z_runV (As := [.int l1]) (rest := []) B hW zv_X10_92 (K_X10_sends hq6) hg1 rfl rfl rfl (Nat.le_of_ble_eq_true rfl) hl.1 ⟨Nat.le_of_ble_eq_true rfl, Nat.le_of_ble_eq_true rfl⟩ dX10_sendsAll_27 ⟨Nat.le_of_ble_eq_true rfl, Nat.le_of_ble_eq_true rfl⟩) (fun H locs hW => ?_)
      refine lv_if_eq (tgt := 37) hx hb dX10_sendsAll_30 (by decide) (fun hc30 => ?_) (fun hc30 => ?_)
      · replace hf := z_ip hc30 hf
        exact t_X10_sendsAll_37 B hf hW (lv_sub hl [1, 2, 3, 4] rfl) 
      · replace hf := z_in hc30 hf
        refine lv_iconst (v := (1 : Int32)) hx hb dX10_sendsAll_33 (by decide) ?_
        refine lv_goto (tgt := 38) hx hb dX10_sendsAll_34 (by decide) ?_
        exact t_X10_sendsAll_38 B hf hW (lv_sub hl [1, 2, 3, 4] rfl) 
set_option maxRecDepth 100000 in
def f_X10_behind_20 (σ : zSt) (s0 : Int32) : Option (Int32) :=
(some s0)
set_option maxRecDepth 20000 in
set_option maxHeartbeats 4000000 in
theorem t_X10_behind_20 (B : z_B p s m args meth c D cA bs RX10 cX10_behind 3 (some .int)) {r : Int32} {σ : zSt} {s0 : Int32} (hf : f_X10_behind_20 σ s0 = some r) {H : Heap} {locs : List Loc} {ls : Array Slot} (hW : z_Ok D cA bs s σ H locs) (hl : lv_has ls 3 [])  : W p l e (zrm 0 0 0 0) s m args below meth c H locs 0 0 (MQ below (z_Qi D cA bs r σ) args s 0 0 (fun q => bs ≤ q)) (F0 m 20 ls [.int s0]) := by
  have hx := B.1
  have hb := B.2.1
  have hown := B.2.2.2.1
  have hts := B.2.2.2.2.1
  unfold f_X10_behind_20 at hf
  obtain rfl := z_e1 hf
  exact z_ri B hW dX10_behind_20 (Nat.le_of_ble_eq_true rfl) (Nat.le_of_ble_eq_true rfl)
set_option maxRecDepth 100000 in
def f_X10_behind (σ : zSt) (l0 : Int32) (l1 : Int32) : Option (Int32) :=
(zl (((l1 - l0) + (32 : Int32)) - ((l1 - l0) + (32 : Int32)) / (32 : Int32) * (32 : Int32)) (fun x1 => (if x1 = 0 then
(f_X10_behind_20 σ (32 : Int32))
else
(f_X10_behind_20 σ x1))))
set_option maxRecDepth 20000 in
set_option maxHeartbeats 4000000 in
theorem K_X10_behind {σ : zSt} {l0 : Int32} {l1 : Int32} {r : Int32} (hf : f_X10_behind σ l0 l1 = some r) : z_M l D cA bs yX10_behind cX10_behind 3 (some .int) 0 0 0 0 [.int l0, .int l1] σ (z_Qi D cA bs r σ) := by
  refine z_met (own := RX10) (lv := [(0, .int l0), (1, .int l1)]) (by decide) rfl (Nat.le_of_ble_eq_true rfl) rfl (fun p e s m below meth c ls B hnm hW hl => ?_)
  have hx := B.1
  have hb := B.2.1
  have hown := B.2.2.2.1
  have hts := B.2.2.2.2.1
  unfold f_X10_behind at hf
  refine lv_iload_n hx hb dX10_behind_0 rfl (lv_at hl 1 rfl) ?_
  refine lv_iload_n hx hb dX10_behind_1 rfl (lv_at hl 0 rfl) ?_
  refine lv_isub hx hb dX10_behind_2 ?_
  refine lv_bipush (v := (32 : Int32)) hx hb dX10_behind_3 (by decide) ?_
  refine lv_iadd hx hb dX10_behind_5 ?_
  refine lv_bipush (v := (32 : Int32)) hx hb dX10_behind_6 (by decide) ?_
  refine lv_irem hx hb dX10_behind_8 (by decide) ?_
  obtain ⟨x1, hx2, hf⟩ := z_l hf
  rw [hx2]
  refine lv_istore_n (lv' := [(2, .int x1), (0, .int l0), (1, .int l1)]) hx hb dX10_behind_9 rfl hl (by decide) rfl (fun ls hl => ?_)
  refine lv_iload_n hx hb dX10_behind_10 rfl (lv_at hl 0 rfl) ?_
  refine lv_if_ne (tgt := 19) hx hb dX10_behind_11 (by decide) (fun hc11 => ?_) (fun hc11 => ?_)
  · replace hf := z_in hc11 hf
    refine lv_iload_n hx hb dX10_behind_19 rfl (lv_at hl 0 rfl) ?_
    exact t_X10_behind_20 B hf hW (lv_sub hl [] rfl) 
  · replace hf := z_ip hc11 hf
    refine lv_bipush (v := (32 : Int32)) hx hb dX10_behind_14 (by decide) ?_
    refine lv_goto (tgt := 20) hx hb dX10_behind_16 (by decide) ?_
    exact t_X10_behind_20 B hf hW (lv_sub hl [] rfl) 
set_option maxRecDepth 100000 in
def f_X10_polls_33 (σ : zSt) : Option (zSt) :=
(some σ)
set_option maxRecDepth 20000 in
set_option maxHeartbeats 4000000 in
theorem t_X10_polls_33 (B : z_B p s m args meth c D cA bs RX10 cX10_polls 6 none)  {σ' : zSt} {σ : zSt} (hf : f_X10_polls_33 σ = some σ') {H : Heap} {locs : List Loc} {ls : Array Slot} (hW : z_Ok D cA bs s σ H locs) (hl : lv_has ls 6 [])  : W p l e (zrm 2 0 0 46) s m args below meth c H locs 0 0 (MQ below (z_Qv D cA bs σ') args s 0 0 (fun q => bs ≤ q)) (F0 m 33 ls []) := by
  have hx := B.1
  have hb := B.2.1
  have hown := B.2.2.2.1
  have hts := B.2.2.2.2.1
  unfold f_X10_polls_33 at hf
  obtain rfl := z_e1 hf
  exact z_rv B hW dX10_polls_33 (Nat.le_of_ble_eq_true rfl) (Nat.le_of_ble_eq_true rfl)
set_option maxRecDepth 100000 in
def f_X10_polls_216 (σ : zSt) : Option (zSt) :=
(some σ)
set_option maxRecDepth 20000 in
set_option maxHeartbeats 4000000 in
theorem t_X10_polls_216 (B : z_B p s m args meth c D cA bs RX10 cX10_polls 6 none)  {σ' : zSt} {σ : zSt} (hf : f_X10_polls_216 σ = some σ') {H : Heap} {locs : List Loc} {ls : Array Slot} (hW : z_Ok D cA bs s σ H locs) (hl : lv_has ls 6 [])  : W p l e (zrm 2 0 0 46) s m args below meth c H locs 0 0 (MQ below (z_Qv D cA bs σ') args s 0 0 (fun q => bs ≤ q)) (F0 m 216 ls []) := by
  have hx := B.1
  have hb := B.2.1
  have hown := B.2.2.2.1
  have hts := B.2.2.2.2.1
  unfold f_X10_polls_216 at hf
  obtain rfl := z_e1 hf
  exact z_rv B hW dX10_polls_216 (Nat.le_of_ble_eq_true rfl) (Nat.le_of_ble_eq_true rfl)
set_option maxRecDepth 100000 in
def f_X10_polls_131 (σ : zSt) (l0 : Nat) (l1 : Int32) (l3 : Int32) (s0 : Int32) : Option (zSt) :=
(if s0 = 0 then
(if z_ob σ l0 9 then (zc (z_R σ l0 0) none (fun q2 => (if z_ar σ q2 0 then (if z_ix (3 : Int32) (z_ln σ q2) then (zc (z_R σ l0 0) none (fun q6 => (if z_ar σ q6 0 then (if z_ix (1 : Int32) (z_ln σ q6) then (zl (z_pI σ q2 (3 : Int32).toNatClampNeg ((z_I σ q2 (3 : Int32).toNatClampNeg) + (z_I σ q6 (1 : Int32).toNatClampNeg))) (fun σ10 => (f_X10_polls_216 σ10))) else none) else none))) else none) else none))) else none)
else
(if z_ob σ l0 9 then (zc (z_R σ l0 0) none (fun q13 => (zb (f_X10_at σ l3 (2 : Int32)) (fun r16 => (if z_ar σ q13 0 then (if z_ix r16 (z_ln σ q13) then (zl (z_pI σ q13 r16.toNatClampNeg (1 : Int32)) (fun σ19 => (if z_ob σ19 l0 9 then (zc (z_R σ19 l0 0) none (fun q22 => (zb (f_X10_at σ19 l3 (3 : Int32)) (fun r25 => (zb (f_X10_of σ19 l0 l1 (3 : Int32)) (fun r27 => (if z_ar σ19 q22 0 then (if z_ix r25 (z_ln σ19 q22) then (zl (z_pI σ19 q22 r25.toNatClampNeg r27) (fun σ30 => (if z_ob σ30 l0 9 then (zc (z_R σ30 l0 0) none (fun q33 => (zb (f_X10_at σ30 l3 (4 : Int32)) (fun r36 => (if z_ar σ30 q33 0 then (if z_ix r36 (z_ln σ30 q33) then (zl (z_pI σ30 q33 r36.toNatClampNeg l3) (fun σ39 => (if z_ob σ39 l0 9 then (zc (z_R σ39 l0 0) none (fun q42 => (zb (f_X10_at σ39 l1 (3 : Int32)) (fun r45 => (if z_ar σ39 q42 0 then (if z_ix r45 (z_ln σ39 q42) then (zl (z_pI σ39 q42 r45.toNatClampNeg l3) (fun σ48 => (if z_ob σ48 l0 9 then (zc (z_R σ48 l0 0) none (fun q51 => (if z_ar σ48 q51 0 then (if z_ix (13 : Int32) (z_ln σ48 q51) then (zl (z_pI σ48 q51 (13 : Int32).toNatClampNeg ((z_I σ48 q51 (13 : Int32).toNatClampNeg) + (1 : Int32))) (fun σ55 => (f_X10_polls_216 σ55))) else none) else none))) else none))) else none) else none))))) else none))) else none) else none))))) else none))) else none) else none))))))) else none))) else none) else none))))) else none))
set_option maxRecDepth 20000 in
set_option maxHeartbeats 4000000 in
theorem t_X10_polls_131 (B : z_B p s m args meth c D cA bs RX10 cX10_polls 6 none)  {σ' : zSt} {σ : zSt} {l0 : Nat} {l1 : Int32} {l3 : Int32} {s0 : Int32} (hf : f_X10_polls_131 σ l0 l1 l3 s0 = some σ') {H : Heap} {locs : List Loc} {ls : Array Slot} (hW : z_Ok D cA bs s σ H locs) (hl : lv_has ls 6 [(0, .ref l0), (1, .int l1), (3, .int l3)])  : W p l e (zrm 2 0 0 46) s m args below meth c H locs 0 0 (MQ below (z_Qv D cA bs σ') args s 0 0 (fun q => bs ≤ q)) (F0 m 131 ls [.int s0]) := by
  have hx := B.1
  have hb := B.2.1
  have hown := B.2.2.2.1
  have hts := B.2.2.2.2.1
  unfold f_X10_polls_131 at hf
  refine lv_istore (lv' := [(5, .int s0), (0, .ref l0), (1, .int l1), (3, .int l3)]) hx hb dX10_polls_131 hl (by decide) rfl (fun ls hl => ?_)
  refine lv_iload hx hb dX10_polls_133 (lv_at hl 0 rfl) ?_
  refine lv_if_eq (tgt := 201) hx hb dX10_polls_135 (by decide) (fun hc135 => ?_) (fun hc135 => ?_)
  · replace hf := z_ip hc135 hf
    refine lv_aload_n hx hb dX10_polls_201 rfl (lv_at hl 1 rfl) ?_
    obtain ⟨hg1, hf⟩ := z_g hf
    obtain ⟨q2, hv3, hf⟩ := z_nn hf
    refine z_getN B hW (Or.inr zf_X10_7) rfl hg1 hv3 dX10_polls_202 ?_
    refine lv_iconst (v := (3 : Int32)) hx hb dX10_polls_205 (by decide) ?_
    refine lv_dup2_11 hx hb dX10_polls_206 rfl rfl ?_
    obtain ⟨hg4, hf⟩ := z_g hf
    obtain ⟨hg5, hf⟩ := z_g hf
    refine z_ald B hW hg4 hg5 dX10_polls_207 ?_
    refine lv_aload_n hx hb dX10_polls_208 rfl (lv_at hl 1 rfl) ?_
    obtain ⟨q6, hv7, hf⟩ := z_nn hf
    refine z_getN B hW (Or.inr zf_X10_7) rfl hg1 hv7 dX10_polls_209 ?_
    refine lv_iconst (v := (1 : Int32)) hx hb dX10_polls_212 (by decide) ?_
    obtain ⟨hg8, hf⟩ := z_g hf
    obtain ⟨hg9, hf⟩ := z_g hf
    refine z_ald B hW hg8 hg9 dX10_polls_213 ?_
    refine lv_iadd hx hb dX10_polls_214 ?_
    obtain ⟨σ10, hs11, hf⟩ := z_l hf
    refine z_ast B hW hg4 hg5 hs11 dX10_polls_215 (fun H locs hW => ?_)
    exact t_X10_polls_216 B hf hW (lv_sub hl [] rfl) 
  · replace hf := z_in hc135 hf
    refine lv_aload_n hx hb dX10_polls_138 rfl (lv_at hl 1 rfl) ?_
    obtain ⟨hg12, hf⟩ := z_g hf
    obtain ⟨q13, hv14, hf⟩ := z_nn hf
    refine z_getN B hW (Or.inr zf_X10_7) rfl hg12 hv14 dX10_polls_139 ?_
    refine lv_iload_n hx hb dX10_polls_142 rfl (lv_at hl 3 rfl) ?_
    refine lv_iconst (v := (2 : Int32)) hx hb dX10_polls_143 (by decide) ?_
    obtain ⟨r16, hq15, hf⟩ := z_b hf
    refine z_ci hW (z_runS (As := [.int l3, .int (2 : Int32)]) (rest := [.ref q13]) B hW zv_X10_29 (K_X10_at hq15) rfl rfl (Nat.le_of_ble_eq_true rfl) hl.1 ⟨Nat.le_of_ble_eq_true rfl, Nat.le_of_ble_eq_true rfl⟩ dX10_polls_144 ⟨Nat.le_of_ble_eq_true rfl, Nat.le_of_ble_eq_true rfl⟩) (fun H locs hW => ?_)
    refine lv_iconst (v := (1 : Int32)) hx hb dX10_polls_147 (by decide) ?_
    obtain ⟨hg17, hf⟩ := z_g hf
    obtain ⟨hg18, hf⟩ := z_g hf
    obtain ⟨σ19, hs20, hf⟩ := z_l hf
    refine z_ast B hW hg17 hg18 hs20 dX10_polls_148 (fun H locs hW => ?_)
    refine lv_aload_n hx hb dX10_polls_149 rfl (lv_at hl 1 rfl) ?_
    obtain ⟨hg21, hf⟩ := z_g hf
    obtain ⟨q22, hv23, hf⟩ := z_nn hf
    refine z_getN B hW (Or.inr zf_X10_7) rfl hg21 hv23 dX10_polls_150 ?_
    refine lv_iload_n hx hb dX10_polls_153 rfl (lv_at hl 3 rfl) ?_
    refine lv_iconst (v := (3 : Int32)) hx hb dX10_polls_154 (by decide) ?_
    obtain ⟨r25, hq24, hf⟩ := z_b hf
    refine z_ci hW (z_runS (As := [.int l3, .int (3 : Int32)]) (rest := [.ref q22]) B hW zv_X10_29 (K_X10_at hq24) rfl rfl (Nat.le_of_ble_eq_true rfl) hl.1 ⟨Nat.le_of_ble_eq_true rfl, Nat.le_of_ble_eq_true rfl⟩ dX10_polls_155 ⟨Nat.le_of_ble_eq_true rfl, Nat.le_of_ble_eq_true rfl⟩) (fun H locs hW => ?_)
    refine lv_aload_n hx hb dX10_polls_158 rfl (lv_at hl 1 rfl) ?_
    refine lv_iload_n hx hb dX10_polls_159 rfl (lv_at hl 2 rfl) ?_
    refine lv_iconst (v := (3 : Int32)) hx hb dX10_polls_160 (by decide) ?_
    obtain ⟨r27, hq26, hf⟩ := z_b hf
    refine z_ci hW (z_runV (As := [.int l1, .int (3 : Int32)]) (rest := [.int r25, .ref q22]) B hW zv_X10_39 (K_X10_of hq26) hg21 rfl rfl rfl (Nat.le_of_ble_eq_true rfl) hl.1 ⟨Nat.le_of_ble_eq_true rfl, Nat.le_of_ble_eq_true rfl⟩ dX10_polls_161 ⟨Nat.le_of_ble_eq_true rfl, Nat.le_of_ble_eq_true rfl⟩) (fun H locs hW => ?_)
    obtain ⟨hg28, hf⟩ := z_g hf
    obtain ⟨hg29, hf⟩ := z_g hf
    obtain ⟨σ30, hs31, hf⟩ := z_l hf
    refine z_ast B hW hg28 hg29 hs31 dX10_polls_164 (fun H locs hW => ?_)
    refine lv_aload_n hx hb dX10_polls_165 rfl (lv_at hl 1 rfl) ?_
    obtain ⟨hg32, hf⟩ := z_g hf
    obtain ⟨q33, hv34, hf⟩ := z_nn hf
    refine z_getN B hW (Or.inr zf_X10_7) rfl hg32 hv34 dX10_polls_166 ?_
    refine lv_iload_n hx hb dX10_polls_169 rfl (lv_at hl 3 rfl) ?_
    refine lv_iconst (v := (4 : Int32)) hx hb dX10_polls_170 (by decide) ?_
    obtain ⟨r36, hq35, hf⟩ := z_b hf
    refine z_ci hW (z_runS (As := [.int l3, .int (4 : Int32)]) (rest := [.ref q33]) B hW zv_X10_29 (K_X10_at hq35) rfl rfl (Nat.le_of_ble_eq_true rfl) hl.1 ⟨Nat.le_of_ble_eq_true rfl, Nat.le_of_ble_eq_true rfl⟩ dX10_polls_171 ⟨Nat.le_of_ble_eq_true rfl, Nat.le_of_ble_eq_true rfl⟩) (fun H locs hW => ?_)
    refine lv_iload_n hx hb dX10_polls_174 rfl (lv_at hl 3 rfl) ?_
    obtain ⟨hg37, hf⟩ := z_g hf
    obtain ⟨hg38, hf⟩ := z_g hf
    obtain ⟨σ39, hs40, hf⟩ := z_l hf
    refine z_ast B hW hg37 hg38 hs40 dX10_polls_175 (fun H locs hW => ?_)
    refine lv_aload_n hx hb dX10_polls_176 rfl (lv_at hl 1 rfl) ?_
    obtain ⟨hg41, hf⟩ := z_g hf
    obtain ⟨q42, hv43, hf⟩ := z_nn hf
    refine z_getN B hW (Or.inr zf_X10_7) rfl hg41 hv43 dX10_polls_177 ?_
    refine lv_iload_n hx hb dX10_polls_180 rfl (lv_at hl 2 rfl) ?_
    refine lv_iconst (v := (3 : Int32)) hx hb dX10_polls_181 (by decide) ?_
    obtain ⟨r45, hq44, hf⟩ := z_b hf
    refine z_ci hW (z_runS (As := [.int l1, .int (3 : Int32)]) (rest := [.ref q42]) B hW zv_X10_29 (K_X10_at hq44) rfl rfl (Nat.le_of_ble_eq_true rfl) hl.1 ⟨Nat.le_of_ble_eq_true rfl, Nat.le_of_ble_eq_true rfl⟩ dX10_polls_182 ⟨Nat.le_of_ble_eq_true rfl, Nat.le_of_ble_eq_true rfl⟩) (fun H locs hW => ?_)
    refine lv_iload_n hx hb dX10_polls_185 rfl (lv_at hl 3 rfl) ?_
    obtain ⟨hg46, hf⟩ := z_g hf
    obtain ⟨hg47, hf⟩ := z_g hf
    obtain ⟨σ48, hs49, hf⟩ := z_l hf
    refine z_ast B hW hg46 hg47 hs49 dX10_polls_186 (fun H locs hW => ?_)
    refine lv_aload_n hx hb dX10_polls_187 rfl (lv_at hl 1 rfl) ?_
    obtain ⟨hg50, hf⟩ := z_g hf
    obtain ⟨q51, hv52, hf⟩ := z_nn hf
    refine z_getN B hW (Or.inr zf_X10_7) rfl hg50 hv52 dX10_polls_188 ?_
    refine lv_bipush (v := (13 : Int32)) hx hb dX10_polls_191 (by decide) ?_
    refine lv_dup2_11 hx hb dX10_polls_193 rfl rfl ?_
    obtain ⟨hg53, hf⟩ := z_g hf
    obtain ⟨hg54, hf⟩ := z_g hf
    refine z_ald B hW hg53 hg54 dX10_polls_194 ?_
    refine lv_iconst (v := (1 : Int32)) hx hb dX10_polls_195 (by decide) ?_
    refine lv_iadd hx hb dX10_polls_196 ?_
    obtain ⟨σ55, hs56, hf⟩ := z_l hf
    refine z_ast B hW hg53 hg54 hs56 dX10_polls_197 (fun H locs hW => ?_)
    refine lv_goto (tgt := 216) hx hb dX10_polls_198 (by decide) ?_
    exact t_X10_polls_216 B hf hW (lv_sub hl [] rfl) 
set_option maxRecDepth 100000 in
def f_X10_polls_130 (σ : zSt) (l0 : Nat) (l1 : Int32) (l3 : Int32) : Option (zSt) :=
(f_X10_polls_131 σ l0 l1 l3 (0 : Int32))
set_option maxRecDepth 20000 in
set_option maxHeartbeats 4000000 in
theorem t_X10_polls_130 (B : z_B p s m args meth c D cA bs RX10 cX10_polls 6 none)  {σ' : zSt} {σ : zSt} {l0 : Nat} {l1 : Int32} {l3 : Int32} (hf : f_X10_polls_130 σ l0 l1 l3 = some σ') {H : Heap} {locs : List Loc} {ls : Array Slot} (hW : z_Ok D cA bs s σ H locs) (hl : lv_has ls 6 [(0, .ref l0), (1, .int l1), (3, .int l3)])  : W p l e (zrm 2 0 0 46) s m args below meth c H locs 0 0 (MQ below (z_Qv D cA bs σ') args s 0 0 (fun q => bs ≤ q)) (F0 m 130 ls []) := by
  have hx := B.1
  have hb := B.2.1
  have hown := B.2.2.2.1
  have hts := B.2.2.2.2.1
  unfold f_X10_polls_130 at hf
  refine lv_iconst (v := (0 : Int32)) hx hb dX10_polls_130 (by decide) ?_
  exact t_X10_polls_131 B hf hW hl 
set_option maxRecDepth 100000 in
def f_X10_polls_65 (σ : zSt) (l0 : Nat) (l1 : Int32) (s0 : Int32) : Option (zSt) :=
(if z_ob σ l0 9 then (zc (z_R σ l0 0) none (fun q2 => (zb (f_X10_at σ l1 (4 : Int32)) (fun r5 => (if z_ar σ q2 0 then (if z_ix r5 (z_ln σ q2) then (zl (z_pI σ q2 r5.toNatClampNeg s0) (fun σ8 => (if z_ob σ8 l0 9 then (zb2 (f_X10_takes σ8 l0 (1 : Int32)) (fun r12 σ13 => (if r12 = 0 then
(if z_ob σ13 l0 9 then (zb (f_X10_of σ13 l0 s0 (0 : Int32)) (fun r16 => (if r16 = (1 : Int32) then
(zb (f_X10_of σ13 l0 s0 (1 : Int32)) (fun r18 => (if r18 = (1 : Int32) then
(zb (f_X10_of σ13 l0 s0 (2 : Int32)) (fun r20 => (if r20 = 0 then
(zb2 (f_X10_takes σ13 l0 (1 : Int32)) (fun r22 σ23 => (if r22 = 0 then
(f_X10_polls_131 σ23 l0 l1 s0 (1 : Int32))
else
(f_X10_polls_130 σ23 l0 l1 s0))))
else
(f_X10_polls_130 σ13 l0 l1 s0))))
else
(f_X10_polls_130 σ13 l0 l1 s0))))
else
(f_X10_polls_130 σ13 l0 l1 s0)))) else none)
else
(f_X10_polls_130 σ13 l0 l1 s0)))) else none))) else none) else none))))) else none)
set_option maxRecDepth 20000 in
set_option maxHeartbeats 4000000 in
theorem t_X10_polls_65 (B : z_B p s m args meth c D cA bs RX10 cX10_polls 6 none)  {σ' : zSt} {σ : zSt} {l0 : Nat} {l1 : Int32} {s0 : Int32} (hf : f_X10_polls_65 σ l0 l1 s0 = some σ') {H : Heap} {locs : List Loc} {ls : Array Slot} (hW : z_Ok D cA bs s σ H locs) (hl : lv_has ls 6 [(0, .ref l0), (1, .int l1)])  : W p l e (zrm 2 0 0 46) s m args below meth c H locs 0 0 (MQ below (z_Qv D cA bs σ') args s 0 0 (fun q => bs ≤ q)) (F0 m 65 ls [.int s0]) := by
  have hx := B.1
  have hb := B.2.1
  have hown := B.2.2.2.1
  have hts := B.2.2.2.2.1
  unfold f_X10_polls_65 at hf
  refine lv_istore_n (lv' := [(3, .int s0), (0, .ref l0), (1, .int l1)]) hx hb dX10_polls_65 rfl hl (by decide) rfl (fun ls hl => ?_)
  refine lv_aload_n hx hb dX10_polls_66 rfl (lv_at hl 1 rfl) ?_
  obtain ⟨hg1, hf⟩ := z_g hf
  obtain ⟨q2, hv3, hf⟩ := z_nn hf
  refine z_getN B hW (Or.inr zf_X10_7) rfl hg1 hv3 dX10_polls_67 ?_
  refine lv_iload_n hx hb dX10_polls_70 rfl (lv_at hl 2 rfl) ?_
  refine lv_iconst (v := (4 : Int32)) hx hb dX10_polls_71 (by decide) ?_
  obtain ⟨r5, hq4, hf⟩ := z_b hf
  refine z_ci hW (z_runS (As := [.int l1, .int (4 : Int32)]) (rest := [.ref q2]) B hW zv_X10_29 (K_X10_at hq4) rfl rfl (Nat.le_of_ble_eq_true rfl) hl.1 ⟨Nat.le_of_ble_eq_true rfl, Nat.le_of_ble_eq_true rfl⟩ dX10_polls_72 ⟨Nat.le_of_ble_eq_true rfl, Nat.le_of_ble_eq_true rfl⟩) (fun H locs hW => ?_)
  refine lv_iload_n hx hb dX10_polls_75 rfl (lv_at hl 0 rfl) ?_
  obtain ⟨hg6, hf⟩ := z_g hf
  obtain ⟨hg7, hf⟩ := z_g hf
  obtain ⟨σ8, hs9, hf⟩ := z_l hf
  refine z_ast B hW hg6 hg7 hs9 dX10_polls_76 (fun H locs hW => ?_)
  refine lv_aload_n hx hb dX10_polls_77 rfl (lv_at hl 1 rfl) ?_
  refine lv_iconst (v := (1 : Int32)) hx hb dX10_polls_78 (by decide) ?_
  obtain ⟨hg10, hf⟩ := z_g hf
  obtain ⟨r12, σ13, hq11, hf⟩ := z_b2 hf
  refine z_ci hW (z_runV (As := [.int (1 : Int32)]) (rest := []) B hW zv_X10_89 (K_X10_takes hq11) hg10 rfl rfl rfl (Nat.le_of_ble_eq_true rfl) hl.1 ⟨Nat.le_of_ble_eq_true rfl, Nat.le_of_ble_eq_true rfl⟩ dX10_polls_79 ⟨Nat.le_of_ble_eq_true rfl, Nat.le_of_ble_eq_true rfl⟩) (fun H locs hW => ?_)
  refine lv_istore (lv' := [(4, .int r12), (3, .int s0), (0, .ref l0), (1, .int l1)]) hx hb dX10_polls_82 hl (by decide) rfl (fun ls hl => ?_)
  refine lv_iload hx hb dX10_polls_84 (lv_at hl 0 rfl) ?_
  refine lv_if_ne (tgt := 130) hx hb dX10_polls_86 (by decide) (fun hc86 => ?_) (fun hc86 => ?_)
  · replace hf := z_in hc86 hf
    exact t_X10_polls_130 B hf hW (lv_sub hl [2, 3, 1] rfl) 
  · replace hf := z_ip hc86 hf
    refine lv_aload_n hx hb dX10_polls_89 rfl (lv_at hl 2 rfl) ?_
    refine lv_iload_n hx hb dX10_polls_90 rfl (lv_at hl 1 rfl) ?_
    refine lv_iconst (v := (0 : Int32)) hx hb dX10_polls_91 (by decide) ?_
    obtain ⟨hg14, hf⟩ := z_g hf
    obtain ⟨r16, hq15, hf⟩ := z_b hf
    refine z_ci hW (z_runV (As := [.int s0, .int (0 : Int32)]) (rest := []) B hW zv_X10_39 (K_X10_of hq15) hg14 rfl rfl rfl (Nat.le_of_ble_eq_true rfl) hl.1 ⟨Nat.le_of_ble_eq_true rfl, Nat.le_of_ble_eq_true rfl⟩ dX10_polls_92 ⟨Nat.le_of_ble_eq_true rfl, Nat.le_of_ble_eq_true rfl⟩) (fun H locs hW => ?_)
    refine lv_iconst (v := (1 : Int32)) hx hb dX10_polls_95 (by decide) ?_
    refine lv_icmp_ne (tgt := 130) hx hb dX10_polls_96 (by decide) (fun hc96 => ?_) (fun hc96 => ?_)
    · replace hf := z_in hc96 hf
      exact t_X10_polls_130 B hf hW (lv_sub hl [2, 3, 1] rfl) 
    · replace hf := z_ip hc96 hf
      refine lv_aload_n hx hb dX10_polls_99 rfl (lv_at hl 2 rfl) ?_
      refine lv_iload_n hx hb dX10_polls_100 rfl (lv_at hl 1 rfl) ?_
      refine lv_iconst (v := (1 : Int32)) hx hb dX10_polls_101 (by decide) ?_
      obtain ⟨r18, hq17, hf⟩ := z_b hf
      refine z_ci hW (z_runV (As := [.int s0, .int (1 : Int32)]) (rest := []) B hW zv_X10_39 (K_X10_of hq17) hg14 rfl rfl rfl (Nat.le_of_ble_eq_true rfl) hl.1 ⟨Nat.le_of_ble_eq_true rfl, Nat.le_of_ble_eq_true rfl⟩ dX10_polls_102 ⟨Nat.le_of_ble_eq_true rfl, Nat.le_of_ble_eq_true rfl⟩) (fun H locs hW => ?_)
      refine lv_iconst (v := (1 : Int32)) hx hb dX10_polls_105 (by decide) ?_
      refine lv_icmp_ne (tgt := 130) hx hb dX10_polls_106 (by decide) (fun hc106 => ?_) (fun hc106 => ?_)
      · replace hf := z_in hc106 hf
        exact t_X10_polls_130 B hf hW (lv_sub hl [2, 3, 1] rfl) 
      · replace hf := z_ip hc106 hf
        refine lv_aload_n hx hb dX10_polls_109 rfl (lv_at hl 2 rfl) ?_
        refine lv_iload_n hx hb dX10_polls_110 rfl (lv_at hl 1 rfl) ?_
        refine lv_iconst (v := (2 : Int32)) hx hb dX10_polls_111 (by decide) ?_
        obtain ⟨r20, hq19, hf⟩ := z_b hf
        refine z_ci hW (z_runV (As := [.int s0, .int (2 : Int32)]) (rest := []) B hW zv_X10_39 (K_X10_of hq19) hg14 rfl rfl rfl (Nat.le_of_ble_eq_true rfl) hl.1 ⟨Nat.le_of_ble_eq_true rfl, Nat.le_of_ble_eq_true rfl⟩ dX10_polls_112 ⟨Nat.le_of_ble_eq_true rfl, Nat.le_of_ble_eq_true rfl⟩) (fun H locs hW => ?_)
        refine lv_if_ne (tgt := 130) hx hb dX10_polls_115 (by decide) (fun hc115 => ?_) (fun hc115 => ?_)
        · replace hf := z_in hc115 hf
          exact t_X10_polls_130 B hf hW (lv_sub hl [2, 3, 1] rfl) 
        · replace hf := z_ip hc115 hf
          refine lv_aload_n hx hb dX10_polls_118 rfl (lv_at hl 2 rfl) ?_
          refine lv_iconst (v := (1 : Int32)) hx hb dX10_polls_119 (by decide) ?_
          obtain ⟨r22, σ23, hq21, hf⟩ := z_b2 hf
          refine z_ci hW (z_runV (As := [.int (1 : Int32)]) (rest := []) B hW zv_X10_89 (K_X10_takes hq21) hg14 rfl rfl rfl (Nat.le_of_ble_eq_true rfl) hl.1 ⟨Nat.le_of_ble_eq_true rfl, Nat.le_of_ble_eq_true rfl⟩ dX10_polls_120 ⟨Nat.le_of_ble_eq_true rfl, Nat.le_of_ble_eq_true rfl⟩) (fun H locs hW => ?_)
          refine lv_if_ne (tgt := 130) hx hb dX10_polls_123 (by decide) (fun hc123 => ?_) (fun hc123 => ?_)
          · replace hf := z_in hc123 hf
            exact t_X10_polls_130 B hf hW (lv_sub hl [2, 3, 1] rfl) 
          · replace hf := z_ip hc123 hf
            refine lv_iconst (v := (1 : Int32)) hx hb dX10_polls_126 (by decide) ?_
            refine lv_goto (tgt := 131) hx hb dX10_polls_127 (by decide) ?_
            exact t_X10_polls_131 B hf hW (lv_sub hl [2, 3, 1] rfl) 
set_option maxRecDepth 100000 in
def f_X10_polls (σ : zSt) (l0 : Nat) (l1 : Int32) : Option (zSt) :=
(if z_ob σ l0 9 then (zb (f_X10_of σ l0 l1 (3 : Int32)) (fun r3 => (zb (f_X10_behind σ l1 r3) (fun r5 => (zl (r5 - (1 : Int32)) (fun x6 => (zb (f_X10_of σ l0 l1 (5 : Int32)) (fun r9 => (zc (z_R σ l0 0) none (fun q10 => (if z_ar σ q10 0 then (if z_ix (2 : Int32) (z_ln σ q10) then (if ¬ (z_I σ q10 (2 : Int32).toNatClampNeg) = 0 then (if (r9 - r9 / (z_I σ q10 (2 : Int32).toNatClampNeg) * (z_I σ q10 (2 : Int32).toNatClampNeg)) = 0 then
(if x6 = 0 then
(f_X10_polls_33 σ)
else
(zb (f_X10_of σ l0 l1 (4 : Int32)) (fun r16 => (zl ((r16 + (1 : Int32)) - (r16 + (1 : Int32)) / (32 : Int32) * (32 : Int32)) (fun x17 => (zb (f_X10_behind σ l1 x17) (fun r20 => (if x6 < r20 then
(f_X10_polls_65 σ l0 l1 ((l1 + (1 : Int32)) - (l1 + (1 : Int32)) / (32 : Int32) * (32 : Int32)))
else
(f_X10_polls_65 σ l0 l1 x17)))))))))
else
(f_X10_polls_33 σ)) else none) else none) else none))))))))))) else none)
set_option maxRecDepth 20000 in
set_option maxHeartbeats 4000000 in
theorem K_X10_polls {σ : zSt} {l0 : Nat} {l1 : Int32}  {σ' : zSt} (hf : f_X10_polls σ l0 l1 = some σ') : z_M l D cA bs yX10_polls cX10_polls 6 none 2 46 0 0 [.ref l0, .int l1] σ (z_Qv D cA bs σ') := by
  refine z_met (own := RX10) (lv := [(0, .ref l0), (1, .int l1)]) (by decide) rfl (Nat.le_of_ble_eq_true rfl) rfl (fun p e s m below meth c ls B hnm hW hl => ?_)
  have hx := B.1
  have hb := B.2.1
  have hown := B.2.2.2.1
  have hts := B.2.2.2.2.1
  unfold f_X10_polls at hf
  refine lv_iload_n hx hb dX10_polls_0 rfl (lv_at hl 1 rfl) ?_
  refine lv_aload_n hx hb dX10_polls_1 rfl (lv_at hl 0 rfl) ?_
  refine lv_iload_n hx hb dX10_polls_2 rfl (lv_at hl 1 rfl) ?_
  refine lv_iconst (v := (3 : Int32)) hx hb dX10_polls_3 (by decide) ?_
  obtain ⟨hg1, hf⟩ := z_g hf
  obtain ⟨r3, hq2, hf⟩ := z_b hf
  refine z_ci hW (z_runV (As := [.int l1, .int (3 : Int32)]) (rest := [.int l1]) B hW zv_X10_39 (K_X10_of hq2) hg1 rfl rfl rfl (Nat.le_of_ble_eq_true rfl) hl.1 ⟨Nat.le_of_ble_eq_true rfl, Nat.le_of_ble_eq_true rfl⟩ dX10_polls_4 ⟨Nat.le_of_ble_eq_true rfl, Nat.le_of_ble_eq_true rfl⟩) (fun H locs hW => ?_)
  obtain ⟨r5, hq4, hf⟩ := z_b hf
  refine z_ci hW (z_runS (As := [.int l1, .int r3]) (rest := []) B hW zv_X10_95 (K_X10_behind hq4) rfl rfl (Nat.le_of_ble_eq_true rfl) hl.1 ⟨Nat.le_of_ble_eq_true rfl, Nat.le_of_ble_eq_true rfl⟩ dX10_polls_7 ⟨Nat.le_of_ble_eq_true rfl, Nat.le_of_ble_eq_true rfl⟩) (fun H locs hW => ?_)
  refine lv_iconst (v := (1 : Int32)) hx hb dX10_polls_10 (by decide) ?_
  refine lv_isub hx hb dX10_polls_11 ?_
  obtain ⟨x6, hx7, hf⟩ := z_l hf
  rw [hx7]
  refine lv_istore_n (lv' := [(2, .int x6), (0, .ref l0), (1, .int l1)]) hx hb dX10_polls_12 rfl hl (by decide) rfl (fun ls hl => ?_)
  refine lv_aload_n hx hb dX10_polls_13 rfl (lv_at hl 1 rfl) ?_
  refine lv_iload_n hx hb dX10_polls_14 rfl (lv_at hl 2 rfl) ?_
  refine lv_iconst (v := (5 : Int32)) hx hb dX10_polls_15 (by decide) ?_
  obtain ⟨r9, hq8, hf⟩ := z_b hf
  refine z_ci hW (z_runV (As := [.int l1, .int (5 : Int32)]) (rest := []) B hW zv_X10_39 (K_X10_of hq8) hg1 rfl rfl rfl (Nat.le_of_ble_eq_true rfl) hl.1 ⟨Nat.le_of_ble_eq_true rfl, Nat.le_of_ble_eq_true rfl⟩ dX10_polls_16 ⟨Nat.le_of_ble_eq_true rfl, Nat.le_of_ble_eq_true rfl⟩) (fun H locs hW => ?_)
  refine lv_aload_n hx hb dX10_polls_19 rfl (lv_at hl 1 rfl) ?_
  obtain ⟨q10, hv11, hf⟩ := z_nn hf
  refine z_getN B hW (Or.inr zf_X10_7) rfl hg1 hv11 dX10_polls_20 ?_
  refine lv_iconst (v := (2 : Int32)) hx hb dX10_polls_23 (by decide) ?_
  obtain ⟨hg12, hf⟩ := z_g hf
  obtain ⟨hg13, hf⟩ := z_g hf
  refine z_ald B hW hg12 hg13 dX10_polls_24 ?_
  obtain ⟨hg14, hf⟩ := z_gp hf
  refine lv_irem hx hb dX10_polls_25 hg14 ?_
  refine lv_if_ne (tgt := 33) hx hb dX10_polls_26 (by decide) (fun hc26 => ?_) (fun hc26 => ?_)
  · replace hf := z_in hc26 hf
    exact t_X10_polls_33 B hf hW (lv_sub hl [] rfl) 
  · replace hf := z_ip hc26 hf
    refine lv_iload_n hx hb dX10_polls_29 rfl (lv_at hl 0 rfl) ?_
    refine lv_if_ne (tgt := 34) hx hb dX10_polls_30 (by decide) (fun hc30 => ?_) (fun hc30 => ?_)
    · replace hf := z_in hc30 hf
      refine lv_aload_n hx hb dX10_polls_34 rfl (lv_at hl 1 rfl) ?_
      refine lv_iload_n hx hb dX10_polls_35 rfl (lv_at hl 2 rfl) ?_
      refine lv_iconst (v := (4 : Int32)) hx hb dX10_polls_36 (by decide) ?_
      obtain ⟨r16, hq15, hf⟩ := z_b hf
      refine z_ci hW (z_runV (As := [.int l1, .int (4 : Int32)]) (rest := []) B hW zv_X10_39 (K_X10_of hq15) hg1 rfl rfl rfl (Nat.le_of_ble_eq_true rfl) hl.1 ⟨Nat.le_of_ble_eq_true rfl, Nat.le_of_ble_eq_true rfl⟩ dX10_polls_37 ⟨Nat.le_of_ble_eq_true rfl, Nat.le_of_ble_eq_true rfl⟩) (fun H locs hW => ?_)
      refine lv_iconst (v := (1 : Int32)) hx hb dX10_polls_40 (by decide) ?_
      refine lv_iadd hx hb dX10_polls_41 ?_
      refine lv_bipush (v := (32 : Int32)) hx hb dX10_polls_42 (by decide) ?_
      refine lv_irem hx hb dX10_polls_44 (by decide) ?_
      obtain ⟨x17, hx18, hf⟩ := z_l hf
      rw [hx18]
      refine lv_istore_n (lv' := [(3, .int x17), (2, .int x6), (0, .ref l0), (1, .int l1)]) hx hb dX10_polls_45 rfl hl (by decide) rfl (fun ls hl => ?_)
      refine lv_iload_n hx hb dX10_polls_46 rfl (lv_at hl 3 rfl) ?_
      refine lv_iload_n hx hb dX10_polls_47 rfl (lv_at hl 0 rfl) ?_
      obtain ⟨r20, hq19, hf⟩ := z_b hf
      refine z_ci hW (z_runS (As := [.int l1, .int x17]) (rest := []) B hW zv_X10_95 (K_X10_behind hq19) rfl rfl (Nat.le_of_ble_eq_true rfl) hl.1 ⟨Nat.le_of_ble_eq_true rfl, Nat.le_of_ble_eq_true rfl⟩ dX10_polls_48 ⟨Nat.le_of_ble_eq_true rfl, Nat.le_of_ble_eq_true rfl⟩) (fun H locs hW => ?_)
      refine lv_iload_n hx hb dX10_polls_51 rfl (lv_at hl 1 rfl) ?_
      refine lv_icmp_gt (tgt := 59) hx hb dX10_polls_52 (by decide) (fun hc52 => ?_) (fun hc52 => ?_)
      · replace hf := z_ip hc52 hf
        refine lv_iload_n hx hb dX10_polls_59 rfl (lv_at hl 3 rfl) ?_
        refine lv_iconst (v := (1 : Int32)) hx hb dX10_polls_60 (by decide) ?_
        refine lv_iadd hx hb dX10_polls_61 ?_
        refine lv_bipush (v := (32 : Int32)) hx hb dX10_polls_62 (by decide) ?_
        refine lv_irem hx hb dX10_polls_64 (by decide) ?_
        exact t_X10_polls_65 B hf hW (lv_sub hl [2, 3] rfl) 
      · replace hf := z_in hc52 hf
        refine lv_iload_n hx hb dX10_polls_55 rfl (lv_at hl 0 rfl) ?_
        refine lv_goto (tgt := 65) hx hb dX10_polls_56 (by decide) ?_
        exact t_X10_polls_65 B hf hW (lv_sub hl [2, 3] rfl) 
    · replace hf := z_ip hc30 hf
      exact t_X10_polls_33 B hf hW (lv_sub hl [] rfl) 
end GEN
