section GEN
variable {p : Program} {l : Launch} {e : Env} {s : State} {m : MethodId} {args : Array Value} {below : List Frame} {meth : Method} {c : Code} {D : va_G} {cA : Nat → ClassId} {bs : Nat}
set_option maxRecDepth 100000 in
def f_X8_askOthers_54 (σ : zSt) (l1 : Nat) : Option (zSt) :=
(if z_ob σ l1 6 then (zl (z_pI σ l1 3 (z_I σ l1 0)) (fun σ2 => (some σ2))) else none)
set_option maxRecDepth 20000 in
set_option maxHeartbeats 4000000 in
theorem t_X8_askOthers_54 (B : z_B p s m args meth c D cA bs RX8 cX8_askOthers 4 none)  {σ' : zSt} {σ : zSt} {l1 : Nat} (hf : f_X8_askOthers_54 σ l1 = some σ') {H : Heap} {locs : List Loc} {ls : Array Slot} (hW : z_Ok D cA bs s σ H locs) (hl : lv_has ls 4 [(1, .ref l1)])  : W p l e (zrm 3 0 0 67) s m args below meth c H locs 0 0 (MQ below (z_Qv D cA bs σ') args s 0 0 (fun q => bs ≤ q)) (F0 m 54 ls []) := by
  have hx := B.1
  have hb := B.2.1
  have hown := B.2.2.2.1
  have hts := B.2.2.2.2.1
  unfold f_X8_askOthers_54 at hf
  refine lv_aload_n hx hb dX8_askOthers_54 rfl (lv_at hl 0 rfl) ?_
  refine lv_aload_n hx hb dX8_askOthers_55 rfl (lv_at hl 0 rfl) ?_
  obtain ⟨hg1, hf⟩ := z_g hf
  refine z_getI B hW (Or.inl zf_X8_53) rfl hg1 dX8_askOthers_56 ?_
  obtain ⟨σ2, hs3, hf⟩ := z_l hf
  refine z_putI B hW zf_X8_73 hg1 rfl hs3 dX8_askOthers_59 (fun H locs hW => ?_)
  obtain rfl := z_e1 hf
  exact z_rv B hW dX8_askOthers_62 (Nat.le_of_ble_eq_true rfl) (Nat.le_of_ble_eq_true rfl)
set_option maxRecDepth 100000 in
def b_X8_askOthers_10 (l0 : Nat) (l1 : Nat) (σ : zSt) (l2 : Int32) (l3 : Int32) : Option ((zSt × Int32 × Int32) ⊕ (zSt)) :=
(if (31 : Int32) < l3 then
(zex (f_X8_askOthers_54 σ l1))
else
(if z_ob σ l1 6 then (if l2 = (z_I σ l1 0) then
(zex (f_X8_askOthers_54 σ l1))
else
(zb2 (f_X8_reaches σ l0 l2) (fun r5 σ6 => (if r5 = 0 then
(zb (f_X9_addressBehind σ6 l2) (fun r8 => (some (.inl (σ6, r8, (l3 + (1 : Int32)))))))
else
(zex (if z_ob σ6 l1 6 then (zl (z_pI σ6 l1 3 l2) (fun σ10 => (if z_ob σ10 l0 2 then (zl (z_pI σ10 l0 10 l2) (fun σ13 => (some σ13))) else none))) else none)))))) else none))
set_option maxRecDepth 100000 in
def f_X8_askOthers_10 (l0 : Nat) (l1 : Nat) (σ : zSt) (l2 : Int32) (l3 : Int32) : Option (zSt) := zloop (fun (t : zSt × Int32 × Int32) => b_X8_askOthers_10 l0 l1 t.1 t.2.1 t.2.2) zN (σ, l2, l3)
set_option maxRecDepth 20000 in
set_option maxHeartbeats 4000000 in
theorem tb_X8_askOthers_10 (B : z_B p s m args meth c D cA bs RX8 cX8_askOthers 4 none)  {σ' : zSt} {o1 : (zSt × Int32 × Int32) ⊕ (zSt)} {l0 : Nat} {l1 : Nat} {σ : zSt} {l2 : Int32} {l3 : Int32} (hf : b_X8_askOthers_10 l0 l1 σ l2 l3 = some o1) {H : Heap} {locs : List Loc} {ls : Array Slot} (hW : z_Ok D cA bs s σ H locs) (hl : lv_has ls 4 [(0, .ref l0), (1, .ref l1), (2, .int l2), (3, .int l3)]) (hk1 : ∀ (σ : zSt) (l2 : Int32) (l3 : Int32), o1 = .inl (σ, l2, l3) → ∀ {H : Heap} {locs : List Loc} {ls : Array Slot}, z_Ok D cA bs s σ H locs → lv_has ls 4 [(0, .ref l0), (1, .ref l1), (2, .int l2), (3, .int l3)] → W p l e (zrm 3 0 0 67) s m args below meth c H locs 0 0 (MQ below (z_Qv D cA bs σ') args s 0 0 (fun q => bs ≤ q)) (F0 m 10 ls [])) (hr1 : ∀ x, o1 = .inr x → x = σ') : W p l e (zrm 3 0 0 67) s m args below meth c H locs 0 0 (MQ below (z_Qv D cA bs σ') args s 0 0 (fun q => bs ≤ q)) (F0 m 10 ls []) := by
  have hx := B.1
  have hb := B.2.1
  have hown := B.2.2.2.1
  have hts := B.2.2.2.2.1
  unfold b_X8_askOthers_10 at hf
  refine lv_iload_n hx hb dX8_askOthers_10 rfl (lv_at hl 3 rfl) ?_
  refine lv_bipush (v := (31 : Int32)) hx hb dX8_askOthers_11 (by decide) ?_
  refine lv_icmp_gt (tgt := 54) hx hb dX8_askOthers_13 (by decide) (fun hc13 => ?_) (fun hc13 => ?_)
  · replace hf := z_ip hc13 hf
    obtain ⟨w1, hf, ho1⟩ := z_x hf
    obtain rfl := hr1 _ ho1
    exact t_X8_askOthers_54 B hf hW (lv_sub hl [1] rfl) 
  · replace hf := z_in hc13 hf
    refine lv_iload_n hx hb dX8_askOthers_16 rfl (lv_at hl 2 rfl) ?_
    refine lv_aload_n hx hb dX8_askOthers_17 rfl (lv_at hl 1 rfl) ?_
    obtain ⟨hg2, hf⟩ := z_g hf
    refine z_getI B hW (Or.inl zf_X8_53) rfl hg2 dX8_askOthers_18 ?_
    refine lv_icmp_eq (tgt := 54) hx hb dX8_askOthers_21 (by decide) (fun hc21 => ?_) (fun hc21 => ?_)
    · replace hf := z_ip hc21 hf
      obtain ⟨w1, hf, ho3⟩ := z_x hf
      obtain rfl := hr1 _ ho3
      exact t_X8_askOthers_54 B hf hW (lv_sub hl [1] rfl) 
    · replace hf := z_in hc21 hf
      refine lv_aload_n hx hb dX8_askOthers_24 rfl (lv_at hl 0 rfl) ?_
      refine lv_iload_n hx hb dX8_askOthers_25 rfl (lv_at hl 2 rfl) ?_
      obtain ⟨r5, σ6, hq4, hf⟩ := z_b2 hf
      refine z_ci hW (z_runS (As := [.ref l0, .int l2]) (rest := []) B hW zv_X8_159 (K_X8_reaches hq4) rfl rfl (Nat.le_of_ble_eq_true rfl) hl.1 ⟨Nat.le_of_ble_eq_true rfl, Nat.le_of_ble_eq_true rfl⟩ dX8_askOthers_26 ⟨Nat.le_of_ble_eq_true rfl, Nat.le_of_ble_eq_true rfl⟩) (fun H locs hW => ?_)
      refine lv_if_eq (tgt := 43) hx hb dX8_askOthers_29 (by decide) (fun hc29 => ?_) (fun hc29 => ?_)
      · replace hf := z_ip hc29 hf
        refine lv_iload_n hx hb dX8_askOthers_43 rfl (lv_at hl 2 rfl) ?_
        obtain ⟨r8, hq7, hf⟩ := z_b hf
        refine z_ci hW (z_runSN (As := [.int l2]) (rest := []) B hW zv_X8_149 (K_X9_addressBehind hq7) rfl rfl (Nat.le_of_ble_eq_true rfl) hl.1 ⟨Nat.le_of_ble_eq_true rfl, Nat.le_of_ble_eq_true rfl⟩ dX8_askOthers_44 ⟨Nat.le_of_ble_eq_true rfl, Nat.le_of_ble_eq_true rfl⟩) (fun H locs hW => ?_)
        refine lv_istore_n (lv' := [(2, .int r8), (0, .ref l0), (1, .ref l1), (3, .int l3)]) hx hb dX8_askOthers_47 rfl hl (by decide) rfl (fun ls hl => ?_)
        refine lv_iinc (v := (l3 + (1 : Int32))) (lv' := [(3, .int (l3 + (1 : Int32))), (2, .int r8), (0, .ref l0), (1, .ref l1)]) hx hb dX8_askOthers_48 hl (k := 3) rfl rfl (by decide) rfl (fun ls hl => ?_)
        refine lv_goto (tgt := 10) hx hb dX8_askOthers_51 (by decide) ?_
        exact hk1 _ _ _ (Option.some.inj hf).symm hW (lv_sub hl [2, 3, 1, 0] rfl)
      · replace hf := z_in hc29 hf
        obtain ⟨w1, hf, ho15⟩ := z_x hf
        obtain rfl := hr1 _ ho15
        refine lv_aload_n hx hb dX8_askOthers_32 rfl (lv_at hl 1 rfl) ?_
        refine lv_iload_n hx hb dX8_askOthers_33 rfl (lv_at hl 2 rfl) ?_
        obtain ⟨hg9, hf⟩ := z_g hf
        obtain ⟨σ10, hs11, hf⟩ := z_l hf
        refine z_putI B hW zf_X8_73 hg9 rfl hs11 dX8_askOthers_34 (fun H locs hW => ?_)
        refine lv_aload_n hx hb dX8_askOthers_37 rfl (lv_at hl 0 rfl) ?_
        refine lv_iload_n hx hb dX8_askOthers_38 rfl (lv_at hl 2 rfl) ?_
        obtain ⟨hg12, hf⟩ := z_g hf
        obtain ⟨σ13, hs14, hf⟩ := z_l hf
        refine z_putI B hW zf_X8_9 hg12 rfl hs14 dX8_askOthers_39 (fun H locs hW => ?_)
        obtain rfl := z_e1 hf
        exact z_rv B hW dX8_askOthers_42 (Nat.le_of_ble_eq_true rfl) (Nat.le_of_ble_eq_true rfl)
set_option maxRecDepth 20000 in
set_option maxHeartbeats 4000000 in
theorem t_X8_askOthers_10 (B : z_B p s m args meth c D cA bs RX8 cX8_askOthers 4 none)  {σ' : zSt} {l0 : Nat} {l1 : Nat}  : ∀ (n : Nat) {σ : zSt} {l2 : Int32} {l3 : Int32}, zloop (fun (t : zSt × Int32 × Int32) => b_X8_askOthers_10 l0 l1 t.1 t.2.1 t.2.2) n (σ, l2, l3) = some σ' → ∀ {H : Heap} {locs : List Loc} {ls : Array Slot}, z_Ok D cA bs s σ H locs → lv_has ls 4 [(0, .ref l0), (1, .ref l1), (2, .int l2), (3, .int l3)] → W p l e (zrm 3 0 0 67) s m args below meth c H locs 0 0 (MQ below (z_Qv D cA bs σ') args s 0 0 (fun q => bs ≤ q)) (F0 m 10 ls []) := by
  intro n
  induction n with
  | zero => intro σ l2 l3 hf; cases hf
  | succ n ih =>
    intro σ l2 l3 hf H locs ls hW hl
    obtain ⟨o1, hb1, hf⟩ := z_lp hf
    refine tb_X8_askOthers_10 B hb1 hW hl  (fun σ l2 l3 he H locs ls hW hl => ?_) (fun x he => ?_)
    · rcases hf with ⟨t, ht, hf⟩ | hf
      · rw [he] at ht
        cases ht
        exact ih hf hW hl
      · rw [he] at hf
        cases hf
    · rcases hf with ⟨t, ht, hf⟩ | hf
      · rw [he] at ht
        cases ht
      · rw [he] at hf
        exact Sum.inr.inj hf
set_option maxRecDepth 100000 in
def f_X8_askOthers (σ : zSt) (l0 : Nat) (l1 : Nat) : Option (zSt) :=
(if z_ob σ l1 6 then (zb (f_X9_addressBehind σ (z_I σ l1 3)) (fun r3 => (f_X8_askOthers_10 l0 l1 σ r3 (0 : Int32)))) else none)
set_option maxRecDepth 20000 in
set_option maxHeartbeats 4000000 in
theorem K_X8_askOthers {σ : zSt} {l0 : Nat} {l1 : Nat}  {σ' : zSt} (hf : f_X8_askOthers σ l0 l1 = some σ') : z_M l D cA bs yX8_askOthers cX8_askOthers 4 none 3 67 0 0 [.ref l0, .ref l1] σ (z_Qv D cA bs σ') := by
  refine z_met (own := RX8) (lv := [(0, .ref l0), (1, .ref l1)]) (by decide) rfl (Nat.le_of_ble_eq_true rfl) rfl (fun p e s m below meth c ls B hnm hW hl => ?_)
  have hx := B.1
  have hb := B.2.1
  have hown := B.2.2.2.1
  have hts := B.2.2.2.2.1
  unfold f_X8_askOthers at hf
  refine lv_aload_n hx hb dX8_askOthers_0 rfl (lv_at hl 1 rfl) ?_
  obtain ⟨hg1, hf⟩ := z_g hf
  refine z_getI B hW (Or.inl zf_X8_73) rfl hg1 dX8_askOthers_1 ?_
  obtain ⟨r3, hq2, hf⟩ := z_b hf
  refine z_ci hW (z_runSN (As := [.int (z_I σ l1 3)]) (rest := []) B hW zv_X8_149 (K_X9_addressBehind hq2) rfl rfl (Nat.le_of_ble_eq_true rfl) hl.1 ⟨Nat.le_of_ble_eq_true rfl, Nat.le_of_ble_eq_true rfl⟩ dX8_askOthers_4 ⟨Nat.le_of_ble_eq_true rfl, Nat.le_of_ble_eq_true rfl⟩) (fun H locs hW => ?_)
  refine lv_istore_n (lv' := [(2, .int r3), (0, .ref l0), (1, .ref l1)]) hx hb dX8_askOthers_7 rfl hl (by decide) rfl (fun ls hl => ?_)
  refine lv_iconst (v := (0 : Int32)) hx hb dX8_askOthers_8 (by decide) ?_
  refine lv_istore_n (lv' := [(3, .int (0 : Int32)), (2, .int r3), (0, .ref l0), (1, .ref l1)]) hx hb dX8_askOthers_9 rfl hl (by decide) rfl (fun ls hl => ?_)
  unfold f_X8_askOthers_10 at hf
  exact t_X8_askOthers_10 B  zN hf hW (lv_sub hl [2, 3, 1, 0] rfl)
set_option maxRecDepth 100000 in
def f_X8_makeVisit_70 (σ : zSt) (l0 : Nat) (l1 : Nat) (l2 : Int32) (l3 : Int32) (l4 : Int32) : Option (zSt) :=
(if z_ob σ l1 6 then (if z_ob σ l0 2 then (zb (f_X2_logVisit σ l0 l2 (z_I σ l1 0) l3 l4) (fun σ4 => (some σ4))) else none) else none)
set_option maxRecDepth 20000 in
set_option maxHeartbeats 4000000 in
theorem t_X8_makeVisit_70 (B : z_B p s m args meth c D cA bs RX8 cX8_makeVisit 5 none)  {σ' : zSt} {σ : zSt} {l0 : Nat} {l1 : Nat} {l2 : Int32} {l3 : Int32} {l4 : Int32} (hf : f_X8_makeVisit_70 σ l0 l1 l2 l3 l4 = some σ') {H : Heap} {locs : List Loc} {ls : Array Slot} (hW : z_Ok D cA bs s σ H locs) (hl : lv_has ls 5 [(0, .ref l0), (1, .ref l1), (2, .int l2), (3, .int l3), (4, .int l4)])  : W p l e (zrm 4 0 0 96) s m args below meth c H locs 0 0 (MQ below (z_Qv D cA bs σ') args s 0 0 (fun q => bs ≤ q)) (F0 m 70 ls []) := by
  have hx := B.1
  have hb := B.2.1
  have hown := B.2.2.2.1
  have hts := B.2.2.2.2.1
  unfold f_X8_makeVisit_70 at hf
  refine lv_aload_n hx hb dX8_makeVisit_70 rfl (lv_at hl 0 rfl) ?_
  refine lv_iload_n hx hb dX8_makeVisit_71 rfl (lv_at hl 2 rfl) ?_
  refine lv_aload_n hx hb dX8_makeVisit_72 rfl (lv_at hl 1 rfl) ?_
  obtain ⟨hg1, hf⟩ := z_g hf
  refine z_getI B hW (Or.inl zf_X8_53) rfl hg1 dX8_makeVisit_73 ?_
  refine lv_iload_n hx hb dX8_makeVisit_76 rfl (lv_at hl 3 rfl) ?_
  refine lv_iload hx hb dX8_makeVisit_77 (lv_at hl 4 rfl) ?_
  obtain ⟨hg2, hf⟩ := z_g hf
  obtain ⟨σ4, hq3, hf⟩ := z_b hf
  refine z_cv hW (z_runV (As := [.int l2, .int (z_I σ l1 0), .int l3, .int l4]) (rest := []) B hW zv_X8_58 (K_X2_logVisit hq3) hg2 rfl rfl rfl (Nat.le_of_ble_eq_true rfl) hl.1 ⟨Nat.le_of_ble_eq_true rfl, Nat.le_of_ble_eq_true rfl⟩ dX8_makeVisit_79 ⟨Nat.le_of_ble_eq_true rfl, Nat.le_of_ble_eq_true rfl⟩) (fun H locs hW => ?_)
  obtain rfl := z_e1 hf
  exact z_rv B hW dX8_makeVisit_82 (Nat.le_of_ble_eq_true rfl) (Nat.le_of_ble_eq_true rfl)
set_option maxRecDepth 100000 in
def f_X8_makeVisit_18 (σ : zSt) (l0 : Nat) (l1 : Option Nat) : Option (zSt) :=
(zc l1
(some σ)
(fun a1 => (if z_ob σ l0 2 then (zl (z_I σ l0 9) (fun x3 => (zb2 (f_X8_beginVisit σ l0 a1) (fun r6 σ7 => (if z_ob σ7 l0 2 then (zb2 (f_X8_sendMessages σ7 l0 a1 ((z_I σ7 l0 6) - r6)) (fun r10 σ11 => (zb (f_X8_pollGap σ11 l0 a1) (fun σ13 => (zb2 (f_X8_passToNext σ13 l0 a1) (fun r15 σ16 => (if r15 = 0 then
(zb (f_X8_dropSilent σ16 l0 a1) (fun σ18 => (zb (f_X8_askOthers σ18 l0 a1) (fun σ20 => (f_X8_makeVisit_70 σ20 l0 a1 x3 r6 r10)))))
else
(f_X8_makeVisit_70 σ16 l0 a1 x3 r6 r10)))))))) else none))))) else none)))
set_option maxRecDepth 20000 in
set_option maxHeartbeats 4000000 in
theorem t_X8_makeVisit_18 (B : z_B p s m args meth c D cA bs RX8 cX8_makeVisit 5 none)  {σ' : zSt} {σ : zSt} {l0 : Nat} {l1 : Option Nat} (hf : f_X8_makeVisit_18 σ l0 l1 = some σ') {H : Heap} {locs : List Loc} {ls : Array Slot} (hW : z_Ok D cA bs s σ H locs) (hl : lv_has ls 5 [(0, .ref l0), (1, va_rf l1)])  : W p l e (zrm 4 0 0 96) s m args below meth c H locs 0 0 (MQ below (z_Qv D cA bs σ') args s 0 0 (fun q => bs ≤ q)) (F0 m 18 ls []) := by
  have hx := B.1
  have hb := B.2.1
  have hown := B.2.2.2.1
  have hts := B.2.2.2.2.1
  unfold f_X8_makeVisit_18 at hf
  refine z_aload_n hx hb dX8_makeVisit_18 rfl (lv_at hl 1 rfl) ?_
  refine z_ifnonnull (tgt := 23) hx hb dX8_makeVisit_19 (by decide) (fun hz21 => ?_) (fun a1 hz21 => ?_)
  · subst hz21
    replace hf := z_c0 hf
    obtain rfl := z_e1 hf
    exact z_rv B hW dX8_makeVisit_22 (Nat.le_of_ble_eq_true rfl) (Nat.le_of_ble_eq_true rfl)
  · subst hz21
    replace hf := z_c1 hf
    refine lv_aload_n hx hb dX8_makeVisit_23 rfl (lv_at hl 0 rfl) ?_
    obtain ⟨hg2, hf⟩ := z_g hf
    refine z_getI B hW (Or.inl zf_X8_25) rfl hg2 dX8_makeVisit_24 ?_
    obtain ⟨x3, hx4, hf⟩ := z_l hf
    rw [hx4]
    refine lv_istore_n (lv' := [(2, .int x3), (0, .ref l0), (1, .ref a1)]) hx hb dX8_makeVisit_27 rfl hl (by decide) rfl (fun ls hl => ?_)
    refine lv_aload_n hx hb dX8_makeVisit_28 rfl (lv_at hl 1 rfl) ?_
    refine lv_aload_n hx hb dX8_makeVisit_29 rfl (lv_at hl 2 rfl) ?_
    obtain ⟨r6, σ7, hq5, hf⟩ := z_b2 hf
    refine z_ci hW (z_runS (As := [.ref l0, .ref a1]) (rest := []) B hW zv_X8_28 (K_X8_beginVisit hq5) rfl rfl (Nat.le_of_ble_eq_true rfl) hl.1 ⟨Nat.le_of_ble_eq_true rfl, Nat.le_of_ble_eq_true rfl⟩ dX8_makeVisit_30 ⟨Nat.le_of_ble_eq_true rfl, Nat.le_of_ble_eq_true rfl⟩) (fun H locs hW => ?_)
    refine lv_istore_n (lv' := [(3, .int r6), (2, .int x3), (0, .ref l0), (1, .ref a1)]) hx hb dX8_makeVisit_33 rfl hl (by decide) rfl (fun ls hl => ?_)
    refine lv_aload_n hx hb dX8_makeVisit_34 rfl (lv_at hl 2 rfl) ?_
    refine lv_aload_n hx hb dX8_makeVisit_35 rfl (lv_at hl 3 rfl) ?_
    refine lv_aload_n hx hb dX8_makeVisit_36 rfl (lv_at hl 2 rfl) ?_
    obtain ⟨hg8, hf⟩ := z_g hf
    refine z_getI B hW (Or.inl zf_X8_32) rfl hg8 dX8_makeVisit_37 ?_
    refine lv_iload_n hx hb dX8_makeVisit_40 rfl (lv_at hl 0 rfl) ?_
    refine lv_isub hx hb dX8_makeVisit_41 ?_
    obtain ⟨r10, σ11, hq9, hf⟩ := z_b2 hf
    refine z_ci hW (z_runS (As := [.ref l0, .ref a1, .int ((z_I σ7 l0 6) - r6)]) (rest := []) B hW zv_X8_35 (K_X8_sendMessages hq9) rfl rfl (Nat.le_of_ble_eq_true rfl) hl.1 ⟨Nat.le_of_ble_eq_true rfl, Nat.le_of_ble_eq_true rfl⟩ dX8_makeVisit_42 ⟨Nat.le_of_ble_eq_true rfl, Nat.le_of_ble_eq_true rfl⟩) (fun H locs hW => ?_)
    refine lv_istore (lv' := [(4, .int r10), (3, .int r6), (2, .int x3), (0, .ref l0), (1, .ref a1)]) hx hb dX8_makeVisit_45 hl (by decide) rfl (fun ls hl => ?_)
    refine lv_aload_n hx hb dX8_makeVisit_47 rfl (lv_at hl 3 rfl) ?_
    refine lv_aload_n hx hb dX8_makeVisit_48 rfl (lv_at hl 4 rfl) ?_
    obtain ⟨σ13, hq12, hf⟩ := z_b hf
    refine z_cv hW (z_runS (As := [.ref l0, .ref a1]) (rest := []) B hW zv_X8_39 (K_X8_pollGap hq12) rfl rfl (Nat.le_of_ble_eq_true rfl) hl.1 ⟨Nat.le_of_ble_eq_true rfl, Nat.le_of_ble_eq_true rfl⟩ dX8_makeVisit_49 ⟨Nat.le_of_ble_eq_true rfl, Nat.le_of_ble_eq_true rfl⟩) (fun H locs hW => ?_)
    refine lv_aload_n hx hb dX8_makeVisit_52 rfl (lv_at hl 3 rfl) ?_
    refine lv_aload_n hx hb dX8_makeVisit_53 rfl (lv_at hl 4 rfl) ?_
    obtain ⟨r15, σ16, hq14, hf⟩ := z_b2 hf
    refine z_ci hW (z_runS (As := [.ref l0, .ref a1]) (rest := []) B hW zv_X8_43 (K_X8_passToNext hq14) rfl rfl (Nat.le_of_ble_eq_true rfl) hl.1 ⟨Nat.le_of_ble_eq_true rfl, Nat.le_of_ble_eq_true rfl⟩ dX8_makeVisit_54 ⟨Nat.le_of_ble_eq_true rfl, Nat.le_of_ble_eq_true rfl⟩) (fun H locs hW => ?_)
    refine lv_if_ne (tgt := 70) hx hb dX8_makeVisit_57 (by decide) (fun hc57 => ?_) (fun hc57 => ?_)
    · replace hf := z_in hc57 hf
      exact t_X8_makeVisit_70 B hf hW (lv_sub hl [3, 4, 2, 1, 0] rfl) 
    · replace hf := z_ip hc57 hf
      refine lv_aload_n hx hb dX8_makeVisit_60 rfl (lv_at hl 3 rfl) ?_
      refine lv_aload_n hx hb dX8_makeVisit_61 rfl (lv_at hl 4 rfl) ?_
      obtain ⟨σ18, hq17, hf⟩ := z_b hf
      refine z_cv hW (z_runS (As := [.ref l0, .ref a1]) (rest := []) B hW zv_X8_47 (K_X8_dropSilent hq17) rfl rfl (Nat.le_of_ble_eq_true rfl) hl.1 ⟨Nat.le_of_ble_eq_true rfl, Nat.le_of_ble_eq_true rfl⟩ dX8_makeVisit_62 ⟨Nat.le_of_ble_eq_true rfl, Nat.le_of_ble_eq_true rfl⟩) (fun H locs hW => ?_)
      refine lv_aload_n hx hb dX8_makeVisit_65 rfl (lv_at hl 3 rfl) ?_
      refine lv_aload_n hx hb dX8_makeVisit_66 rfl (lv_at hl 4 rfl) ?_
      obtain ⟨σ20, hq19, hf⟩ := z_b hf
      refine z_cv hW (z_runS (As := [.ref l0, .ref a1]) (rest := []) B hW zv_X8_50 (K_X8_askOthers hq19) rfl rfl (Nat.le_of_ble_eq_true rfl) hl.1 ⟨Nat.le_of_ble_eq_true rfl, Nat.le_of_ble_eq_true rfl⟩ dX8_makeVisit_67 ⟨Nat.le_of_ble_eq_true rfl, Nat.le_of_ble_eq_true rfl⟩) (fun H locs hW => ?_)
      exact t_X8_makeVisit_70 B hf hW (lv_sub hl [3, 4, 2, 1, 0] rfl) 
set_option maxRecDepth 100000 in
def f_X8_makeVisit (σ : zSt) (l0 : Nat) : Option (zSt) :=
(if z_ob σ l0 2 then (zb (f_X2_stationWith σ l0 (z_I σ l0 10)) (fun r3 => (zc r3
(zb2 (f_X8_makeAnew σ l0) (fun r6 σ7 => (f_X8_makeVisit_18 σ7 l0 r6)))
(fun a4 => (f_X8_makeVisit_18 σ l0 (some a4)))))) else none)
set_option maxRecDepth 20000 in
set_option maxHeartbeats 4000000 in
theorem K_X8_makeVisit {σ : zSt} {l0 : Nat}  {σ' : zSt} (hf : f_X8_makeVisit σ l0 = some σ') : z_M l D cA bs yX8_makeVisit cX8_makeVisit 5 none 4 96 0 0 [.ref l0] σ (z_Qv D cA bs σ') := by
  refine z_met (own := RX8) (lv := [(0, .ref l0)]) (by decide) rfl (Nat.le_of_ble_eq_true rfl) rfl (fun p e s m below meth c ls B hnm hW hl => ?_)
  have hx := B.1
  have hb := B.2.1
  have hown := B.2.2.2.1
  have hts := B.2.2.2.2.1
  unfold f_X8_makeVisit at hf
  refine lv_aload_n hx hb dX8_makeVisit_0 rfl (lv_at hl 0 rfl) ?_
  refine lv_aload_n hx hb dX8_makeVisit_1 rfl (lv_at hl 0 rfl) ?_
  obtain ⟨hg1, hf⟩ := z_g hf
  refine z_getI B hW (Or.inl zf_X8_9) rfl hg1 dX8_makeVisit_2 ?_
  obtain ⟨r3, hq2, hf⟩ := z_b hf
  refine z_cq hW (z_runV (As := [.int (z_I σ l0 10)]) (rest := []) B hW zv_X8_15 (K_X2_stationWith hq2) hg1 rfl rfl rfl (Nat.le_of_ble_eq_true rfl) hl.1 ⟨Nat.le_of_ble_eq_true rfl, Nat.le_of_ble_eq_true rfl⟩ dX8_makeVisit_5 ⟨Nat.le_of_ble_eq_true rfl, Nat.le_of_ble_eq_true rfl⟩) (fun H locs hW => ?_)
  refine z_astore_n (lv' := [(1, va_rf r3), (0, .ref l0)]) hx hb dX8_makeVisit_8 rfl hl (by decide) rfl (fun ls hl => ?_)
  refine z_aload_n hx hb dX8_makeVisit_9 rfl (lv_at hl 0 rfl) ?_
  refine z_ifnonnull (tgt := 18) hx hb dX8_makeVisit_10 (by decide) (fun hz8 => ?_) (fun a4 hz8 => ?_)
  · subst hz8
    replace hf := z_c0 hf
    refine lv_aload_n hx hb dX8_makeVisit_13 rfl (lv_at hl 1 rfl) ?_
    obtain ⟨r6, σ7, hq5, hf⟩ := z_b2 hf
    refine z_cq hW (z_runS (As := [.ref l0]) (rest := []) B hW zv_X8_19 (K_X8_makeAnew hq5) rfl rfl (Nat.le_of_ble_eq_true rfl) hl.1 ⟨Nat.le_of_ble_eq_true rfl, Nat.le_of_ble_eq_true rfl⟩ dX8_makeVisit_14 ⟨Nat.le_of_ble_eq_true rfl, Nat.le_of_ble_eq_true rfl⟩) (fun H locs hW => ?_)
    refine z_astore_n (lv' := [(1, va_rf r6), (0, .ref l0)]) hx hb dX8_makeVisit_17 rfl hl (by decide) rfl (fun ls hl => ?_)
    exact t_X8_makeVisit_18 B hf hW (lv_sub hl [1, 0] rfl) 
  · subst hz8
    replace hf := z_c1 hf
    exact t_X8_makeVisit_18 B hf hW (lv_sub hl [1, 0] rfl) 
set_option maxRecDepth 100000 in
def f_X9_init (σ : zSt) (l0 : Nat) : Option (zSt) :=
(zl (z_nw σ (.inl 2)) (fun σ1 => (zb (f_X2_init σ1 (z_nx σ)) (fun σ4 => (if z_ob σ4 l0 8 then (zl (z_pR σ4 l0 0 (some (z_nx σ))) (fun σ6 => (zl (z_nw σ6 (.inl 2)) (fun σ8 => (zb (f_X2_init σ8 (z_nx σ6)) (fun σ11 => (if z_ob σ11 l0 8 then (zl (z_pR σ11 l0 1 (some (z_nx σ6))) (fun σ13 => (zl (z_nw σ13 (.inl 1)) (fun σ15 => (zb (f_X1_init σ15 (z_nx σ13)) (fun σ18 => (if z_ob σ18 l0 8 then (zl (z_pR σ18 l0 2 (some (z_nx σ13))) (fun σ20 => (zl (z_nw σ20 (.inr (1, 120))) (fun σ22 => (if z_ob σ22 l0 8 then (zl (z_pR σ22 l0 3 (some (z_nx σ20))) (fun σ25 => (some σ25))) else none))))) else none))))))) else none))))))) else none)))))
set_option maxRecDepth 20000 in
set_option maxHeartbeats 4000000 in
theorem K_X9_init {σ : zSt} {l0 : Nat}  {σ' : zSt} (hf : f_X9_init σ l0 = some σ') : z_M l D cA bs yX9_init cX9_init 1 none 5 109 143 9639 [.ref l0] σ (z_Qv D cA bs σ') := by
  refine z_met (own := RX9) (lv := [(0, .ref l0)]) (by decide) rfl (Nat.le_of_ble_eq_true rfl) rfl (fun p e s m below meth c ls B hnm hW hl => ?_)
  have hx := B.1
  have hb := B.2.1
  have hown := B.2.2.2.1
  have hts := B.2.2.2.2.1
  unfold f_X9_init at hf
  refine lv_aload_n hx hb dX9_init_0 rfl (lv_at hl 0 rfl) ?_
  refine W.objInit hx hb hown (hts _ zoi_X9_1) (hts _ zoi_a) (hts _ zoi_b) rfl (by rw [B.2.2.1]; exact hl.1) rfl dX9_init_1 (Nat.le_of_ble_eq_true rfl) (Nat.le_of_ble_eq_true rfl) ?_
  refine W.eq (g2 := F0 m 4 ls []) rfl ?_
  refine lv_aload_n hx hb dX9_init_4 rfl (lv_at hl 0 rfl) ?_
  obtain ⟨σ1, hs2, hf⟩ := z_l hf
  refine z_newOb B hW zw_X9_7 hs2 (Nat.le_of_ble_eq_true rfl) (Nat.le_of_ble_eq_true rfl) dX9_init_5 (fun H hW => ?_)
  refine lv_dup hx hb dX9_init_8 rfl ?_
  obtain ⟨σ4, hq3, hf⟩ := z_b hf
  refine z_cv hW (z_runI (As := []) (rest := [.ref (z_nx σ), .ref l0]) B hW zv_X9_9 (K_X2_init hq3) rfl rfl (Nat.le_of_ble_eq_true rfl) hl.1 ⟨Nat.le_of_ble_eq_true rfl, Nat.le_of_ble_eq_true rfl⟩ dX9_init_9 ⟨Nat.le_of_ble_eq_true rfl, Nat.le_of_ble_eq_true rfl⟩) (fun H locs hW => ?_)
  obtain ⟨hg5, hf⟩ := z_g hf
  obtain ⟨σ6, hs7, hf⟩ := z_l hf
  refine z_putRF B hnm hW zf_X9_10 (fun C T h => by cases h; rfl) rfl hg5 (v := (some (z_nx σ))) hs7 dX9_init_12 (fun H locs hW => ?_)
  refine lv_aload_n hx hb dX9_init_15 rfl (lv_at hl 0 rfl) ?_
  obtain ⟨σ8, hs9, hf⟩ := z_l hf
  refine z_newOb B hW zw_X9_7 hs9 (Nat.le_of_ble_eq_true rfl) (Nat.le_of_ble_eq_true rfl) dX9_init_16 (fun H hW => ?_)
  refine lv_dup hx hb dX9_init_19 rfl ?_
  obtain ⟨σ11, hq10, hf⟩ := z_b hf
  refine z_cv hW (z_runI (As := []) (rest := [.ref (z_nx σ6), .ref l0]) B hW zv_X9_9 (K_X2_init hq10) rfl rfl (Nat.le_of_ble_eq_true rfl) hl.1 ⟨Nat.le_of_ble_eq_true rfl, Nat.le_of_ble_eq_true rfl⟩ dX9_init_20 ⟨Nat.le_of_ble_eq_true rfl, Nat.le_of_ble_eq_true rfl⟩) (fun H locs hW => ?_)
  obtain ⟨hg12, hf⟩ := z_g hf
  obtain ⟨σ13, hs14, hf⟩ := z_l hf
  refine z_putRF B hnm hW zf_X9_16 (fun C T h => by cases h; rfl) rfl hg12 (v := (some (z_nx σ6))) hs14 dX9_init_23 (fun H locs hW => ?_)
  refine lv_aload_n hx hb dX9_init_26 rfl (lv_at hl 0 rfl) ?_
  obtain ⟨σ15, hs16, hf⟩ := z_l hf
  refine z_newOb B hW zw_X9_19 hs16 (Nat.le_of_ble_eq_true rfl) (Nat.le_of_ble_eq_true rfl) dX9_init_27 (fun H hW => ?_)
  refine lv_dup hx hb dX9_init_30 rfl ?_
  obtain ⟨σ18, hq17, hf⟩ := z_b hf
  refine z_cv hW (z_runI (As := []) (rest := [.ref (z_nx σ13), .ref l0]) B hW zv_X9_21 (K_X1_init hq17) rfl rfl (Nat.le_of_ble_eq_true rfl) hl.1 ⟨Nat.le_of_ble_eq_true rfl, Nat.le_of_ble_eq_true rfl⟩ dX9_init_31 ⟨Nat.le_of_ble_eq_true rfl, Nat.le_of_ble_eq_true rfl⟩) (fun H locs hW => ?_)
  obtain ⟨hg19, hf⟩ := z_g hf
  obtain ⟨σ20, hs21, hf⟩ := z_l hf
  refine z_putRF B hnm hW zf_X9_22 (fun C T h => by cases h; rfl) rfl hg19 (v := (some (z_nx σ13))) hs21 dX9_init_34 (fun H locs hW => ?_)
  refine lv_aload_n hx hb dX9_init_37 rfl (lv_at hl 0 rfl) ?_
  refine lv_bipush (v := (120 : Int32)) hx hb dX9_init_38 (by decide) ?_
  obtain ⟨σ22, hs23, hf⟩ := z_l hf
  refine z_newA (atype := .byte) B hW (by decide) zac_byte (N := 120) (by decide) (by decide) (by decide) hs23 (Nat.le_of_ble_eq_true rfl) (Nat.le_of_ble_eq_true rfl) dX9_init_40 (fun H hW => ?_)
  obtain ⟨hg24, hf⟩ := z_g hf
  obtain ⟨σ25, hs26, hf⟩ := z_l hf
  refine z_putRF B hnm hW zf_X9_26 (fun C T h => by cases h; rfl) rfl hg24 (v := (some (z_nx σ20))) hs26 dX9_init_42 (fun H locs hW => ?_)
  obtain rfl := z_e1 hf
  exact z_rv B hW dX9_init_45 (Nat.le_of_ble_eq_true rfl) (Nat.le_of_ble_eq_true rfl)
set_option maxRecDepth 100000 in
def f_X9_loseToken (σ : zSt) (l0 : Nat) : Option (Int32 × zSt) :=
(if z_ob σ l0 8 then (zc (z_R σ l0 0) none (fun q2 => (if z_ob σ q2 2 then (zl (z_I σ q2 10) (fun x5 => (zc (z_R σ l0 2) none (fun q7 => (zc (z_R σ l0 0) none (fun q9 => (if z_ob σ q7 1 then (zb (f_X1_save σ q7 q9) (fun σ13 => (if z_ob σ13 l0 8 then (zc (z_R σ13 l0 0) none (fun q15 => (if z_ob σ13 q15 2 then (zl (z_pI σ13 q15 10 (-1 : Int32)) (fun σ18 => (some (x5, σ18)))) else none))) else none))) else none))))))) else none))) else none)
set_option maxRecDepth 20000 in
set_option maxHeartbeats 4000000 in
theorem K_X9_loseToken {σ : zSt} {l0 : Nat} {r : Int32} {σ' : zSt} (hf : f_X9_loseToken σ l0 = some (r, σ')) : z_M l D cA bs yX9_loseToken cX9_loseToken 2 (some .int) 5 148 0 0 [.ref l0] σ (z_Qi D cA bs r σ') := by
  refine z_met (own := RX9) (lv := [(0, .ref l0)]) (by decide) rfl (Nat.le_of_ble_eq_true rfl) rfl (fun p e s m below meth c ls B hnm hW hl => ?_)
  have hx := B.1
  have hb := B.2.1
  have hown := B.2.2.2.1
  have hts := B.2.2.2.2.1
  unfold f_X9_loseToken at hf
  refine lv_aload_n hx hb dX9_loseToken_0 rfl (lv_at hl 0 rfl) ?_
  obtain ⟨hg1, hf⟩ := z_g hf
  obtain ⟨q2, hv3, hf⟩ := z_nn hf
  refine z_getN B hW (Or.inr zf_X9_10) rfl hg1 hv3 dX9_loseToken_1 ?_
  obtain ⟨hg4, hf⟩ := z_g hf
  refine z_getI B hW (Or.inl zf_X9_143) rfl hg4 dX9_loseToken_4 ?_
  obtain ⟨x5, hx6, hf⟩ := z_l hf
  rw [hx6]
  refine lv_istore_n (lv' := [(1, .int x5), (0, .ref l0)]) hx hb dX9_loseToken_7 rfl hl (by decide) rfl (fun ls hl => ?_)
  refine lv_aload_n hx hb dX9_loseToken_8 rfl (lv_at hl 1 rfl) ?_
  obtain ⟨q7, hv8, hf⟩ := z_nn hf
  refine z_getN B hW (Or.inr zf_X9_22) rfl hg1 hv8 dX9_loseToken_9 ?_
  refine lv_aload_n hx hb dX9_loseToken_12 rfl (lv_at hl 1 rfl) ?_
  obtain ⟨q9, hv10, hf⟩ := z_nn hf
  refine z_getN B hW (Or.inr zf_X9_10) rfl hg1 hv10 dX9_loseToken_13 ?_
  obtain ⟨hg11, hf⟩ := z_g hf
  obtain ⟨σ13, hq12, hf⟩ := z_b hf
  refine z_cv hW (z_runV (As := [.ref q9]) (rest := []) B hW zv_X9_54 (K_X1_save hq12) hg11 rfl rfl rfl (Nat.le_of_ble_eq_true rfl) hl.1 ⟨Nat.le_of_ble_eq_true rfl, Nat.le_of_ble_eq_true rfl⟩ dX9_loseToken_16 ⟨Nat.le_of_ble_eq_true rfl, Nat.le_of_ble_eq_true rfl⟩) (fun H locs hW => ?_)
  refine lv_aload_n hx hb dX9_loseToken_19 rfl (lv_at hl 1 rfl) ?_
  obtain ⟨hg14, hf⟩ := z_g hf
  obtain ⟨q15, hv16, hf⟩ := z_nn hf
  refine z_getN B hW (Or.inr zf_X9_10) rfl hg14 hv16 dX9_loseToken_20 ?_
  refine lv_iconst (v := (-1 : Int32)) hx hb dX9_loseToken_23 (by decide) ?_
  obtain ⟨hg17, hf⟩ := z_g hf
  obtain ⟨σ18, hs19, hf⟩ := z_l hf
  refine z_putI B hW zf_X9_143 hg17 rfl hs19 dX9_loseToken_24 (fun H locs hW => ?_)
  refine lv_iload_n hx hb dX9_loseToken_27 rfl (lv_at hl 0 rfl) ?_
  obtain ⟨rfl, rfl⟩ := z_e2 hf
  exact z_ri B hW dX9_loseToken_28 (Nat.le_of_ble_eq_true rfl) (Nat.le_of_ble_eq_true rfl)
set_option maxRecDepth 100000 in
def f_X9_logged (σ : zSt) (l0 : Nat) : Option (Int32) :=
(if z_ob σ l0 8 then (zc (z_R σ l0 0) none (fun q2 => (if z_ob σ q2 2 then (zb (f_X2_logLength σ q2) (fun r6 => (some r6))) else none))) else none)
set_option maxRecDepth 20000 in
set_option maxHeartbeats 4000000 in
theorem K_X9_logged {σ : zSt} {l0 : Nat} {r : Int32} (hf : f_X9_logged σ l0 = some r) : z_M l D cA bs yX9_logged cX9_logged 1 (some .int) 2 45 0 0 [.ref l0] σ (z_Qi D cA bs r σ) := by
  refine z_met (own := RX9) (lv := [(0, .ref l0)]) (by decide) rfl (Nat.le_of_ble_eq_true rfl) rfl (fun p e s m below meth c ls B hnm hW hl => ?_)
  have hx := B.1
  have hb := B.2.1
  have hown := B.2.2.2.1
  have hts := B.2.2.2.2.1
  unfold f_X9_logged at hf
  refine lv_aload_n hx hb dX9_logged_0 rfl (lv_at hl 0 rfl) ?_
  obtain ⟨hg1, hf⟩ := z_g hf
  obtain ⟨q2, hv3, hf⟩ := z_nn hf
  refine z_getN B hW (Or.inr zf_X9_10) rfl hg1 hv3 dX9_logged_1 ?_
  obtain ⟨hg4, hf⟩ := z_g hf
  obtain ⟨r6, hq5, hf⟩ := z_b hf
  refine z_ci hW (z_runV (As := []) (rest := []) B hW zv_X9_202 (K_X2_logLength hq5) hg4 rfl rfl rfl (Nat.le_of_ble_eq_true rfl) hl.1 ⟨Nat.le_of_ble_eq_true rfl, Nat.le_of_ble_eq_true rfl⟩ dX9_logged_4 ⟨Nat.le_of_ble_eq_true rfl, Nat.le_of_ble_eq_true rfl⟩) (fun H locs hW => ?_)
  obtain rfl := z_e1 hf
  exact z_ri B hW dX9_logged_7 (Nat.le_of_ble_eq_true rfl) (Nat.le_of_ble_eq_true rfl)
set_option maxRecDepth 100000 in
def f_X9_greatestRotation (σ : zSt) (l0 : Nat) : Option (Int32) :=
(if z_ob σ l0 8 then (zc (z_R σ l0 0) none (fun q2 => (if z_ob σ q2 2 then (zc (z_R σ q2 3) none (fun q5 => (if z_ob σ q5 0 then (some (z_I σ q5 7)) else none))) else none))) else none)
set_option maxRecDepth 20000 in
set_option maxHeartbeats 4000000 in
theorem K_X9_greatestRotation {σ : zSt} {l0 : Nat} {r : Int32} (hf : f_X9_greatestRotation σ l0 = some r) : z_M l D cA bs yX9_greatestRotation cX9_greatestRotation 1 (some .int) 0 0 0 0 [.ref l0] σ (z_Qi D cA bs r σ) := by
  refine z_met (own := RX9) (lv := [(0, .ref l0)]) (by decide) rfl (Nat.le_of_ble_eq_true rfl) rfl (fun p e s m below meth c ls B hnm hW hl => ?_)
  have hx := B.1
  have hb := B.2.1
  have hown := B.2.2.2.1
  have hts := B.2.2.2.2.1
  unfold f_X9_greatestRotation at hf
  refine lv_aload_n hx hb dX9_greatestRotation_0 rfl (lv_at hl 0 rfl) ?_
  obtain ⟨hg1, hf⟩ := z_g hf
  obtain ⟨q2, hv3, hf⟩ := z_nn hf
  refine z_getN B hW (Or.inr zf_X9_10) rfl hg1 hv3 dX9_greatestRotation_1 ?_
  obtain ⟨hg4, hf⟩ := z_g hf
  obtain ⟨q5, hv6, hf⟩ := z_nn hf
  refine z_getN B hW (Or.inr zf_X9_191) rfl hg4 hv6 dX9_greatestRotation_4 ?_
  obtain ⟨hg7, hf⟩ := z_g hf
  refine z_getI B hW (Or.inl zf_X9_213) rfl hg7 dX9_greatestRotation_7 ?_
  obtain rfl := z_e1 hf
  exact z_ri B hW dX9_greatestRotation_10 (Nat.le_of_ble_eq_true rfl) (Nat.le_of_ble_eq_true rfl)
set_option maxRecDepth 100000 in
def f_X9_waits_40 (σ : zSt) (s0 : UInt64) : Option (UInt64) :=
(some s0)
set_option maxRecDepth 20000 in
set_option maxHeartbeats 4000000 in
theorem t_X9_waits_40 (B : z_B p s m args meth c D cA bs RX9 cX9_waits 3 (some .double)) {r : UInt64} {σ : zSt} {s0 : UInt64} (hf : f_X9_waits_40 σ s0 = some r) {H : Heap} {locs : List Loc} {ls : Array Slot} (hW : z_Ok D cA bs s σ H locs) (hl : lv_has ls 3 [])  : W p l e (zrm 0 0 0 0) s m args below meth c H locs 0 0 (MQ below (z_Qd D cA bs r σ) args s 0 0 (fun q => bs ≤ q)) (F0 m 40 ls [.double s0]) := by
  have hx := B.1
  have hb := B.2.1
  have hown := B.2.2.2.1
  have hts := B.2.2.2.2.1
  unfold f_X9_waits_40 at hf
  obtain rfl := z_e1 hf
  exact z_rd B hW dX9_waits_40 (Nat.le_of_ble_eq_true rfl) (Nat.le_of_ble_eq_true rfl)
set_option maxRecDepth 100000 in
def f_X9_waits (σ : zSt) (l0 : Nat) (l1 : Int32) : Option (UInt64) :=
(if z_ob σ l0 8 then (zc (z_R σ l0 0) none (fun q2 => (if z_ob σ q2 2 then (zc (z_R σ q2 3) none (fun q5 => (if z_ob σ q5 0 then (if (z_I σ q5 1) = 0 then
(some FP.dconst0)
else
(if l1 = 0 then
(if vf_n64b (FP.ddiv (FP.l2d (z_J σ q5 9)) (FP.i2d (z_I σ q5 1))) then (f_X9_waits_40 σ (FP.ddiv (FP.l2d (z_J σ q5 9)) (FP.i2d (z_I σ q5 1)))) else none)
else
(f_X9_waits_40 σ (FP.i2d (z_I σ q5 8))))) else none))) else none))) else none)
set_option maxRecDepth 20000 in
set_option maxHeartbeats 4000000 in
theorem K_X9_waits {σ : zSt} {l0 : Nat} {l1 : Int32} {r : UInt64} (hf : f_X9_waits σ l0 l1 = some r) : z_M l D cA bs yX9_waits cX9_waits 3 (some .double) 0 0 0 0 [.ref l0, .int l1] σ (z_Qd D cA bs r σ) := by
  refine z_met (own := RX9) (lv := [(0, .ref l0), (1, .int l1)]) (by decide) rfl (Nat.le_of_ble_eq_true rfl) rfl (fun p e s m below meth c ls B hnm hW hl => ?_)
  have hx := B.1
  have hb := B.2.1
  have hown := B.2.2.2.1
  have hts := B.2.2.2.2.1
  unfold f_X9_waits at hf
  refine lv_aload_n hx hb dX9_waits_0 rfl (lv_at hl 0 rfl) ?_
  obtain ⟨hg1, hf⟩ := z_g hf
  obtain ⟨q2, hv3, hf⟩ := z_nn hf
  refine z_getN B hW (Or.inr zf_X9_10) rfl hg1 hv3 dX9_waits_1 ?_
  obtain ⟨hg4, hf⟩ := z_g hf
  obtain ⟨q5, hv6, hf⟩ := z_nn hf
  refine z_getN B hW (Or.inr zf_X9_191) rfl hg4 hv6 dX9_waits_4 ?_
  refine lv_astore_n (lv' := [(2, .ref q5), (0, .ref l0), (1, .int l1)]) hx hb dX9_waits_7 rfl hl (by decide) rfl (fun ls hl => ?_)
  refine lv_aload_n hx hb dX9_waits_8 rfl (lv_at hl 0 rfl) ?_
  obtain ⟨hg7, hf⟩ := z_g hf
  refine z_getI B hW (Or.inl zf_X9_216) rfl hg7 dX9_waits_9 ?_
  refine lv_if_ne (tgt := 17) hx hb dX9_waits_12 (by decide) (fun hc12 => ?_) (fun hc12 => ?_)
  · replace hf := z_in hc12 hf
    refine lv_iload_n hx hb dX9_waits_17 rfl (lv_at hl 2 rfl) ?_
    refine lv_if_eq (tgt := 29) hx hb dX9_waits_18 (by decide) (fun hc18 => ?_) (fun hc18 => ?_)
    · replace hf := z_ip hc18 hf
      refine lv_aload_n hx hb dX9_waits_29 rfl (lv_at hl 0 rfl) ?_
      refine z_getJ B hW (Or.inl zf_X9_222) rfl hg7 dX9_waits_30 ?_
      refine lv_l2d hx hb dX9_waits_33 ?_
      refine lv_aload_n hx hb dX9_waits_34 rfl (lv_at hl 0 rfl) ?_
      refine z_getI B hW (Or.inl zf_X9_216) rfl hg7 dX9_waits_35 ?_
      refine lv_i2d hx hb dX9_waits_38 ?_
      obtain ⟨hg8, hf⟩ := z_g hf
      refine lv_ddiv hx hb dX9_waits_39 (vf_n64b_of hg8) ?_
      exact t_X9_waits_40 B hf hW (lv_sub hl [] rfl) 
    · replace hf := z_in hc18 hf
      refine lv_aload_n hx hb dX9_waits_21 rfl (lv_at hl 0 rfl) ?_
      refine z_getI B hW (Or.inl zf_X9_219) rfl hg7 dX9_waits_22 ?_
      refine lv_i2d hx hb dX9_waits_25 ?_
      refine lv_goto (tgt := 40) hx hb dX9_waits_26 (by decide) ?_
      exact t_X9_waits_40 B hf hW (lv_sub hl [] rfl) 
  · replace hf := z_ip hc12 hf
    refine lv_dconst0 hx hb dX9_waits_15 ?_
    obtain rfl := z_e1 hf
    exact z_rd B hW dX9_waits_16 (Nat.le_of_ble_eq_true rfl) (Nat.le_of_ble_eq_true rfl)
set_option maxRecDepth 100000 in
def f_X9_use_34 (σ : zSt) (s0 : UInt64) : Option (UInt64) :=
(some s0)
set_option maxRecDepth 20000 in
set_option maxHeartbeats 4000000 in
theorem t_X9_use_34 (B : z_B p s m args meth c D cA bs RX9 cX9_use 1 (some .double)) {r : UInt64} {σ : zSt} {s0 : UInt64} (hf : f_X9_use_34 σ s0 = some r) {H : Heap} {locs : List Loc} {ls : Array Slot} (hW : z_Ok D cA bs s σ H locs) (hl : lv_has ls 1 [])  : W p l e (zrm 0 0 0 0) s m args below meth c H locs 0 0 (MQ below (z_Qd D cA bs r σ) args s 0 0 (fun q => bs ≤ q)) (F0 m 34 ls [.double s0]) := by
  have hx := B.1
  have hb := B.2.1
  have hown := B.2.2.2.1
  have hts := B.2.2.2.2.1
  unfold f_X9_use_34 at hf
  obtain rfl := z_e1 hf
  exact z_rd B hW dX9_use_34 (Nat.le_of_ble_eq_true rfl) (Nat.le_of_ble_eq_true rfl)
set_option maxRecDepth 100000 in
def f_X9_use (σ : zSt) (l0 : Nat) : Option (UInt64) :=
(if z_ob σ l0 8 then (zc (z_R σ l0 0) none (fun q2 => (if z_ob σ q2 2 then (if (z_I σ q2 9) = 0 then
(f_X9_use_34 σ FP.dconst0)
else
(zc (z_R σ l0 0) none (fun q5 => (if z_ob σ q5 2 then (zc (z_R σ q5 3) none (fun q8 => (if z_ob σ q8 0 then (zc (z_R σ l0 0) none (fun q11 => (if z_ob σ q11 2 then (if vf_n64b (FP.ddiv (FP.i2d (z_I σ q8 6)) (FP.i2d (z_I σ q11 9))) then (f_X9_use_34 σ (FP.ddiv (FP.i2d (z_I σ q8 6)) (FP.i2d (z_I σ q11 9)))) else none) else none))) else none))) else none)))) else none))) else none)
set_option maxRecDepth 20000 in
set_option maxHeartbeats 4000000 in
theorem K_X9_use {σ : zSt} {l0 : Nat} {r : UInt64} (hf : f_X9_use σ l0 = some r) : z_M l D cA bs yX9_use cX9_use 1 (some .double) 0 0 0 0 [.ref l0] σ (z_Qd D cA bs r σ) := by
  refine z_met (own := RX9) (lv := [(0, .ref l0)]) (by decide) rfl (Nat.le_of_ble_eq_true rfl) rfl (fun p e s m below meth c ls B hnm hW hl => ?_)
  have hx := B.1
  have hb := B.2.1
  have hown := B.2.2.2.1
  have hts := B.2.2.2.2.1
  unfold f_X9_use at hf
  refine lv_aload_n hx hb dX9_use_0 rfl (lv_at hl 0 rfl) ?_
  obtain ⟨hg1, hf⟩ := z_g hf
  obtain ⟨q2, hv3, hf⟩ := z_nn hf
  refine z_getN B hW (Or.inr zf_X9_10) rfl hg1 hv3 dX9_use_1 ?_
  obtain ⟨hg4, hf⟩ := z_g hf
  refine z_getI B hW (Or.inl zf_X9_106) rfl hg4 dX9_use_4 ?_
  refine lv_if_ne (tgt := 14) hx hb dX9_use_7 (by decide) (fun hc7 => ?_) (fun hc7 => ?_)
  · replace hf := z_in hc7 hf
    refine lv_aload_n hx hb dX9_use_14 rfl (lv_at hl 0 rfl) ?_
    obtain ⟨q5, hv6, hf⟩ := z_nn hf
    refine z_getN B hW (Or.inr zf_X9_10) rfl hg1 hv6 dX9_use_15 ?_
    obtain ⟨hg7, hf⟩ := z_g hf
    obtain ⟨q8, hv9, hf⟩ := z_nn hf
    refine z_getN B hW (Or.inr zf_X9_191) rfl hg7 hv9 dX9_use_18 ?_
    obtain ⟨hg10, hf⟩ := z_g hf
    refine z_getI B hW (Or.inl zf_X9_226) rfl hg10 dX9_use_21 ?_
    refine lv_i2d hx hb dX9_use_24 ?_
    refine lv_aload_n hx hb dX9_use_25 rfl (lv_at hl 0 rfl) ?_
    obtain ⟨q11, hv12, hf⟩ := z_nn hf
    refine z_getN B hW (Or.inr zf_X9_10) rfl hg1 hv12 dX9_use_26 ?_
    obtain ⟨hg13, hf⟩ := z_g hf
    refine z_getI B hW (Or.inl zf_X9_106) rfl hg13 dX9_use_29 ?_
    refine lv_i2d hx hb dX9_use_32 ?_
    obtain ⟨hg14, hf⟩ := z_g hf
    refine lv_ddiv hx hb dX9_use_33 (vf_n64b_of hg14) ?_
    exact t_X9_use_34 B hf hW (lv_sub hl [] rfl) 
  · replace hf := z_ip hc7 hf
    refine lv_dconst0 hx hb dX9_use_10 ?_
    refine lv_goto (tgt := 34) hx hb dX9_use_11 (by decide) ?_
    exact t_X9_use_34 B hf hW (lv_sub hl [] rfl) 
set_option maxRecDepth 100000 in
def f_X9_sendsAll_64 (σ : zSt) (s0 : Int32) : Option (Int32 × zSt) :=
(if z_bl s0 then (some (s0, σ)) else none)
set_option maxRecDepth 20000 in
set_option maxHeartbeats 4000000 in
theorem t_X9_sendsAll_64 (B : z_B p s m args meth c D cA bs RX9 cX9_sendsAll 4 (some .boolean)) {r : Int32} {σ' : zSt} {σ : zSt} {s0 : Int32} (hf : f_X9_sendsAll_64 σ s0 = some (r, σ')) {H : Heap} {locs : List Loc} {ls : Array Slot} (hW : z_Ok D cA bs s σ H locs) (hl : lv_has ls 4 [])  : W p l e (zrm 5 0 0 126) s m args below meth c H locs 0 0 (MQ below (z_Qi D cA bs r σ') args s 0 0 (fun q => bs ≤ q)) (F0 m 64 ls [.int s0]) := by
  have hx := B.1
  have hb := B.2.1
  have hown := B.2.2.2.1
  have hts := B.2.2.2.2.1
  unfold f_X9_sendsAll_64 at hf
  obtain ⟨hg1, hf⟩ := z_g hf
  obtain ⟨rfl, rfl⟩ := z_e2 hf
  exact z_rz hg1 B hW dX9_sendsAll_64 (Nat.le_of_ble_eq_true rfl) (Nat.le_of_ble_eq_true rfl)
set_option maxRecDepth 100000 in
def f_X9_sendsAll_49 (σ : zSt) (l0 : Nat) : Option (Int32 × zSt) :=
(if z_ob σ l0 8 then (zc (z_R σ l0 1) none (fun q2 => (if z_ob σ q2 2 then (zb (f_X2_isWaitedAt σ q2) (fun r6 => (if r6 = 0 then
(f_X9_sendsAll_64 σ (1 : Int32))
else
(f_X9_sendsAll_64 σ (0 : Int32))))) else none))) else none)
set_option maxRecDepth 20000 in
set_option maxHeartbeats 4000000 in
theorem t_X9_sendsAll_49 (B : z_B p s m args meth c D cA bs RX9 cX9_sendsAll 4 (some .boolean)) {r : Int32} {σ' : zSt} {σ : zSt} {l0 : Nat} (hf : f_X9_sendsAll_49 σ l0 = some (r, σ')) {H : Heap} {locs : List Loc} {ls : Array Slot} (hW : z_Ok D cA bs s σ H locs) (hl : lv_has ls 4 [(0, .ref l0)])  : W p l e (zrm 5 0 0 126) s m args below meth c H locs 0 0 (MQ below (z_Qi D cA bs r σ') args s 0 0 (fun q => bs ≤ q)) (F0 m 49 ls []) := by
  have hx := B.1
  have hb := B.2.1
  have hown := B.2.2.2.1
  have hts := B.2.2.2.2.1
  unfold f_X9_sendsAll_49 at hf
  refine lv_aload_n hx hb dX9_sendsAll_49 rfl (lv_at hl 0 rfl) ?_
  obtain ⟨hg1, hf⟩ := z_g hf
  obtain ⟨q2, hv3, hf⟩ := z_nn hf
  refine z_getN B hW (Or.inr zf_X9_16) rfl hg1 hv3 dX9_sendsAll_50 ?_
  obtain ⟨hg4, hf⟩ := z_g hf
  obtain ⟨r6, hq5, hf⟩ := z_b hf
  refine z_ci hW (z_runV (As := []) (rest := []) B hW zv_X9_284 (K_X2_isWaitedAt hq5) hg4 rfl rfl rfl (Nat.le_of_ble_eq_true rfl) hl.1 ⟨Nat.le_of_ble_eq_true rfl, Nat.le_of_ble_eq_true rfl⟩ dX9_sendsAll_53 ⟨Nat.le_of_ble_eq_true rfl, Nat.le_of_ble_eq_true rfl⟩) (fun H locs hW => ?_)
  refine lv_if_ne (tgt := 63) hx hb dX9_sendsAll_56 (by decide) (fun hc56 => ?_) (fun hc56 => ?_)
  · replace hf := z_in hc56 hf
    refine lv_iconst (v := (0 : Int32)) hx hb dX9_sendsAll_63 (by decide) ?_
    exact t_X9_sendsAll_64 B hf hW (lv_sub hl [] rfl) 
  · replace hf := z_ip hc56 hf
    refine lv_iconst (v := (1 : Int32)) hx hb dX9_sendsAll_59 (by decide) ?_
    refine lv_goto (tgt := 64) hx hb dX9_sendsAll_60 (by decide) ?_
    exact t_X9_sendsAll_64 B hf hW (lv_sub hl [] rfl) 
set_option maxRecDepth 100000 in
def b_X9_sendsAll_21 (l0 : Nat) (l2 : Int32) (σ : zSt) (l3 : Int32) : Option ((zSt × Int32) ⊕ (Int32 × zSt)) :=
(if l2 ≤ l3 then
(zex (f_X9_sendsAll_49 σ l0))
else
(if z_ob σ l0 8 then (zc (z_R σ l0 1) none (fun q3 => (if z_ob σ q3 2 then (zb (f_X2_isWaitedAt σ q3) (fun r7 => (if r7 = 0 then
(zex (f_X9_sendsAll_49 σ l0))
else
(zc (z_R σ l0 1) none (fun q9 => (zb (f_X8_makeVisit σ q9) (fun σ12 => (some (.inl (σ12, (l3 + (1 : Int32)))))))))))) else none))) else none))
set_option maxRecDepth 100000 in
def f_X9_sendsAll_21 (l0 : Nat) (l2 : Int32) (σ : zSt) (l3 : Int32) : Option (Int32 × zSt) := zloop (fun (t : zSt × Int32) => b_X9_sendsAll_21 l0 l2 t.1 t.2) zN (σ, l3)
set_option maxRecDepth 20000 in
set_option maxHeartbeats 4000000 in
theorem tb_X9_sendsAll_21 (B : z_B p s m args meth c D cA bs RX9 cX9_sendsAll 4 (some .boolean)) {r : Int32} {σ' : zSt} {o1 : (zSt × Int32) ⊕ (Int32 × zSt)} {l0 : Nat} {l2 : Int32} {σ : zSt} {l3 : Int32} (hf : b_X9_sendsAll_21 l0 l2 σ l3 = some o1) {H : Heap} {locs : List Loc} {ls : Array Slot} (hW : z_Ok D cA bs s σ H locs) (hl : lv_has ls 4 [(0, .ref l0), (2, .int l2), (3, .int l3)]) (hk1 : ∀ (σ : zSt) (l3 : Int32), o1 = .inl (σ, l3) → ∀ {H : Heap} {locs : List Loc} {ls : Array Slot}, z_Ok D cA bs s σ H locs → lv_has ls 4 [(0, .ref l0), (2, .int l2), (3, .int l3)] → W p l e (zrm 5 0 0 126) s m args below meth c H locs 0 0 (MQ below (z_Qi D cA bs r σ') args s 0 0 (fun q => bs ≤ q)) (F0 m 21 ls [])) (hr1 : ∀ x, o1 = .inr x → x = (r, σ')) : W p l e (zrm 5 0 0 126) s m args below meth c H locs 0 0 (MQ below (z_Qi D cA bs r σ') args s 0 0 (fun q => bs ≤ q)) (F0 m 21 ls []) := by
  have hx := B.1
  have hb := B.2.1
  have hown := B.2.2.2.1
  have hts := B.2.2.2.2.1
  unfold b_X9_sendsAll_21 at hf
  refine lv_iload_n hx hb dX9_sendsAll_21 rfl (lv_at hl 2 rfl) ?_
  refine lv_iload_n hx hb dX9_sendsAll_22 rfl (lv_at hl 1 rfl) ?_
  refine lv_icmp_ge (tgt := 49) hx hb dX9_sendsAll_23 (by decide) (fun hc23 => ?_) (fun hc23 => ?_)
  · replace hf := z_ip hc23 hf
    obtain ⟨w1, hf, ho1⟩ := z_x hf
    obtain rfl := hr1 _ ho1
    exact t_X9_sendsAll_49 B hf hW (lv_sub hl [0] rfl) 
  · replace hf := z_in hc23 hf
    refine lv_aload_n hx hb dX9_sendsAll_26 rfl (lv_at hl 0 rfl) ?_
    obtain ⟨hg2, hf⟩ := z_g hf
    obtain ⟨q3, hv4, hf⟩ := z_nn hf
    refine z_getN B hW (Or.inr zf_X9_16) rfl hg2 hv4 dX9_sendsAll_27 ?_
    obtain ⟨hg5, hf⟩ := z_g hf
    obtain ⟨r7, hq6, hf⟩ := z_b hf
    refine z_ci hW (z_runV (As := []) (rest := []) B hW zv_X9_284 (K_X2_isWaitedAt hq6) hg5 rfl rfl rfl (Nat.le_of_ble_eq_true rfl) hl.1 ⟨Nat.le_of_ble_eq_true rfl, Nat.le_of_ble_eq_true rfl⟩ dX9_sendsAll_30 ⟨Nat.le_of_ble_eq_true rfl, Nat.le_of_ble_eq_true rfl⟩) (fun H locs hW => ?_)
    refine lv_if_eq (tgt := 49) hx hb dX9_sendsAll_33 (by decide) (fun hc33 => ?_) (fun hc33 => ?_)
    · replace hf := z_ip hc33 hf
      obtain ⟨w1, hf, ho8⟩ := z_x hf
      obtain rfl := hr1 _ ho8
      exact t_X9_sendsAll_49 B hf hW (lv_sub hl [0] rfl) 
    · replace hf := z_in hc33 hf
      refine lv_aload_n hx hb dX9_sendsAll_36 rfl (lv_at hl 0 rfl) ?_
      obtain ⟨q9, hv10, hf⟩ := z_nn hf
      refine z_getN B hW (Or.inr zf_X9_16) rfl hg2 hv10 dX9_sendsAll_37 ?_
      obtain ⟨σ12, hq11, hf⟩ := z_b hf
      refine z_cv hW (z_runS (As := [.ref q9]) (rest := []) B hW zv_X9_138 (K_X8_makeVisit hq11) rfl rfl (Nat.le_of_ble_eq_true rfl) hl.1 ⟨Nat.le_of_ble_eq_true rfl, Nat.le_of_ble_eq_true rfl⟩ dX9_sendsAll_40 ⟨Nat.le_of_ble_eq_true rfl, Nat.le_of_ble_eq_true rfl⟩) (fun H locs hW => ?_)
      refine lv_iinc (v := (l3 + (1 : Int32))) (lv' := [(3, .int (l3 + (1 : Int32))), (0, .ref l0), (2, .int l2)]) hx hb dX9_sendsAll_43 hl (k := 2) rfl rfl (by decide) rfl (fun ls hl => ?_)
      refine lv_goto (tgt := 21) hx hb dX9_sendsAll_46 (by decide) ?_
      exact hk1 _ _ (Option.some.inj hf).symm hW (lv_sub hl [1, 2, 0] rfl)
set_option maxRecDepth 20000 in
set_option maxHeartbeats 4000000 in
theorem t_X9_sendsAll_21 (B : z_B p s m args meth c D cA bs RX9 cX9_sendsAll 4 (some .boolean)) {r : Int32} {σ' : zSt} {l0 : Nat} {l2 : Int32}  : ∀ (n : Nat) {σ : zSt} {l3 : Int32}, zloop (fun (t : zSt × Int32) => b_X9_sendsAll_21 l0 l2 t.1 t.2) n (σ, l3) = some (r, σ') → ∀ {H : Heap} {locs : List Loc} {ls : Array Slot}, z_Ok D cA bs s σ H locs → lv_has ls 4 [(0, .ref l0), (2, .int l2), (3, .int l3)] → W p l e (zrm 5 0 0 126) s m args below meth c H locs 0 0 (MQ below (z_Qi D cA bs r σ') args s 0 0 (fun q => bs ≤ q)) (F0 m 21 ls []) := by
  intro n
  induction n with
  | zero => intro σ l3 hf; cases hf
  | succ n ih =>
    intro σ l3 hf H locs ls hW hl
    obtain ⟨o1, hb1, hf⟩ := z_lp hf
    refine tb_X9_sendsAll_21 B hb1 hW hl  (fun σ l3 he H locs ls hW hl => ?_) (fun x he => ?_)
    · rcases hf with ⟨t, ht, hf⟩ | hf
      · rw [he] at ht
        cases ht
        exact ih hf hW hl
      · rw [he] at hf
        cases hf
    · rcases hf with ⟨t, ht, hf⟩ | hf
      · rw [he] at ht
        cases ht
      · rw [he] at hf
        exact Sum.inr.inj hf
set_option maxRecDepth 100000 in
def f_X9_sendsAll (σ : zSt) (l0 : Nat) (l1 : Int32) (l2 : Int32) : Option (Int32 × zSt) :=
(if z_ob σ l0 8 then (zc (z_R σ l0 1) none (fun q2 => (zc (z_R σ l0 0) none (fun q4 => (if z_ob σ q2 2 then (zb (f_X2_copyFrom σ q2 q4) (fun σ8 => (if z_ob σ8 l0 8 then (zc (z_R σ8 l0 1) none (fun q10 => (if z_ob σ8 q10 2 then (zl (z_pI σ8 q10 6 l1) (fun σ13 => (f_X9_sendsAll_21 l0 l2 σ13 (0 : Int32)))) else none))) else none))) else none))))) else none)
set_option maxRecDepth 20000 in
set_option maxHeartbeats 4000000 in
theorem K_X9_sendsAll {σ : zSt} {l0 : Nat} {l1 : Int32} {l2 : Int32} {r : Int32} {σ' : zSt} (hf : f_X9_sendsAll σ l0 l1 l2 = some (r, σ')) : z_M l D cA bs yX9_sendsAll cX9_sendsAll 4 (some .boolean) 5 126 0 0 [.ref l0, .int l1, .int l2] σ (z_Qi D cA bs r σ') := by
  refine z_met (own := RX9) (lv := [(0, .ref l0), (1, .int l1), (2, .int l2)]) (by decide) rfl (Nat.le_of_ble_eq_true rfl) rfl (fun p e s m below meth c ls B hnm hW hl => ?_)
  have hx := B.1
  have hb := B.2.1
  have hown := B.2.2.2.1
  have hts := B.2.2.2.2.1
  unfold f_X9_sendsAll at hf
  refine lv_aload_n hx hb dX9_sendsAll_0 rfl (lv_at hl 0 rfl) ?_
  obtain ⟨hg1, hf⟩ := z_g hf
  obtain ⟨q2, hv3, hf⟩ := z_nn hf
  refine z_getN B hW (Or.inr zf_X9_16) rfl hg1 hv3 dX9_sendsAll_1 ?_
  refine lv_aload_n hx hb dX9_sendsAll_4 rfl (lv_at hl 0 rfl) ?_
  obtain ⟨q4, hv5, hf⟩ := z_nn hf
  refine z_getN B hW (Or.inr zf_X9_10) rfl hg1 hv5 dX9_sendsAll_5 ?_
  obtain ⟨hg6, hf⟩ := z_g hf
  obtain ⟨σ8, hq7, hf⟩ := z_b hf
  refine z_cv hW (z_runV (As := [.ref q4]) (rest := []) B hW zv_X9_231 (K_X2_copyFrom hq7) hg6 rfl rfl rfl (Nat.le_of_ble_eq_true rfl) hl.1 ⟨Nat.le_of_ble_eq_true rfl, Nat.le_of_ble_eq_true rfl⟩ dX9_sendsAll_8 ⟨Nat.le_of_ble_eq_true rfl, Nat.le_of_ble_eq_true rfl⟩) (fun H locs hW => ?_)
  refine lv_aload_n hx hb dX9_sendsAll_11 rfl (lv_at hl 0 rfl) ?_
  obtain ⟨hg9, hf⟩ := z_g hf
  obtain ⟨q10, hv11, hf⟩ := z_nn hf
  refine z_getN B hW (Or.inr zf_X9_16) rfl hg9 hv11 dX9_sendsAll_12 ?_
  refine lv_iload_n hx hb dX9_sendsAll_15 rfl (lv_at hl 1 rfl) ?_
  obtain ⟨hg12, hf⟩ := z_g hf
  obtain ⟨σ13, hs14, hf⟩ := z_l hf
  refine z_putI B hW zf_X9_86 hg12 rfl hs14 dX9_sendsAll_16 (fun H locs hW => ?_)
  refine lv_iconst (v := (0 : Int32)) hx hb dX9_sendsAll_19 (by decide) ?_
  refine lv_istore_n (lv' := [(3, .int (0 : Int32)), (0, .ref l0), (1, .int l1), (2, .int l2)]) hx hb dX9_sendsAll_20 rfl hl (by decide) rfl (fun ls hl => ?_)
  unfold f_X9_sendsAll_21 at hf
  exact t_X9_sendsAll_21 B  zN hf hW (lv_sub hl [1, 3, 0] rfl)
set_option maxRecDepth 100000 in
def f_X9_clearText (σ : zSt) (l0 : Nat) : Option (Int32 × zSt) :=
(if z_ob σ l0 8 then (zl (z_I σ l0 4) (fun x2 => (zl (z_pI σ l0 4 (0 : Int32)) (fun σ4 => (some (x2, σ4)))))) else none)
set_option maxRecDepth 20000 in
set_option maxHeartbeats 4000000 in
theorem K_X9_clearText {σ : zSt} {l0 : Nat} {r : Int32} {σ' : zSt} (hf : f_X9_clearText σ l0 = some (r, σ')) : z_M l D cA bs yX9_clearText cX9_clearText 2 (some .int) 0 0 0 0 [.ref l0] σ (z_Qi D cA bs r σ') := by
  refine z_met (own := RX9) (lv := [(0, .ref l0)]) (by decide) rfl (Nat.le_of_ble_eq_true rfl) rfl (fun p e s m below meth c ls B hnm hW hl => ?_)
  have hx := B.1
  have hb := B.2.1
  have hown := B.2.2.2.1
  have hts := B.2.2.2.2.1
  unfold f_X9_clearText at hf
  refine lv_aload_n hx hb dX9_clearText_0 rfl (lv_at hl 0 rfl) ?_
  obtain ⟨hg1, hf⟩ := z_g hf
  refine z_getI B hW (Or.inl zf_X9_242) rfl hg1 dX9_clearText_1 ?_
  obtain ⟨x2, hx3, hf⟩ := z_l hf
  rw [hx3]
  refine lv_istore_n (lv' := [(1, .int x2), (0, .ref l0)]) hx hb dX9_clearText_4 rfl hl (by decide) rfl (fun ls hl => ?_)
  refine lv_aload_n hx hb dX9_clearText_5 rfl (lv_at hl 1 rfl) ?_
  refine lv_iconst (v := (0 : Int32)) hx hb dX9_clearText_6 (by decide) ?_
  obtain ⟨σ4, hs5, hf⟩ := z_l hf
  refine z_putI B hW zf_X9_242 hg1 rfl hs5 dX9_clearText_7 (fun H locs hW => ?_)
  refine lv_iload_n hx hb dX9_clearText_10 rfl (lv_at hl 0 rfl) ?_
  obtain ⟨rfl, rfl⟩ := z_e2 hf
  exact z_ri B hW dX9_clearText_11 (Nat.le_of_ble_eq_true rfl) (Nat.le_of_ble_eq_true rfl)
set_option maxRecDepth 100000 in
def f_X9_parse (σ : zSt) (l0 : Nat) : Option (Int32 × zSt) :=
(if z_ob σ l0 8 then (zc (z_R σ l0 1) none (fun q2 => (if z_ob σ q2 2 then (zb (f_X2_clear σ q2) (fun σ6 => (if z_ob σ6 l0 8 then (zc (z_R σ6 l0 1) none (fun q8 => (zc (z_R σ6 l0 0) none (fun q10 => (if z_ob σ6 q8 2 then (zb (f_X2_takeTimes σ6 q8 q10) (fun σ14 => (zl (z_nw σ14 (.inl 5)) (fun σ15 => (if z_ob σ15 l0 8 then (zc (z_R σ15 l0 3) none (fun q18 => (zc (z_R σ15 l0 1) none (fun q20 => (zb (f_X5_init σ15 (z_nx σ14) q18 (z_I σ15 l0 4) q20) (fun σ23 => (if z_ob σ23 (z_nx σ14) 5 then (zb2 (f_X5_readItems σ23 (z_nx σ14)) (fun r26 σ27 => (if r26 = (-1 : Int32) then
(if z_ob σ27 (z_nx σ14) 5 then (some (((-10 : Int32) - (z_I σ27 (z_nx σ14) 5)), σ27)) else none)
else
(if z_ob σ27 l0 8 then (zc (z_R σ27 l0 2) none (fun q29 => (zc (z_R σ27 l0 0) none (fun q31 => (if z_ob σ27 q29 1 then (zb (f_X1_save σ27 q29 q31) (fun σ35 => (if z_ob σ35 l0 8 then (zc (z_R σ35 l0 0) none (fun q37 => (zc (z_R σ35 l0 1) none (fun q39 => (if z_ob σ35 q37 2 then (zb (f_X2_copyFrom σ35 q37 q39) (fun σ43 => (some (r26, σ43)))) else none))))) else none))) else none))))) else none)))) else none))))))) else none))))) else none))))) else none))) else none))) else none)
set_option maxRecDepth 20000 in
set_option maxHeartbeats 4000000 in
theorem K_X9_parse {σ : zSt} {l0 : Nat} {r : Int32} {σ' : zSt} (hf : f_X9_parse σ l0 = some (r, σ')) : z_M l D cA bs yX9_parse cX9_parse 3 (some .int) 6 148 1 6 [.ref l0] σ (z_Qi D cA bs r σ') := by
  refine z_met (own := RX9) (lv := [(0, .ref l0)]) (by decide) rfl (Nat.le_of_ble_eq_true rfl) rfl (fun p e s m below meth c ls B hnm hW hl => ?_)
  have hx := B.1
  have hb := B.2.1
  have hown := B.2.2.2.1
  have hts := B.2.2.2.2.1
  unfold f_X9_parse at hf
  refine lv_aload_n hx hb dX9_parse_0 rfl (lv_at hl 0 rfl) ?_
  obtain ⟨hg1, hf⟩ := z_g hf
  obtain ⟨q2, hv3, hf⟩ := z_nn hf
  refine z_getN B hW (Or.inr zf_X9_16) rfl hg1 hv3 dX9_parse_1 ?_
  obtain ⟨hg4, hf⟩ := z_g hf
  obtain ⟨σ6, hq5, hf⟩ := z_b hf
  refine z_cv hW (z_runV (As := []) (rest := []) B hW zv_X9_247 (K_X2_clear hq5) hg4 rfl rfl rfl (Nat.le_of_ble_eq_true rfl) hl.1 ⟨Nat.le_of_ble_eq_true rfl, Nat.le_of_ble_eq_true rfl⟩ dX9_parse_4 ⟨Nat.le_of_ble_eq_true rfl, Nat.le_of_ble_eq_true rfl⟩) (fun H locs hW => ?_)
  refine lv_aload_n hx hb dX9_parse_7 rfl (lv_at hl 0 rfl) ?_
  obtain ⟨hg7, hf⟩ := z_g hf
  obtain ⟨q8, hv9, hf⟩ := z_nn hf
  refine z_getN B hW (Or.inr zf_X9_16) rfl hg7 hv9 dX9_parse_8 ?_
  refine lv_aload_n hx hb dX9_parse_11 rfl (lv_at hl 0 rfl) ?_
  obtain ⟨q10, hv11, hf⟩ := z_nn hf
  refine z_getN B hW (Or.inr zf_X9_10) rfl hg7 hv11 dX9_parse_12 ?_
  obtain ⟨hg12, hf⟩ := z_g hf
  obtain ⟨σ14, hq13, hf⟩ := z_b hf
  refine z_cv hW (z_runV (As := [.ref q10]) (rest := []) B hW zv_X9_250 (K_X2_takeTimes hq13) hg12 rfl rfl rfl (Nat.le_of_ble_eq_true rfl) hl.1 ⟨Nat.le_of_ble_eq_true rfl, Nat.le_of_ble_eq_true rfl⟩ dX9_parse_15 ⟨Nat.le_of_ble_eq_true rfl, Nat.le_of_ble_eq_true rfl⟩) (fun H locs hW => ?_)
  obtain ⟨σ15, hs16, hf⟩ := z_l hf
  refine z_newOb B hW zw_X9_253 hs16 (Nat.le_of_ble_eq_true rfl) (Nat.le_of_ble_eq_true rfl) dX9_parse_18 (fun H hW => ?_)
  refine lv_dup hx hb dX9_parse_21 rfl ?_
  refine lv_aload_n hx hb dX9_parse_22 rfl (lv_at hl 0 rfl) ?_
  obtain ⟨hg17, hf⟩ := z_g hf
  obtain ⟨q18, hv19, hf⟩ := z_nn hf
  refine z_getN B hW (Or.inr zf_X9_26) rfl hg17 hv19 dX9_parse_23 ?_
  refine lv_aload_n hx hb dX9_parse_26 rfl (lv_at hl 0 rfl) ?_
  refine z_getI B hW (Or.inl zf_X9_242) rfl hg17 dX9_parse_27 ?_
  refine lv_aload_n hx hb dX9_parse_30 rfl (lv_at hl 0 rfl) ?_
  obtain ⟨q20, hv21, hf⟩ := z_nn hf
  refine z_getN B hW (Or.inr zf_X9_16) rfl hg17 hv21 dX9_parse_31 ?_
  obtain ⟨σ23, hq22, hf⟩ := z_b hf
  refine z_cv hW (z_runI (As := [.ref q18, .int (z_I σ15 l0 4), .ref q20]) (rest := [.ref (z_nx σ14)]) B hW zv_X9_255 (K_X5_init hq22) rfl rfl (Nat.le_of_ble_eq_true rfl) hl.1 ⟨Nat.le_of_ble_eq_true rfl, Nat.le_of_ble_eq_true rfl⟩ dX9_parse_34 ⟨Nat.le_of_ble_eq_true rfl, Nat.le_of_ble_eq_true rfl⟩) (fun H locs hW => ?_)
  refine lv_astore_n (lv' := [(1, .ref (z_nx σ14)), (0, .ref l0)]) hx hb dX9_parse_37 rfl hl (by decide) rfl (fun ls hl => ?_)
  refine lv_aload_n hx hb dX9_parse_38 rfl (lv_at hl 0 rfl) ?_
  obtain ⟨hg24, hf⟩ := z_g hf
  obtain ⟨r26, σ27, hq25, hf⟩ := z_b2 hf
  refine z_ci hW (z_runV (As := []) (rest := []) B hW zv_X9_258 (K_X5_readItems hq25) hg24 rfl rfl rfl (Nat.le_of_ble_eq_true rfl) hl.1 ⟨Nat.le_of_ble_eq_true rfl, Nat.le_of_ble_eq_true rfl⟩ dX9_parse_39 ⟨Nat.le_of_ble_eq_true rfl, Nat.le_of_ble_eq_true rfl⟩) (fun H locs hW => ?_)
  refine lv_istore_n (lv' := [(2, .int r26), (1, .ref (z_nx σ14)), (0, .ref l0)]) hx hb dX9_parse_42 rfl hl (by decide) rfl (fun ls hl => ?_)
  refine lv_iload_n hx hb dX9_parse_43 rfl (lv_at hl 0 rfl) ?_
  refine lv_iconst (v := (-1 : Int32)) hx hb dX9_parse_44 (by decide) ?_
  refine lv_icmp_ne (tgt := 56) hx hb dX9_parse_45 (by decide) (fun hc45 => ?_) (fun hc45 => ?_)
  · replace hf := z_in hc45 hf
    refine lv_aload_n hx hb dX9_parse_56 rfl (lv_at hl 2 rfl) ?_
    obtain ⟨hg28, hf⟩ := z_g hf
    obtain ⟨q29, hv30, hf⟩ := z_nn hf
    refine z_getN B hW (Or.inr zf_X9_22) rfl hg28 hv30 dX9_parse_57 ?_
    refine lv_aload_n hx hb dX9_parse_60 rfl (lv_at hl 2 rfl) ?_
    obtain ⟨q31, hv32, hf⟩ := z_nn hf
    refine z_getN B hW (Or.inr zf_X9_10) rfl hg28 hv32 dX9_parse_61 ?_
    obtain ⟨hg33, hf⟩ := z_g hf
    obtain ⟨σ35, hq34, hf⟩ := z_b hf
    refine z_cv hW (z_runV (As := [.ref q31]) (rest := []) B hW zv_X9_54 (K_X1_save hq34) hg33 rfl rfl rfl (Nat.le_of_ble_eq_true rfl) hl.1 ⟨Nat.le_of_ble_eq_true rfl, Nat.le_of_ble_eq_true rfl⟩ dX9_parse_64 ⟨Nat.le_of_ble_eq_true rfl, Nat.le_of_ble_eq_true rfl⟩) (fun H locs hW => ?_)
    refine lv_aload_n hx hb dX9_parse_67 rfl (lv_at hl 2 rfl) ?_
    obtain ⟨hg36, hf⟩ := z_g hf
    obtain ⟨q37, hv38, hf⟩ := z_nn hf
    refine z_getN B hW (Or.inr zf_X9_10) rfl hg36 hv38 dX9_parse_68 ?_
    refine lv_aload_n hx hb dX9_parse_71 rfl (lv_at hl 2 rfl) ?_
    obtain ⟨q39, hv40, hf⟩ := z_nn hf
    refine z_getN B hW (Or.inr zf_X9_16) rfl hg36 hv40 dX9_parse_72 ?_
    obtain ⟨hg41, hf⟩ := z_g hf
    obtain ⟨σ43, hq42, hf⟩ := z_b hf
    refine z_cv hW (z_runV (As := [.ref q39]) (rest := []) B hW zv_X9_231 (K_X2_copyFrom hq42) hg41 rfl rfl rfl (Nat.le_of_ble_eq_true rfl) hl.1 ⟨Nat.le_of_ble_eq_true rfl, Nat.le_of_ble_eq_true rfl⟩ dX9_parse_75 ⟨Nat.le_of_ble_eq_true rfl, Nat.le_of_ble_eq_true rfl⟩) (fun H locs hW => ?_)
    refine lv_iload_n hx hb dX9_parse_78 rfl (lv_at hl 0 rfl) ?_
    obtain ⟨rfl, rfl⟩ := z_e2 hf
    exact z_ri B hW dX9_parse_79 (Nat.le_of_ble_eq_true rfl) (Nat.le_of_ble_eq_true rfl)
  · replace hf := z_ip hc45 hf
    refine lv_bipush (v := (-10 : Int32)) hx hb dX9_parse_48 (by decide) ?_
    refine lv_aload_n hx hb dX9_parse_50 rfl (lv_at hl 1 rfl) ?_
    obtain ⟨hg44, hf⟩ := z_g hf
    refine z_getI B hW (Or.inl zf_X9_261) rfl hg44 dX9_parse_51 ?_
    refine lv_isub hx hb dX9_parse_54 ?_
    obtain ⟨rfl, rfl⟩ := z_e2 hf
    exact z_ri B hW dX9_parse_55 (Nat.le_of_ble_eq_true rfl) (Nat.le_of_ble_eq_true rfl)
set_option maxRecDepth 100000 in
def f_X9_digest (σ : zSt) (l0 : Nat) : Option (Int64) :=
(if z_ob σ l0 8 then (zb (f_X9_mixed σ (3169 : Int64) ((z_I σ l0 4).toInt64)) (fun r3 => (zc (z_R σ l0 0) none (fun q4 => (if z_ob σ q4 2 then (zb (f_X2_hashed σ q4 r3) (fun r8 => (zc (z_R σ l0 2) none (fun q9 => (if z_ob σ q9 1 then (zb (f_X9_mixed σ r8 ((z_I σ q9 1).toInt64)) (fun r13 => (some r13))) else none))))) else none))))) else none)
set_option maxRecDepth 20000 in
set_option maxHeartbeats 4000000 in
theorem K_X9_digest {σ : zSt} {l0 : Nat} {r : Int64} (hf : f_X9_digest σ l0 = some r) : z_M l D cA bs yX9_digest cX9_digest 3 (some .long) 5 121 0 0 [.ref l0] σ (z_Ql D cA bs r σ) := by
  refine z_met (own := RX9) (lv := [(0, .ref l0)]) (by decide) rfl (Nat.le_of_ble_eq_true rfl) rfl (fun p e s m below meth c ls B hnm hW hl => ?_)
  have hx := B.1
  have hb := B.2.1
  have hown := B.2.2.2.1
  have hts := B.2.2.2.2.1
  unfold f_X9_digest at hf
  refine lv_ldc2 hx hb hown (hts _ zk_X9_272) dX9_digest_0 ?_
  refine lv_aload_n hx hb dX9_digest_3 rfl (lv_at hl 0 rfl) ?_
  obtain ⟨hg1, hf⟩ := z_g hf
  refine z_getI B hW (Or.inl zf_X9_242) rfl hg1 dX9_digest_4 ?_
  refine lv_i2l (v := (z_I σ l0 4).toInt64) hx hb dX9_digest_7 rfl ?_
  obtain ⟨r3, hq2, hf⟩ := z_b hf
  refine z_cl hW (z_runS (As := [.long (3169 : Int64), .long (z_I σ l0 4).toInt64]) (rest := []) B hW zv_X9_274 (K_X9_mixed hq2) rfl rfl (Nat.le_of_ble_eq_true rfl) hl.1 ⟨Nat.le_of_ble_eq_true rfl, Nat.le_of_ble_eq_true rfl⟩ dX9_digest_8 ⟨Nat.le_of_ble_eq_true rfl, Nat.le_of_ble_eq_true rfl⟩) (fun H locs hW => ?_)
  refine lv_lstore_n (lv' := [(1, .long r3), (0, .ref l0)]) hx hb dX9_digest_11 rfl hl (by decide) rfl (fun ls hl => ?_)
  refine lv_aload_n hx hb dX9_digest_12 rfl (lv_at hl 1 rfl) ?_
  obtain ⟨q4, hv5, hf⟩ := z_nn hf
  refine z_getN B hW (Or.inr zf_X9_10) rfl hg1 hv5 dX9_digest_13 ?_
  refine lv_lload_n hx hb dX9_digest_16 rfl (lv_at hl 0 rfl) ?_
  obtain ⟨hg6, hf⟩ := z_g hf
  obtain ⟨r8, hq7, hf⟩ := z_b hf
  refine z_cl hW (z_runV (As := [.long r3]) (rest := []) B hW zv_X9_278 (K_X2_hashed hq7) hg6 rfl rfl rfl (Nat.le_of_ble_eq_true rfl) hl.1 ⟨Nat.le_of_ble_eq_true rfl, Nat.le_of_ble_eq_true rfl⟩ dX9_digest_17 ⟨Nat.le_of_ble_eq_true rfl, Nat.le_of_ble_eq_true rfl⟩) (fun H locs hW => ?_)
  refine lv_lstore_n (lv' := [(1, .long r8), (0, .ref l0)]) hx hb dX9_digest_20 rfl hl (by decide) rfl (fun ls hl => ?_)
  refine lv_lload_n hx hb dX9_digest_21 rfl (lv_at hl 0 rfl) ?_
  refine lv_aload_n hx hb dX9_digest_22 rfl (lv_at hl 1 rfl) ?_
  obtain ⟨q9, hv10, hf⟩ := z_nn hf
  refine z_getN B hW (Or.inr zf_X9_22) rfl hg1 hv10 dX9_digest_23 ?_
  obtain ⟨hg11, hf⟩ := z_g hf
  refine z_getI B hW (Or.inl zf_X9_264) rfl hg11 dX9_digest_26 ?_
  refine lv_i2l (v := (z_I σ q9 1).toInt64) hx hb dX9_digest_29 rfl ?_
  obtain ⟨r13, hq12, hf⟩ := z_b hf
  refine z_cl hW (z_runS (As := [.long r8, .long (z_I σ q9 1).toInt64]) (rest := []) B hW zv_X9_274 (K_X9_mixed hq12) rfl rfl (Nat.le_of_ble_eq_true rfl) hl.1 ⟨Nat.le_of_ble_eq_true rfl, Nat.le_of_ble_eq_true rfl⟩ dX9_digest_30 ⟨Nat.le_of_ble_eq_true rfl, Nat.le_of_ble_eq_true rfl⟩) (fun H locs hW => ?_)
  obtain rfl := z_e1 hf
  exact z_rl B hW dX9_digest_33 (Nat.le_of_ble_eq_true rfl) (Nat.le_of_ble_eq_true rfl)
end GEN
