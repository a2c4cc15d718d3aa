section GEN
variable {p : Program} {l : Launch} {e : Env} {s : State} {m : MethodId} {args : Array Value} {below : List Frame} {meth : Method} {c : Code} {D : va_G} {cA : Nat → ClassId} {bs : Nat}
set_option maxRecDepth 100000 in
def b_X9_leastTarget_43 (l0 : Nat) (l1 : Int32) (σ : zSt) (l2 : Int32) : Option ((zSt × Int32) ⊕ (Int32 × zSt)) :=
(if (400 : Int32) < l2 then
(zex (some ((-1 : Int32), σ)))
else
(if z_ob σ l0 8 then (zb2 (f_X9_sendsAll σ l0 l2 l1) (fun r4 σ5 => (if r4 = 0 then
(some (.inl (σ5, (l2 + (20 : Int32)))))
else
(zex (some (l2, σ5)))))) else none))
set_option maxRecDepth 100000 in
def f_X9_leastTarget_43 (l0 : Nat) (l1 : Int32) (σ : zSt) (l2 : Int32) : Option (Int32 × zSt) := zloop (fun (t : zSt × Int32) => b_X9_leastTarget_43 l0 l1 t.1 t.2) zN (σ, l2)
set_option maxRecDepth 20000 in
set_option maxHeartbeats 4000000 in
theorem tb_X9_leastTarget_43 (B : z_B p s m args meth c D cA bs RX9 cX9_leastTarget 3 (some .int)) {r : Int32} {σ' : zSt} {o1 : (zSt × Int32) ⊕ (Int32 × zSt)} {l0 : Nat} {l1 : Int32} {σ : zSt} {l2 : Int32} (hf : b_X9_leastTarget_43 l0 l1 σ l2 = some o1) {H : Heap} {locs : List Loc} {ls : Array Slot} (hW : z_Ok D cA bs s σ H locs) (hl : lv_has ls 3 [(0, .ref l0), (1, .int l1), (2, .int l2)]) (hk1 : ∀ (σ : zSt) (l2 : Int32), o1 = .inl (σ, l2) → ∀ {H : Heap} {locs : List Loc} {ls : Array Slot}, z_Ok D cA bs s σ H locs → lv_has ls 3 [(0, .ref l0), (1, .int l1), (2, .int l2)] → W p l e (zrm 6 0 0 149) s m args below meth c H locs 0 0 (MQ below (z_Qi D cA bs r σ') args s 0 0 (fun q => bs ≤ q)) (F0 m 43 ls [])) (hr1 : ∀ x, o1 = .inr x → x = (r, σ')) : W p l e (zrm 6 0 0 149) s m args below meth c H locs 0 0 (MQ below (z_Qi D cA bs r σ') args s 0 0 (fun q => bs ≤ q)) (F0 m 43 ls []) := by
  have hx := B.1
  have hb := B.2.1
  have hown := B.2.2.2.1
  have hts := B.2.2.2.2.1
  unfold b_X9_leastTarget_43 at hf
  refine lv_iload_n hx hb dX9_leastTarget_43 rfl (lv_at hl 2 rfl) ?_
  refine lv_sipush (v := (400 : Int32)) hx hb dX9_leastTarget_44 (by decide) ?_
  refine lv_icmp_gt (tgt := 67) hx hb dX9_leastTarget_47 (by decide) (fun hc47 => ?_) (fun hc47 => ?_)
  · replace hf := z_ip hc47 hf
    obtain ⟨w1, hf, ho1⟩ := z_x hf
    obtain rfl := hr1 _ ho1
    refine lv_iconst (v := (-1 : Int32)) hx hb dX9_leastTarget_67 (by decide) ?_
    obtain ⟨rfl, rfl⟩ := z_e2 hf
    exact z_ri B hW dX9_leastTarget_68 (Nat.le_of_ble_eq_true rfl) (Nat.le_of_ble_eq_true rfl)
  · replace hf := z_in hc47 hf
    refine lv_aload_n hx hb dX9_leastTarget_50 rfl (lv_at hl 0 rfl) ?_
    refine lv_iload_n hx hb dX9_leastTarget_51 rfl (lv_at hl 2 rfl) ?_
    refine lv_iload_n hx hb dX9_leastTarget_52 rfl (lv_at hl 1 rfl) ?_
    obtain ⟨hg2, hf⟩ := z_g hf
    obtain ⟨r4, σ5, hq3, hf⟩ := z_b2 hf
    refine z_ci hW (z_runV (As := [.int l2, .int l1]) (rest := []) B hW zv_X9_237 (K_X9_sendsAll hq3) hg2 rfl rfl rfl (Nat.le_of_ble_eq_true rfl) hl.1 ⟨Nat.le_of_ble_eq_true rfl, Nat.le_of_ble_eq_true rfl⟩ dX9_leastTarget_53 ⟨Nat.le_of_ble_eq_true rfl, Nat.le_of_ble_eq_true rfl⟩) (fun H locs hW => ?_)
    refine lv_if_eq (tgt := 61) hx hb dX9_leastTarget_56 (by decide) (fun hc56 => ?_) (fun hc56 => ?_)
    · replace hf := z_ip hc56 hf
      refine lv_iinc (v := (l2 + (20 : Int32))) (lv' := [(2, .int (l2 + (20 : Int32))), (0, .ref l0), (1, .int l1)]) hx hb dX9_leastTarget_61 hl (k := 2) rfl rfl (by decide) rfl (fun ls hl => ?_)
      refine lv_goto (tgt := 43) hx hb dX9_leastTarget_64 (by decide) ?_
      exact hk1 _ _ (Option.some.inj hf).symm hW (lv_sub hl [1, 2, 0] rfl)
    · replace hf := z_in hc56 hf
      obtain ⟨w1, hf, ho6⟩ := z_x hf
      obtain rfl := hr1 _ ho6
      refine lv_iload_n hx hb dX9_leastTarget_59 rfl (lv_at hl 2 rfl) ?_
      obtain ⟨rfl, rfl⟩ := z_e2 hf
      exact z_ri B hW dX9_leastTarget_60 (Nat.le_of_ble_eq_true rfl) (Nat.le_of_ble_eq_true rfl)
set_option maxRecDepth 20000 in
set_option maxHeartbeats 4000000 in
theorem t_X9_leastTarget_43 (B : z_B p s m args meth c D cA bs RX9 cX9_leastTarget 3 (some .int)) {r : Int32} {σ' : zSt} {l0 : Nat} {l1 : Int32}  : ∀ (n : Nat) {σ : zSt} {l2 : Int32}, zloop (fun (t : zSt × Int32) => b_X9_leastTarget_43 l0 l1 t.1 t.2) n (σ, l2) = some (r, σ') → ∀ {H : Heap} {locs : List Loc} {ls : Array Slot}, z_Ok D cA bs s σ H locs → lv_has ls 3 [(0, .ref l0), (1, .int l1), (2, .int l2)] → W p l e (zrm 6 0 0 149) s m args below meth c H locs 0 0 (MQ below (z_Qi D cA bs r σ') args s 0 0 (fun q => bs ≤ q)) (F0 m 43 ls []) := by
  intro n
  induction n with
  | zero => intro σ l2 hf; cases hf
  | succ n ih =>
    intro σ l2 hf H locs ls hW hl
    obtain ⟨o1, hb1, hf⟩ := z_lp hf
    refine tb_X9_leastTarget_43 B hb1 hW hl  (fun σ l2 he H locs ls hW hl => ?_) (fun x he => ?_)
    · rcases hf with ⟨t, ht, hf⟩ | hf
      · rw [he] at ht
        cases ht
        exact ih hf hW hl
      · rw [he] at hf
        cases hf
    · rcases hf with ⟨t, ht, hf⟩ | hf
      · rw [he] at ht
        cases ht
      · rw [he] at hf
        exact Sum.inr.inj hf
set_option maxRecDepth 100000 in
def f_X9_leastTarget (σ : zSt) (l0 : Nat) (l1 : Int32) : Option (Int32 × zSt) :=
(zb (f_X9_isWithin σ l1 (0 : Int32) (100 : Int32)) (fun r2 => (if r2 = 0 then
none
else
(if z_ob σ l0 8 then (zc (z_R σ l0 0) none (fun q4 => (if z_ob σ q4 2 then (zb (f_X2_isTooLate σ q4) (fun r8 => (if r8 = 0 then
(f_X9_leastTarget_43 l0 l1 σ (20 : Int32))
else
none))) else none))) else none))))
set_option maxRecDepth 20000 in
set_option maxHeartbeats 4000000 in
theorem K_X9_leastTarget {σ : zSt} {l0 : Nat} {l1 : Int32} {r : Int32} {σ' : zSt} (hf : f_X9_leastTarget σ l0 l1 = some (r, σ')) : z_M l D cA bs yX9_leastTarget cX9_leastTarget 3 (some .int) 6 149 0 0 [.ref l0, .int l1] σ (z_Qi D cA bs r σ') := by
  refine z_met (own := RX9) (lv := [(0, .ref l0), (1, .int l1)]) (by decide) rfl (Nat.le_of_ble_eq_true rfl) rfl (fun p e s m below meth c ls B hnm hW hl => ?_)
  have hx := B.1
  have hb := B.2.1
  have hown := B.2.2.2.1
  have hts := B.2.2.2.2.1
  unfold f_X9_leastTarget at hf
  refine lv_iload_n hx hb dX9_leastTarget_0 rfl (lv_at hl 1 rfl) ?_
  refine lv_iconst (v := (0 : Int32)) hx hb dX9_leastTarget_1 (by decide) ?_
  refine lv_bipush (v := (100 : Int32)) hx hb dX9_leastTarget_2 (by decide) ?_
  obtain ⟨r2, hq1, hf⟩ := z_b hf
  refine z_ci hW (z_runS (As := [.int l1, .int (0 : Int32), .int (100 : Int32)]) (rest := []) B hW zv_X9_80 (K_X9_isWithin hq1) rfl rfl (Nat.le_of_ble_eq_true rfl) hl.1 ⟨Nat.le_of_ble_eq_true rfl, Nat.le_of_ble_eq_true rfl⟩ dX9_leastTarget_4 ⟨Nat.le_of_ble_eq_true rfl, Nat.le_of_ble_eq_true rfl⟩) (fun H locs hW => ?_)
  refine lv_if_ne (tgt := 20) hx hb dX9_leastTarget_7 (by decide) (fun hc7 => ?_) (fun hc7 => ?_)
  · replace hf := z_in hc7 hf
    refine lv_aload_n hx hb dX9_leastTarget_20 rfl (lv_at hl 0 rfl) ?_
    obtain ⟨hg3, hf⟩ := z_g hf
    obtain ⟨q4, hv5, hf⟩ := z_nn hf
    refine z_getN B hW (Or.inr zf_X9_10) rfl hg3 hv5 dX9_leastTarget_21 ?_
    obtain ⟨hg6, hf⟩ := z_g hf
    obtain ⟨r8, hq7, hf⟩ := z_b hf
    refine z_ci hW (z_runV (As := []) (rest := []) B hW zv_X9_133 (K_X2_isTooLate hq7) hg6 rfl rfl rfl (Nat.le_of_ble_eq_true rfl) hl.1 ⟨Nat.le_of_ble_eq_true rfl, Nat.le_of_ble_eq_true rfl⟩ dX9_leastTarget_24 ⟨Nat.le_of_ble_eq_true rfl, Nat.le_of_ble_eq_true rfl⟩) (fun H locs hW => ?_)
    refine lv_if_eq (tgt := 40) hx hb dX9_leastTarget_27 (by decide) (fun hc27 => ?_) (fun hc27 => ?_)
    · replace hf := z_ip hc27 hf
      refine lv_bipush (v := (20 : Int32)) hx hb dX9_leastTarget_40 (by decide) ?_
      refine lv_istore_n (lv' := [(2, .int (20 : Int32)), (0, .ref l0), (1, .int l1)]) hx hb dX9_leastTarget_42 rfl hl (by decide) rfl (fun ls hl => ?_)
      unfold f_X9_leastTarget_43 at hf
      exact t_X9_leastTarget_43 B  zN hf hW (lv_sub hl [1, 2, 0] rfl)
    · replace hf := z_in hc27 hf
      cases hf
  · replace hf := z_ip hc7 hf
    cases hf
set_option maxRecDepth 100000 in
def f_X9_undo (σ : zSt) (l0 : Nat) : Option (Int32 × zSt) :=
(if z_ob σ l0 8 then (zc (z_R σ l0 2) none (fun q2 => (if z_ob σ q2 1 then (if (z_I σ q2 1) = 0 then
none
else
(zc (z_R σ l0 2) none (fun q5 => (zc (z_R σ l0 0) none (fun q7 => (if z_ob σ q5 1 then (zb (f_X1_restore σ q5 q7) (fun σ11 => (if z_ob σ11 l0 8 then (zc (z_R σ11 l0 2) none (fun q13 => (if z_ob σ11 q13 1 then (some ((z_I σ11 q13 1), σ11)) else none))) else none))) else none)))))) else none))) else none)
set_option maxRecDepth 20000 in
set_option maxHeartbeats 4000000 in
theorem K_X9_undo {σ : zSt} {l0 : Nat} {r : Int32} {σ' : zSt} (hf : f_X9_undo σ l0 = some (r, σ')) : z_M l D cA bs yX9_undo cX9_undo 1 (some .int) 5 148 0 0 [.ref l0] σ (z_Qi D cA bs r σ') := by
  refine z_met (own := RX9) (lv := [(0, .ref l0)]) (by decide) rfl (Nat.le_of_ble_eq_true rfl) rfl (fun p e s m below meth c ls B hnm hW hl => ?_)
  have hx := B.1
  have hb := B.2.1
  have hown := B.2.2.2.1
  have hts := B.2.2.2.2.1
  unfold f_X9_undo at hf
  refine lv_aload_n hx hb dX9_undo_0 rfl (lv_at hl 0 rfl) ?_
  obtain ⟨hg1, hf⟩ := z_g hf
  obtain ⟨q2, hv3, hf⟩ := z_nn hf
  refine z_getN B hW (Or.inr zf_X9_22) rfl hg1 hv3 dX9_undo_1 ?_
  obtain ⟨hg4, hf⟩ := z_g hf
  refine z_getI B hW (Or.inl zf_X9_264) rfl hg4 dX9_undo_4 ?_
  refine lv_if_ne (tgt := 21) hx hb dX9_undo_7 (by decide) (fun hc7 => ?_) (fun hc7 => ?_)
  · replace hf := z_in hc7 hf
    refine lv_aload_n hx hb dX9_undo_21 rfl (lv_at hl 0 rfl) ?_
    obtain ⟨q5, hv6, hf⟩ := z_nn hf
    refine z_getN B hW (Or.inr zf_X9_22) rfl hg1 hv6 dX9_undo_22 ?_
    refine lv_aload_n hx hb dX9_undo_25 rfl (lv_at hl 0 rfl) ?_
    obtain ⟨q7, hv8, hf⟩ := z_nn hf
    refine z_getN B hW (Or.inr zf_X9_10) rfl hg1 hv8 dX9_undo_26 ?_
    obtain ⟨hg9, hf⟩ := z_g hf
    obtain ⟨σ11, hq10, hf⟩ := z_b hf
    refine z_cv hW (z_runV (As := [.ref q7]) (rest := []) B hW zv_X9_269 (K_X1_restore hq10) hg9 rfl rfl rfl (Nat.le_of_ble_eq_true rfl) hl.1 ⟨Nat.le_of_ble_eq_true rfl, Nat.le_of_ble_eq_true rfl⟩ dX9_undo_29 ⟨Nat.le_of_ble_eq_true rfl, Nat.le_of_ble_eq_true rfl⟩) (fun H locs hW => ?_)
    refine lv_aload_n hx hb dX9_undo_32 rfl (lv_at hl 0 rfl) ?_
    obtain ⟨hg12, hf⟩ := z_g hf
    obtain ⟨q13, hv14, hf⟩ := z_nn hf
    refine z_getN B hW (Or.inr zf_X9_22) rfl hg12 hv14 dX9_undo_33 ?_
    obtain ⟨hg15, hf⟩ := z_g hf
    refine z_getI B hW (Or.inl zf_X9_264) rfl hg15 dX9_undo_36 ?_
    obtain ⟨rfl, rfl⟩ := z_e2 hf
    exact z_ri B hW dX9_undo_39 (Nat.le_of_ble_eq_true rfl) (Nat.le_of_ble_eq_true rfl)
  · replace hf := z_ip hc7 hf
    cases hf
set_option maxRecDepth 100000 in
def f_X9_digest (σ : zSt) (l0 : Nat) : Option (Int64) :=
(if z_ob σ l0 8 then (zb (f_X9_mixed σ (3169 : Int64) ((z_I σ l0 4).toInt64)) (fun r3 => (zc (z_R σ l0 0) none (fun q4 => (if z_ob σ q4 2 then (zb (f_X2_hashed σ q4 r3) (fun r8 => (zc (z_R σ l0 2) none (fun q9 => (if z_ob σ q9 1 then (zb (f_X9_mixed σ r8 ((z_I σ q9 1).toInt64)) (fun r13 => (some r13))) else none))))) else none))))) else none)
set_option maxRecDepth 20000 in
set_option maxHeartbeats 4000000 in
theorem K_X9_digest {σ : zSt} {l0 : Nat} {r : Int64} (hf : f_X9_digest σ l0 = some r) : z_M l D cA bs yX9_digest cX9_digest 3 (some .long) 5 121 0 0 [.ref l0] σ (z_Ql D cA bs r σ) := by
  refine z_met (own := RX9) (lv := [(0, .ref l0)]) (by decide) rfl (Nat.le_of_ble_eq_true rfl) rfl (fun p e s m below meth c ls B hnm hW hl => ?_)
  have hx := B.1
  have hb := B.2.1
  have hown := B.2.2.2.1
  have hts := B.2.2.2.2.1
  unfold f_X9_digest at hf
  refine lv_ldc2 hx hb hown (hts _ zk_X9_272) dX9_digest_0 ?_
  refine lv_aload_n hx hb dX9_digest_3 rfl (lv_at hl 0 rfl) ?_
  obtain ⟨hg1, hf⟩ := z_g hf
  refine z_getI B hW (Or.inl zf_X9_242) rfl hg1 dX9_digest_4 ?_
  refine lv_i2l (v := (z_I σ l0 4).toInt64) hx hb dX9_digest_7 rfl ?_
  obtain ⟨r3, hq2, hf⟩ := z_b hf
  refine z_cl hW (z_runS (As := [.long (3169 : Int64), .long (z_I σ l0 4).toInt64]) (rest := []) B hW zv_X9_274 (K_X9_mixed hq2) rfl rfl (Nat.le_of_ble_eq_true rfl) hl.1 ⟨Nat.le_of_ble_eq_true rfl, Nat.le_of_ble_eq_true rfl⟩ dX9_digest_8 ⟨Nat.le_of_ble_eq_true rfl, Nat.le_of_ble_eq_true rfl⟩) (fun H locs hW => ?_)
  refine lv_lstore_n (lv' := [(1, .long r3), (0, .ref l0)]) hx hb dX9_digest_11 rfl hl (by decide) rfl (fun ls hl => ?_)
  refine lv_aload_n hx hb dX9_digest_12 rfl (lv_at hl 1 rfl) ?_
  obtain ⟨q4, hv5, hf⟩ := z_nn hf
  refine z_getN B hW (Or.inr zf_X9_10) rfl hg1 hv5 dX9_digest_13 ?_
  refine lv_lload_n hx hb dX9_digest_16 rfl (lv_at hl 0 rfl) ?_
  obtain ⟨hg6, hf⟩ := z_g hf
  obtain ⟨r8, hq7, hf⟩ := z_b hf
  refine z_cl hW (z_runV (As := [.long r3]) (rest := []) B hW zv_X9_278 (K_X2_hashed hq7) hg6 rfl rfl rfl (Nat.le_of_ble_eq_true rfl) hl.1 ⟨Nat.le_of_ble_eq_true rfl, Nat.le_of_ble_eq_true rfl⟩ dX9_digest_17 ⟨Nat.le_of_ble_eq_true rfl, Nat.le_of_ble_eq_true rfl⟩) (fun H locs hW => ?_)
  refine lv_lstore_n (lv' := [(1, .long r8), (0, .ref l0)]) hx hb dX9_digest_20 rfl hl (by decide) rfl (fun ls hl => ?_)
  refine lv_lload_n hx hb dX9_digest_21 rfl (lv_at hl 0 rfl) ?_
  refine lv_aload_n hx hb dX9_digest_22 rfl (lv_at hl 1 rfl) ?_
  obtain ⟨q9, hv10, hf⟩ := z_nn hf
  refine z_getN B hW (Or.inr zf_X9_22) rfl hg1 hv10 dX9_digest_23 ?_
  obtain ⟨hg11, hf⟩ := z_g hf
  refine z_getI B hW (Or.inl zf_X9_264) rfl hg11 dX9_digest_26 ?_
  refine lv_i2l (v := (z_I σ q9 1).toInt64) hx hb dX9_digest_29 rfl ?_
  obtain ⟨r13, hq12, hf⟩ := z_b hf
  refine z_cl hW (z_runS (As := [.long r8, .long (z_I σ q9 1).toInt64]) (rest := []) B hW zv_X9_274 (K_X9_mixed hq12) rfl rfl (Nat.le_of_ble_eq_true rfl) hl.1 ⟨Nat.le_of_ble_eq_true rfl, Nat.le_of_ble_eq_true rfl⟩ dX9_digest_30 ⟨Nat.le_of_ble_eq_true rfl, Nat.le_of_ble_eq_true rfl⟩) (fun H locs hW => ?_)
  obtain rfl := z_e1 hf
  exact z_rl B hW dX9_digest_33 (Nat.le_of_ble_eq_true rfl) (Nat.le_of_ble_eq_true rfl)
end GEN
