section GEN
variable {p : Program} {l : Launch} {e : Env} {s : State} {m : MethodId} {args : Array Value} {below : List Frame} {meth : Method} {c : Code} {D : va_G} {cA : Nat → ClassId} {bs : Nat}
set_option maxRecDepth 100000 in
def f_X2_ringSize_32 (σ : zSt) (l0 : Nat) (l1 : Int32) (l2 : Int32) : Option ((Int32 × Int32) ⊕ (Int32)) :=
(some (.inl (l1, (l2 + (1 : Int32)))))
set_option maxRecDepth 20000 in
set_option maxHeartbeats 4000000 in
theorem t_X2_ringSize_32 (B : z_B p s m args meth c D cA bs RX2 cX2_ringSize 4 (some .int)) {r : Int32} {o1 : (Int32 × Int32) ⊕ (Int32)} {σ : zSt} {l0 : Nat} {l1 : Int32} {l2 : Int32} (hf : f_X2_ringSize_32 σ l0 l1 l2 = some o1) {H : Heap} {locs : List Loc} {ls : Array Slot} (hW : z_Ok D cA bs s σ H locs) (hl : lv_has ls 4 [(0, .ref l0), (1, .int l1), (2, .int l2)]) (hk1 : ∀ (l1 : Int32) (l2 : Int32), o1 = .inl (l1, l2) → ∀ {H : Heap} {locs : List Loc} {ls : Array Slot}, z_Ok D cA bs s σ H locs → lv_has ls 4 [(0, .ref l0), (1, .int l1), (2, .int l2)] → W p l e (zrm 1 0 0 21) s m args below meth c H locs 0 0 (MQ below (z_Qi D cA bs r σ) args s 0 0 (fun q => bs ≤ q)) (F0 m 4 ls [])) (hr1 : ∀ x, o1 = .inr x → x = r) : W p l e (zrm 1 0 0 21) s m args below meth c H locs 0 0 (MQ below (z_Qi D cA bs r σ) args s 0 0 (fun q => bs ≤ q)) (F0 m 32 ls []) := by
  have hx := B.1
  have hb := B.2.1
  have hown := B.2.2.2.1
  have hts := B.2.2.2.2.1
  unfold f_X2_ringSize_32 at hf
  refine lv_iinc (v := (l2 + (1 : Int32))) (lv' := [(2, .int (l2 + (1 : Int32))), (0, .ref l0), (1, .int l1)]) hx hb dX2_ringSize_32 hl (k := 2) rfl rfl (by decide) rfl (fun ls hl => ?_)
  refine lv_goto (tgt := 4) hx hb dX2_ringSize_35 (by decide) ?_
  exact hk1 _ _ (Option.some.inj hf).symm hW (lv_sub hl [1, 2, 0] rfl)
set_option maxRecDepth 100000 in
def b_X2_ringSize_4 (σ : zSt) (l0 : Nat) (l1 : Int32) (l2 : Int32) : Option ((Int32 × Int32) ⊕ (Int32)) :=
(if z_ob σ l0 2 then (if (z_I σ l0 5) ≤ l2 then
(zex (some l1))
else
(zb (f_X2_stationIn σ l0 l2) (fun r4 => (zc r4
(f_X2_ringSize_32 σ l0 l1 l2)
(fun a5 => (if z_ob σ a5 6 then (if (z_I σ a5 2) = 0 then
(f_X2_ringSize_32 σ l0 l1 l2)
else
(f_X2_ringSize_32 σ l0 (l1 + (1 : Int32)) l2)) else none)))))) else none)
set_option maxRecDepth 100000 in
def f_X2_ringSize_4 (σ : zSt) (l0 : Nat) (l1 : Int32) (l2 : Int32) : Option (Int32) := zloop (fun (t : Int32 × Int32) => b_X2_ringSize_4 σ l0 t.1 t.2) zN (l1, l2)
set_option maxRecDepth 20000 in
set_option maxHeartbeats 4000000 in
theorem tb_X2_ringSize_4 (B : z_B p s m args meth c D cA bs RX2 cX2_ringSize 4 (some .int)) {r : Int32} {o1 : (Int32 × Int32) ⊕ (Int32)} {σ : zSt} {l0 : Nat} {l1 : Int32} {l2 : Int32} (hf : b_X2_ringSize_4 σ l0 l1 l2 = some o1) {H : Heap} {locs : List Loc} {ls : Array Slot} (hW : z_Ok D cA bs s σ H locs) (hl : lv_has ls 4 [(0, .ref l0), (1, .int l1), (2, .int l2)]) (hk1 : ∀ (l1 : Int32) (l2 : Int32), o1 = .inl (l1, l2) → ∀ {H : Heap} {locs : List Loc} {ls : Array Slot}, z_Ok D cA bs s σ H locs → lv_has ls 4 [(0, .ref l0), (1, .int l1), (2, .int l2)] → W p l e (zrm 1 0 0 21) s m args below meth c H locs 0 0 (MQ below (z_Qi D cA bs r σ) args s 0 0 (fun q => bs ≤ q)) (F0 m 4 ls [])) (hr1 : ∀ x, o1 = .inr x → x = r) : W p l e (zrm 1 0 0 21) s m args below meth c H locs 0 0 (MQ below (z_Qi D cA bs r σ) args s 0 0 (fun q => bs ≤ q)) (F0 m 4 ls []) := by
  have hx := B.1
  have hb := B.2.1
  have hown := B.2.2.2.1
  have hts := B.2.2.2.2.1
  unfold b_X2_ringSize_4 at hf
  refine lv_iload_n hx hb dX2_ringSize_4 rfl (lv_at hl 2 rfl) ?_
  refine lv_aload_n hx hb dX2_ringSize_5 rfl (lv_at hl 0 rfl) ?_
  obtain ⟨hg1, hf⟩ := z_g hf
  refine z_getI B hW (Or.inl zf_X2_61) rfl hg1 dX2_ringSize_6 ?_
  refine lv_icmp_ge (tgt := 38) hx hb dX2_ringSize_9 (by decide) (fun hc9 => ?_) (fun hc9 => ?_)
  · replace hf := z_ip hc9 hf
    obtain ⟨w1, hf, ho2⟩ := z_x hf
    obtain rfl := hr1 _ ho2
    refine lv_iload_n hx hb dX2_ringSize_38 rfl (lv_at hl 1 rfl) ?_
    obtain rfl := z_e1 hf
    exact z_ri B hW dX2_ringSize_39 (Nat.le_of_ble_eq_true rfl) (Nat.le_of_ble_eq_true rfl)
  · replace hf := z_in hc9 hf
    refine lv_aload_n hx hb dX2_ringSize_12 rfl (lv_at hl 0 rfl) ?_
    refine lv_iload_n hx hb dX2_ringSize_13 rfl (lv_at hl 2 rfl) ?_
    obtain ⟨r4, hq3, hf⟩ := z_b hf
    refine z_cq hW (z_runV (As := [.int l2]) (rest := []) B hW zv_X2_96 (K_X2_stationIn hq3) hg1 rfl rfl rfl (Nat.le_of_ble_eq_true rfl) hl.1 ⟨Nat.le_of_ble_eq_true rfl, Nat.le_of_ble_eq_true rfl⟩ dX2_ringSize_14 ⟨Nat.le_of_ble_eq_true rfl, Nat.le_of_ble_eq_true rfl⟩) (fun H locs hW => ?_)
    refine z_astore_n (lv' := [(3, va_rf r4), (0, .ref l0), (1, .int l1), (2, .int l2)]) hx hb dX2_ringSize_17 rfl hl (by decide) rfl (fun ls hl => ?_)
    refine z_aload_n hx hb dX2_ringSize_18 rfl (lv_at hl 0 rfl) ?_
    refine z_ifnull (tgt := 32) hx hb dX2_ringSize_19 (by decide) (fun hz7 => ?_) (fun a5 hz7 => ?_)
    · subst hz7
      replace hf := z_c0 hf
      exact t_X2_ringSize_32 B hf hW (lv_sub hl [1, 2, 3] rfl) hk1 hr1
    · subst hz7
      replace hf := z_c1 hf
      refine lv_aload_n hx hb dX2_ringSize_22 rfl (lv_at hl 0 rfl) ?_
      obtain ⟨hg6, hf⟩ := z_g hf
      refine z_getI B hW (Or.inl zf_X2_115) rfl hg6 dX2_ringSize_23 ?_
      refine lv_if_eq (tgt := 32) hx hb dX2_ringSize_26 (by decide) (fun hc26 => ?_) (fun hc26 => ?_)
      · replace hf := z_ip hc26 hf
        exact t_X2_ringSize_32 B hf hW (lv_sub hl [1, 2, 3] rfl) hk1 hr1
      · replace hf := z_in hc26 hf
        refine lv_iinc (v := (l1 + (1 : Int32))) (lv' := [(1, .int (l1 + (1 : Int32))), (3, .ref a5), (0, .ref l0), (2, .int l2)]) hx hb dX2_ringSize_29 hl (k := 2) rfl rfl (by decide) rfl (fun ls hl => ?_)
        exact t_X2_ringSize_32 B hf hW (lv_sub hl [2, 0, 3] rfl) hk1 hr1
set_option maxRecDepth 20000 in
set_option maxHeartbeats 4000000 in
theorem t_X2_ringSize_4 (B : z_B p s m args meth c D cA bs RX2 cX2_ringSize 4 (some .int)) {r : Int32} {σ : zSt} {l0 : Nat}  : ∀ (n : Nat) {l1 : Int32} {l2 : Int32}, zloop (fun (t : Int32 × Int32) => b_X2_ringSize_4 σ l0 t.1 t.2) n (l1, l2) = some r → ∀ {H : Heap} {locs : List Loc} {ls : Array Slot}, z_Ok D cA bs s σ H locs → lv_has ls 4 [(0, .ref l0), (1, .int l1), (2, .int l2)] → W p l e (zrm 1 0 0 21) s m args below meth c H locs 0 0 (MQ below (z_Qi D cA bs r σ) args s 0 0 (fun q => bs ≤ q)) (F0 m 4 ls []) := by
  intro n
  induction n with
  | zero => intro l1 l2 hf; cases hf
  | succ n ih =>
    intro l1 l2 hf H locs ls hW hl
    obtain ⟨o1, hb1, hf⟩ := z_lp hf
    refine tb_X2_ringSize_4 B hb1 hW hl  (fun l1 l2 he H locs ls hW hl => ?_) (fun x he => ?_)
    · rcases hf with ⟨t, ht, hf⟩ | hf
      · rw [he] at ht
        cases ht
        exact ih hf hW hl
      · rw [he] at hf
        cases hf
    · rcases hf with ⟨t, ht, hf⟩ | hf
      · rw [he] at ht
        cases ht
      · rw [he] at hf
        exact Sum.inr.inj hf
set_option maxRecDepth 100000 in
def f_X2_ringSize (σ : zSt) (l0 : Nat) : Option (Int32) :=
(f_X2_ringSize_4 σ l0 (0 : Int32) (0 : Int32))
set_option maxRecDepth 20000 in
set_option maxHeartbeats 4000000 in
theorem K_X2_ringSize {σ : zSt} {l0 : Nat} {r : Int32} (hf : f_X2_ringSize σ l0 = some r) : z_M l D cA bs yX2_ringSize cX2_ringSize 4 (some .int) 1 21 0 0 [.ref l0] σ (z_Qi D cA bs r σ) := by
  refine z_met (own := RX2) (lv := [(0, .ref l0)]) (by decide) rfl (Nat.le_of_ble_eq_true rfl) rfl (fun p e s m below meth c ls B hnm hW hl => ?_)
  have hx := B.1
  have hb := B.2.1
  have hown := B.2.2.2.1
  have hts := B.2.2.2.2.1
  unfold f_X2_ringSize at hf
  refine lv_iconst (v := (0 : Int32)) hx hb dX2_ringSize_0 (by decide) ?_
  refine lv_istore_n (lv' := [(1, .int (0 : Int32)), (0, .ref l0)]) hx hb dX2_ringSize_1 rfl hl (by decide) rfl (fun ls hl => ?_)
  refine lv_iconst (v := (0 : Int32)) hx hb dX2_ringSize_2 (by decide) ?_
  refine lv_istore_n (lv' := [(2, .int (0 : Int32)), (1, .int (0 : Int32)), (0, .ref l0)]) hx hb dX2_ringSize_3 rfl hl (by decide) rfl (fun ls hl => ?_)
  unfold f_X2_ringSize_4 at hf
  exact t_X2_ringSize_4 B  zN hf hW (lv_sub hl [2, 1, 0] rfl)
set_option maxRecDepth 100000 in
def f_X2_isComplete_36 (σ : zSt) (l0 : Nat) (l1 : Int32) : Option ((Int32) ⊕ (Int32)) :=
(some (.inl (l1 + (1 : Int32))))
set_option maxRecDepth 20000 in
set_option maxHeartbeats 4000000 in
theorem t_X2_isComplete_36 (B : z_B p s m args meth c D cA bs RX2 cX2_isComplete 3 (some .boolean)) {r : Int32} {o1 : (Int32) ⊕ (Int32)} {σ : zSt} {l0 : Nat} {l1 : Int32} (hf : f_X2_isComplete_36 σ l0 l1 = some o1) {H : Heap} {locs : List Loc} {ls : Array Slot} (hW : z_Ok D cA bs s σ H locs) (hl : lv_has ls 3 [(0, .ref l0), (1, .int l1)]) (hk1 : ∀ (l1 : Int32), o1 = .inl l1 → ∀ {H : Heap} {locs : List Loc} {ls : Array Slot}, z_Ok D cA bs s σ H locs → lv_has ls 3 [(0, .ref l0), (1, .int l1)] → W p l e (zrm 1 0 0 21) s m args below meth c H locs 0 0 (MQ below (z_Qi D cA bs r σ) args s 0 0 (fun q => bs ≤ q)) (F0 m 2 ls [])) (hr1 : ∀ x, o1 = .inr x → x = r) : W p l e (zrm 1 0 0 21) s m args below meth c H locs 0 0 (MQ below (z_Qi D cA bs r σ) args s 0 0 (fun q => bs ≤ q)) (F0 m 36 ls []) := by
  have hx := B.1
  have hb := B.2.1
  have hown := B.2.2.2.1
  have hts := B.2.2.2.2.1
  unfold f_X2_isComplete_36 at hf
  refine lv_iinc (v := (l1 + (1 : Int32))) (lv' := [(1, .int (l1 + (1 : Int32))), (0, .ref l0)]) hx hb dX2_isComplete_36 hl (k := 1) rfl rfl (by decide) rfl (fun ls hl => ?_)
  refine lv_goto (tgt := 2) hx hb dX2_isComplete_39 (by decide) ?_
  exact hk1 _ (Option.some.inj hf).symm hW (lv_sub hl [1, 0] rfl)
set_option maxRecDepth 100000 in
def b_X2_isComplete_2 (σ : zSt) (l0 : Nat) (l1 : Int32) : Option ((Int32) ⊕ (Int32)) :=
(if z_ob σ l0 2 then (if (z_I σ l0 5) ≤ l1 then
(zex (some (1 : Int32)))
else
(zb (f_X2_stationIn σ l0 l1) (fun r4 => (zc r4
(f_X2_isComplete_36 σ l0 l1)
(fun a5 => (if z_ob σ a5 6 then (if (z_I σ a5 1) = 0 then
(f_X2_isComplete_36 σ l0 l1)
else
(if (z_I σ a5 2) = 0 then
(zex (some (0 : Int32)))
else
(f_X2_isComplete_36 σ l0 l1))) else none)))))) else none)
set_option maxRecDepth 100000 in
def f_X2_isComplete_2 (σ : zSt) (l0 : Nat) (l1 : Int32) : Option (Int32) := zloop (fun (t : Int32) => b_X2_isComplete_2 σ l0 t) zN l1
set_option maxRecDepth 20000 in
set_option maxHeartbeats 4000000 in
theorem tb_X2_isComplete_2 (B : z_B p s m args meth c D cA bs RX2 cX2_isComplete 3 (some .boolean)) {r : Int32} {o1 : (Int32) ⊕ (Int32)} {σ : zSt} {l0 : Nat} {l1 : Int32} (hf : b_X2_isComplete_2 σ l0 l1 = some o1) {H : Heap} {locs : List Loc} {ls : Array Slot} (hW : z_Ok D cA bs s σ H locs) (hl : lv_has ls 3 [(0, .ref l0), (1, .int l1)]) (hk1 : ∀ (l1 : Int32), o1 = .inl l1 → ∀ {H : Heap} {locs : List Loc} {ls : Array Slot}, z_Ok D cA bs s σ H locs → lv_has ls 3 [(0, .ref l0), (1, .int l1)] → W p l e (zrm 1 0 0 21) s m args below meth c H locs 0 0 (MQ below (z_Qi D cA bs r σ) args s 0 0 (fun q => bs ≤ q)) (F0 m 2 ls [])) (hr1 : ∀ x, o1 = .inr x → x = r) : W p l e (zrm 1 0 0 21) s m args below meth c H locs 0 0 (MQ below (z_Qi D cA bs r σ) args s 0 0 (fun q => bs ≤ q)) (F0 m 2 ls []) := by
  have hx := B.1
  have hb := B.2.1
  have hown := B.2.2.2.1
  have hts := B.2.2.2.2.1
  unfold b_X2_isComplete_2 at hf
  refine lv_iload_n hx hb dX2_isComplete_2 rfl (lv_at hl 1 rfl) ?_
  refine lv_aload_n hx hb dX2_isComplete_3 rfl (lv_at hl 0 rfl) ?_
  obtain ⟨hg1, hf⟩ := z_g hf
  refine z_getI B hW (Or.inl zf_X2_61) rfl hg1 dX2_isComplete_4 ?_
  refine lv_icmp_ge (tgt := 42) hx hb dX2_isComplete_7 (by decide) (fun hc7 => ?_) (fun hc7 => ?_)
  · replace hf := z_ip hc7 hf
    obtain ⟨w1, hf, ho2⟩ := z_x hf
    obtain rfl := hr1 _ ho2
    refine lv_iconst (v := (1 : Int32)) hx hb dX2_isComplete_42 (by decide) ?_
    obtain rfl := z_e1 hf
    exact z_rz (by decide) B hW dX2_isComplete_43 (Nat.le_of_ble_eq_true rfl) (Nat.le_of_ble_eq_true rfl)
  · replace hf := z_in hc7 hf
    refine lv_aload_n hx hb dX2_isComplete_10 rfl (lv_at hl 0 rfl) ?_
    refine lv_iload_n hx hb dX2_isComplete_11 rfl (lv_at hl 1 rfl) ?_
    obtain ⟨r4, hq3, hf⟩ := z_b hf
    refine z_cq hW (z_runV (As := [.int l1]) (rest := []) B hW zv_X2_96 (K_X2_stationIn hq3) hg1 rfl rfl rfl (Nat.le_of_ble_eq_true rfl) hl.1 ⟨Nat.le_of_ble_eq_true rfl, Nat.le_of_ble_eq_true rfl⟩ dX2_isComplete_12 ⟨Nat.le_of_ble_eq_true rfl, Nat.le_of_ble_eq_true rfl⟩) (fun H locs hW => ?_)
    refine z_astore_n (lv' := [(2, va_rf r4), (0, .ref l0), (1, .int l1)]) hx hb dX2_isComplete_15 rfl hl (by decide) rfl (fun ls hl => ?_)
    refine z_aload_n hx hb dX2_isComplete_16 rfl (lv_at hl 0 rfl) ?_
    refine z_ifnull (tgt := 36) hx hb dX2_isComplete_17 (by decide) (fun hz8 => ?_) (fun a5 hz8 => ?_)
    · subst hz8
      replace hf := z_c0 hf
      exact t_X2_isComplete_36 B hf hW (lv_sub hl [1, 2] rfl) hk1 hr1
    · subst hz8
      replace hf := z_c1 hf
      refine lv_aload_n hx hb dX2_isComplete_20 rfl (lv_at hl 0 rfl) ?_
      obtain ⟨hg6, hf⟩ := z_g hf
      refine z_getI B hW (Or.inl zf_X2_111) rfl hg6 dX2_isComplete_21 ?_
      refine lv_if_eq (tgt := 36) hx hb dX2_isComplete_24 (by decide) (fun hc24 => ?_) (fun hc24 => ?_)
      · replace hf := z_ip hc24 hf
        exact t_X2_isComplete_36 B hf hW (lv_sub hl [1, 2] rfl) hk1 hr1
      · replace hf := z_in hc24 hf
        refine lv_aload_n hx hb dX2_isComplete_27 rfl (lv_at hl 0 rfl) ?_
        refine z_getI B hW (Or.inl zf_X2_115) rfl hg6 dX2_isComplete_28 ?_
        refine lv_if_ne (tgt := 36) hx hb dX2_isComplete_31 (by decide) (fun hc31 => ?_) (fun hc31 => ?_)
        · replace hf := z_in hc31 hf
          exact t_X2_isComplete_36 B hf hW (lv_sub hl [1, 2] rfl) hk1 hr1
        · replace hf := z_ip hc31 hf
          obtain ⟨w1, hf, ho7⟩ := z_x hf
          obtain rfl := hr1 _ ho7
          refine lv_iconst (v := (0 : Int32)) hx hb dX2_isComplete_34 (by decide) ?_
          obtain rfl := z_e1 hf
          exact z_rz (by decide) B hW dX2_isComplete_35 (Nat.le_of_ble_eq_true rfl) (Nat.le_of_ble_eq_true rfl)
set_option maxRecDepth 20000 in
set_option maxHeartbeats 4000000 in
theorem t_X2_isComplete_2 (B : z_B p s m args meth c D cA bs RX2 cX2_isComplete 3 (some .boolean)) {r : Int32} {σ : zSt} {l0 : Nat}  : ∀ (n : Nat) {l1 : Int32}, zloop (fun (t : Int32) => b_X2_isComplete_2 σ l0 t) n l1 = some r → ∀ {H : Heap} {locs : List Loc} {ls : Array Slot}, z_Ok D cA bs s σ H locs → lv_has ls 3 [(0, .ref l0), (1, .int l1)] → W p l e (zrm 1 0 0 21) s m args below meth c H locs 0 0 (MQ below (z_Qi D cA bs r σ) args s 0 0 (fun q => bs ≤ q)) (F0 m 2 ls []) := by
  intro n
  induction n with
  | zero => intro l1 hf; cases hf
  | succ n ih =>
    intro l1 hf H locs ls hW hl
    obtain ⟨o1, hb1, hf⟩ := z_lp hf
    refine tb_X2_isComplete_2 B hb1 hW hl  (fun l1 he H locs ls hW hl => ?_) (fun x he => ?_)
    · rcases hf with ⟨t, ht, hf⟩ | hf
      · rw [he] at ht
        cases ht
        exact ih hf hW hl
      · rw [he] at hf
        cases hf
    · rcases hf with ⟨t, ht, hf⟩ | hf
      · rw [he] at ht
        cases ht
      · rw [he] at hf
        exact Sum.inr.inj hf
set_option maxRecDepth 100000 in
def f_X2_isComplete (σ : zSt) (l0 : Nat) : Option (Int32) :=
(f_X2_isComplete_2 σ l0 (0 : Int32))
set_option maxRecDepth 20000 in
set_option maxHeartbeats 4000000 in
theorem K_X2_isComplete {σ : zSt} {l0 : Nat} {r : Int32} (hf : f_X2_isComplete σ l0 = some r) : z_M l D cA bs yX2_isComplete cX2_isComplete 3 (some .boolean) 1 21 0 0 [.ref l0] σ (z_Qi D cA bs r σ) := by
  refine z_met (own := RX2) (lv := [(0, .ref l0)]) (by decide) rfl (Nat.le_of_ble_eq_true rfl) rfl (fun p e s m below meth c ls B hnm hW hl => ?_)
  have hx := B.1
  have hb := B.2.1
  have hown := B.2.2.2.1
  have hts := B.2.2.2.2.1
  unfold f_X2_isComplete at hf
  refine lv_iconst (v := (0 : Int32)) hx hb dX2_isComplete_0 (by decide) ?_
  refine lv_istore_n (lv' := [(1, .int (0 : Int32)), (0, .ref l0)]) hx hb dX2_isComplete_1 rfl hl (by decide) rfl (fun ls hl => ?_)
  unfold f_X2_isComplete_2 at hf
  exact t_X2_isComplete_2 B  zN hf hW (lv_sub hl [1, 0] rfl)
set_option maxRecDepth 100000 in
def f_X2_isWaitedAt_36 (σ : zSt) (l0 : Nat) (l1 : Int32) : Option ((Int32) ⊕ (Int32)) :=
(some (.inl (l1 + (1 : Int32))))
set_option maxRecDepth 20000 in
set_option maxHeartbeats 4000000 in
theorem t_X2_isWaitedAt_36 (B : z_B p s m args meth c D cA bs RX2 cX2_isWaitedAt 3 (some .boolean)) {r : Int32} {o1 : (Int32) ⊕ (Int32)} {σ : zSt} {l0 : Nat} {l1 : Int32} (hf : f_X2_isWaitedAt_36 σ l0 l1 = some o1) {H : Heap} {locs : List Loc} {ls : Array Slot} (hW : z_Ok D cA bs s σ H locs) (hl : lv_has ls 3 [(0, .ref l0), (1, .int l1)]) (hk1 : ∀ (l1 : Int32), o1 = .inl l1 → ∀ {H : Heap} {locs : List Loc} {ls : Array Slot}, z_Ok D cA bs s σ H locs → lv_has ls 3 [(0, .ref l0), (1, .int l1)] → W p l e (zrm 1 0 0 21) s m args below meth c H locs 0 0 (MQ below (z_Qi D cA bs r σ) args s 0 0 (fun q => bs ≤ q)) (F0 m 2 ls [])) (hr1 : ∀ x, o1 = .inr x → x = r) : W p l e (zrm 1 0 0 21) s m args below meth c H locs 0 0 (MQ below (z_Qi D cA bs r σ) args s 0 0 (fun q => bs ≤ q)) (F0 m 36 ls []) := by
  have hx := B.1
  have hb := B.2.1
  have hown := B.2.2.2.1
  have hts := B.2.2.2.2.1
  unfold f_X2_isWaitedAt_36 at hf
  refine lv_iinc (v := (l1 + (1 : Int32))) (lv' := [(1, .int (l1 + (1 : Int32))), (0, .ref l0)]) hx hb dX2_isWaitedAt_36 hl (k := 1) rfl rfl (by decide) rfl (fun ls hl => ?_)
  refine lv_goto (tgt := 2) hx hb dX2_isWaitedAt_39 (by decide) ?_
  exact hk1 _ (Option.some.inj hf).symm hW (lv_sub hl [1, 0] rfl)
set_option maxRecDepth 100000 in
def b_X2_isWaitedAt_2 (σ : zSt) (l0 : Nat) (l1 : Int32) : Option ((Int32) ⊕ (Int32)) :=
(if z_ob σ l0 2 then (if (z_I σ l0 5) ≤ l1 then
(zex (some (0 : Int32)))
else
(zb (f_X2_stationIn σ l0 l1) (fun r4 => (zc r4
(f_X2_isWaitedAt_36 σ l0 l1)
(fun a5 => (if z_ob σ a5 6 then (if (z_I σ a5 1) = 0 then
(f_X2_isWaitedAt_36 σ l0 l1)
else
(if (z_I σ a5 6) ≤ 0 then
(f_X2_isWaitedAt_36 σ l0 l1)
else
(zex (some (1 : Int32))))) else none)))))) else none)
set_option maxRecDepth 100000 in
def f_X2_isWaitedAt_2 (σ : zSt) (l0 : Nat) (l1 : Int32) : Option (Int32) := zloop (fun (t : Int32) => b_X2_isWaitedAt_2 σ l0 t) zN l1
set_option maxRecDepth 20000 in
set_option maxHeartbeats 4000000 in
theorem tb_X2_isWaitedAt_2 (B : z_B p s m args meth c D cA bs RX2 cX2_isWaitedAt 3 (some .boolean)) {r : Int32} {o1 : (Int32) ⊕ (Int32)} {σ : zSt} {l0 : Nat} {l1 : Int32} (hf : b_X2_isWaitedAt_2 σ l0 l1 = some o1) {H : Heap} {locs : List Loc} {ls : Array Slot} (hW : z_Ok D cA bs s σ H locs) (hl : lv_has ls 3 [(0, .ref l0), (1, .int l1)]) (hk1 : ∀ (l1 : Int32), o1 = .inl l1 → ∀ {H : Heap} {locs : List Loc} {ls : Array Slot}, z_Ok D cA bs s σ H locs → lv_has ls 3 [(0, .ref l0), (1, .int l1)] → W p l e (zrm 1 0 0 21) s m args below meth c H locs 0 0 (MQ below (z_Qi D cA bs r σ) args s 0 0 (fun q => bs ≤ q)) (F0 m 2 ls [])) (hr1 : ∀ x, o1 = .inr x → x = r) : W p l e (zrm 1 0 0 21) s m args below meth c H locs 0 0 (MQ below (z_Qi D cA bs r σ) args s 0 0 (fun q => bs ≤ q)) (F0 m 2 ls []) := by
  have hx := B.1
  have hb := B.2.1
  have hown := B.2.2.2.1
  have hts := B.2.2.2.2.1
  unfold b_X2_isWaitedAt_2 at hf
  refine lv_iload_n hx hb dX2_isWaitedAt_2 rfl (lv_at hl 1 rfl) ?_
  refine lv_aload_n hx hb dX2_isWaitedAt_3 rfl (lv_at hl 0 rfl) ?_
  obtain ⟨hg1, hf⟩ := z_g hf
  refine z_getI B hW (Or.inl zf_X2_61) rfl hg1 dX2_isWaitedAt_4 ?_
  refine lv_icmp_ge (tgt := 42) hx hb dX2_isWaitedAt_7 (by decide) (fun hc7 => ?_) (fun hc7 => ?_)
  · replace hf := z_ip hc7 hf
    obtain ⟨w1, hf, ho2⟩ := z_x hf
    obtain rfl := hr1 _ ho2
    refine lv_iconst (v := (0 : Int32)) hx hb dX2_isWaitedAt_42 (by decide) ?_
    obtain rfl := z_e1 hf
    exact z_rz (by decide) B hW dX2_isWaitedAt_43 (Nat.le_of_ble_eq_true rfl) (Nat.le_of_ble_eq_true rfl)
  · replace hf := z_in hc7 hf
    refine lv_aload_n hx hb dX2_isWaitedAt_10 rfl (lv_at hl 0 rfl) ?_
    refine lv_iload_n hx hb dX2_isWaitedAt_11 rfl (lv_at hl 1 rfl) ?_
    obtain ⟨r4, hq3, hf⟩ := z_b hf
    refine z_cq hW (z_runV (As := [.int l1]) (rest := []) B hW zv_X2_96 (K_X2_stationIn hq3) hg1 rfl rfl rfl (Nat.le_of_ble_eq_true rfl) hl.1 ⟨Nat.le_of_ble_eq_true rfl, Nat.le_of_ble_eq_true rfl⟩ dX2_isWaitedAt_12 ⟨Nat.le_of_ble_eq_true rfl, Nat.le_of_ble_eq_true rfl⟩) (fun H locs hW => ?_)
    refine z_astore_n (lv' := [(2, va_rf r4), (0, .ref l0), (1, .int l1)]) hx hb dX2_isWaitedAt_15 rfl hl (by decide) rfl (fun ls hl => ?_)
    refine z_aload_n hx hb dX2_isWaitedAt_16 rfl (lv_at hl 0 rfl) ?_
    refine z_ifnull (tgt := 36) hx hb dX2_isWaitedAt_17 (by decide) (fun hz8 => ?_) (fun a5 hz8 => ?_)
    · subst hz8
      replace hf := z_c0 hf
      exact t_X2_isWaitedAt_36 B hf hW (lv_sub hl [1, 2] rfl) hk1 hr1
    · subst hz8
      replace hf := z_c1 hf
      refine lv_aload_n hx hb dX2_isWaitedAt_20 rfl (lv_at hl 0 rfl) ?_
      obtain ⟨hg6, hf⟩ := z_g hf
      refine z_getI B hW (Or.inl zf_X2_111) rfl hg6 dX2_isWaitedAt_21 ?_
      refine lv_if_eq (tgt := 36) hx hb dX2_isWaitedAt_24 (by decide) (fun hc24 => ?_) (fun hc24 => ?_)
      · replace hf := z_ip hc24 hf
        exact t_X2_isWaitedAt_36 B hf hW (lv_sub hl [1, 2] rfl) hk1 hr1
      · replace hf := z_in hc24 hf
        refine lv_aload_n hx hb dX2_isWaitedAt_27 rfl (lv_at hl 0 rfl) ?_
        refine z_getI B hW (Or.inl zf_X2_118) rfl hg6 dX2_isWaitedAt_28 ?_
        refine lv_if_le (tgt := 36) hx hb dX2_isWaitedAt_31 (by decide) (fun hc31 => ?_) (fun hc31 => ?_)
        · replace hf := z_ip hc31 hf
          exact t_X2_isWaitedAt_36 B hf hW (lv_sub hl [1, 2] rfl) hk1 hr1
        · replace hf := z_in hc31 hf
          obtain ⟨w1, hf, ho7⟩ := z_x hf
          obtain rfl := hr1 _ ho7
          refine lv_iconst (v := (1 : Int32)) hx hb dX2_isWaitedAt_34 (by decide) ?_
          obtain rfl := z_e1 hf
          exact z_rz (by decide) B hW dX2_isWaitedAt_35 (Nat.le_of_ble_eq_true rfl) (Nat.le_of_ble_eq_true rfl)
set_option maxRecDepth 20000 in
set_option maxHeartbeats 4000000 in
theorem t_X2_isWaitedAt_2 (B : z_B p s m args meth c D cA bs RX2 cX2_isWaitedAt 3 (some .boolean)) {r : Int32} {σ : zSt} {l0 : Nat}  : ∀ (n : Nat) {l1 : Int32}, zloop (fun (t : Int32) => b_X2_isWaitedAt_2 σ l0 t) n l1 = some r → ∀ {H : Heap} {locs : List Loc} {ls : Array Slot}, z_Ok D cA bs s σ H locs → lv_has ls 3 [(0, .ref l0), (1, .int l1)] → W p l e (zrm 1 0 0 21) s m args below meth c H locs 0 0 (MQ below (z_Qi D cA bs r σ) args s 0 0 (fun q => bs ≤ q)) (F0 m 2 ls []) := by
  intro n
  induction n with
  | zero => intro l1 hf; cases hf
  | succ n ih =>
    intro l1 hf H locs ls hW hl
    obtain ⟨o1, hb1, hf⟩ := z_lp hf
    refine tb_X2_isWaitedAt_2 B hb1 hW hl  (fun l1 he H locs ls hW hl => ?_) (fun x he => ?_)
    · rcases hf with ⟨t, ht, hf⟩ | hf
      · rw [he] at ht
        cases ht
        exact ih hf hW hl
      · rw [he] at hf
        cases hf
    · rcases hf with ⟨t, ht, hf⟩ | hf
      · rw [he] at ht
        cases ht
      · rw [he] at hf
        exact Sum.inr.inj hf
set_option maxRecDepth 100000 in
def f_X2_isWaitedAt (σ : zSt) (l0 : Nat) : Option (Int32) :=
(f_X2_isWaitedAt_2 σ l0 (0 : Int32))
set_option maxRecDepth 20000 in
set_option maxHeartbeats 4000000 in
theorem K_X2_isWaitedAt {σ : zSt} {l0 : Nat} {r : Int32} (hf : f_X2_isWaitedAt σ l0 = some r) : z_M l D cA bs yX2_isWaitedAt cX2_isWaitedAt 3 (some .boolean) 1 21 0 0 [.ref l0] σ (z_Qi D cA bs r σ) := by
  refine z_met (own := RX2) (lv := [(0, .ref l0)]) (by decide) rfl (Nat.le_of_ble_eq_true rfl) rfl (fun p e s m below meth c ls B hnm hW hl => ?_)
  have hx := B.1
  have hb := B.2.1
  have hown := B.2.2.2.1
  have hts := B.2.2.2.2.1
  unfold f_X2_isWaitedAt at hf
  refine lv_iconst (v := (0 : Int32)) hx hb dX2_isWaitedAt_0 (by decide) ?_
  refine lv_istore_n (lv' := [(1, .int (0 : Int32)), (0, .ref l0)]) hx hb dX2_isWaitedAt_1 rfl hl (by decide) rfl (fun ls hl => ?_)
  unfold f_X2_isWaitedAt_2 at hf
  exact t_X2_isWaitedAt_2 B  zN hf hW (lv_sub hl [1, 0] rfl)
set_option maxRecDepth 100000 in
def f_X4_touch_44 (σ : zSt) : Option (Int32) :=
(some (0 : Int32))
set_option maxRecDepth 20000 in
set_option maxHeartbeats 4000000 in
theorem t_X4_touch_44 (B : z_B p s m args meth c D cA bs RX4 cX4_touch 4 (some .boolean)) {r : Int32} {σ : zSt} (hf : f_X4_touch_44 σ = some r) {H : Heap} {locs : List Loc} {ls : Array Slot} (hW : z_Ok D cA bs s σ H locs) (hl : lv_has ls 4 [])  : W p l e (zrm 0 0 0 0) s m args below meth c H locs 0 0 (MQ below (z_Qi D cA bs r σ) args s 0 0 (fun q => bs ≤ q)) (F0 m 44 ls []) := by
  have hx := B.1
  have hb := B.2.1
  have hown := B.2.2.2.1
  have hts := B.2.2.2.2.1
  unfold f_X4_touch_44 at hf
  refine lv_iconst (v := (0 : Int32)) hx hb dX4_touch_44 (by decide) ?_
  obtain rfl := z_e1 hf
  exact z_rz (by decide) B hW dX4_touch_45 (Nat.le_of_ble_eq_true rfl) (Nat.le_of_ble_eq_true rfl)
set_option maxRecDepth 100000 in
def f_X4_touch_38 (σ : zSt) (l0 : Nat) (l1 : Int32) (l2 : Int32) (l3 : Int32) : Option ((Int32) ⊕ (Int32)) :=
(some (.inl (l3 + (1 : Int32))))
set_option maxRecDepth 20000 in
set_option maxHeartbeats 4000000 in
theorem t_X4_touch_38 (B : z_B p s m args meth c D cA bs RX4 cX4_touch 4 (some .boolean)) {r : Int32} {o1 : (Int32) ⊕ (Int32)} {σ : zSt} {l0 : Nat} {l1 : Int32} {l2 : Int32} {l3 : Int32} (hf : f_X4_touch_38 σ l0 l1 l2 l3 = some o1) {H : Heap} {locs : List Loc} {ls : Array Slot} (hW : z_Ok D cA bs s σ H locs) (hl : lv_has ls 4 [(0, .ref l0), (1, .int l1), (2, .int l2), (3, .int l3)]) (hk1 : ∀ (l3 : Int32), o1 = .inl l3 → ∀ {H : Heap} {locs : List Loc} {ls : Array Slot}, z_Ok D cA bs s σ H locs → lv_has ls 4 [(0, .ref l0), (1, .int l1), (2, .int l2), (3, .int l3)] → W p l e (zrm 0 0 0 0) s m args below meth c H locs 0 0 (MQ below (z_Qi D cA bs r σ) args s 0 0 (fun q => bs ≤ q)) (F0 m 2 ls [])) (hr1 : ∀ x, o1 = .inr x → x = r) : W p l e (zrm 0 0 0 0) s m args below meth c H locs 0 0 (MQ below (z_Qi D cA bs r σ) args s 0 0 (fun q => bs ≤ q)) (F0 m 38 ls []) := by
  have hx := B.1
  have hb := B.2.1
  have hown := B.2.2.2.1
  have hts := B.2.2.2.2.1
  unfold f_X4_touch_38 at hf
  refine lv_iinc (v := (l3 + (1 : Int32))) (lv' := [(3, .int (l3 + (1 : Int32))), (0, .ref l0), (1, .int l1), (2, .int l2)]) hx hb dX4_touch_38 hl (k := 3) rfl rfl (by decide) rfl (fun ls hl => ?_)
  refine lv_goto (tgt := 2) hx hb dX4_touch_41 (by decide) ?_
  exact hk1 _ (Option.some.inj hf).symm hW (lv_sub hl [1, 2, 3, 0] rfl)
set_option maxRecDepth 100000 in
def b_X4_touch_2 (σ : zSt) (l0 : Nat) (l1 : Int32) (l2 : Int32) (l3 : Int32) : Option ((Int32) ⊕ (Int32)) :=
(if z_ob σ l0 4 then (if (z_I σ l0 2) ≤ l3 then
(zex (f_X4_touch_44 σ))
else
(if (20 : Int32) ≤ l3 then
(zex (f_X4_touch_44 σ))
else
(zc (z_R σ l0 0) none (fun q4 => (if z_ar σ q4 0 then (if z_ix l3 (z_ln σ q4) then (if l2 < (z_I σ q4 l3.toNatClampNeg) then
(f_X4_touch_38 σ l0 l1 l2 l3)
else
(zc (z_R σ l0 1) none (fun q8 => (if z_ar σ q8 0 then (if z_ix l3 (z_ln σ q8) then (if (z_I σ q8 l3.toNatClampNeg) < l1 then
(f_X4_touch_38 σ l0 l1 l2 l3)
else
(zex (some (1 : Int32)))) else none) else none)))) else none) else none))))) else none)
set_option maxRecDepth 100000 in
def f_X4_touch_2 (σ : zSt) (l0 : Nat) (l1 : Int32) (l2 : Int32) (l3 : Int32) : Option (Int32) := zloop (fun (t : Int32) => b_X4_touch_2 σ l0 l1 l2 t) zN l3
set_option maxRecDepth 20000 in
set_option maxHeartbeats 4000000 in
theorem tb_X4_touch_2 (B : z_B p s m args meth c D cA bs RX4 cX4_touch 4 (some .boolean)) {r : Int32} {o1 : (Int32) ⊕ (Int32)} {σ : zSt} {l0 : Nat} {l1 : Int32} {l2 : Int32} {l3 : Int32} (hf : b_X4_touch_2 σ l0 l1 l2 l3 = some o1) {H : Heap} {locs : List Loc} {ls : Array Slot} (hW : z_Ok D cA bs s σ H locs) (hl : lv_has ls 4 [(0, .ref l0), (1, .int l1), (2, .int l2), (3, .int l3)]) (hk1 : ∀ (l3 : Int32), o1 = .inl l3 → ∀ {H : Heap} {locs : List Loc} {ls : Array Slot}, z_Ok D cA bs s σ H locs → lv_has ls 4 [(0, .ref l0), (1, .int l1), (2, .int l2), (3, .int l3)] → W p l e (zrm 0 0 0 0) s m args below meth c H locs 0 0 (MQ below (z_Qi D cA bs r σ) args s 0 0 (fun q => bs ≤ q)) (F0 m 2 ls [])) (hr1 : ∀ x, o1 = .inr x → x = r) : W p l e (zrm 0 0 0 0) s m args below meth c H locs 0 0 (MQ below (z_Qi D cA bs r σ) args s 0 0 (fun q => bs ≤ q)) (F0 m 2 ls []) := by
  have hx := B.1
  have hb := B.2.1
  have hown := B.2.2.2.1
  have hts := B.2.2.2.2.1
  unfold b_X4_touch_2 at hf
  refine lv_iload_n hx hb dX4_touch_2 rfl (lv_at hl 3 rfl) ?_
  refine lv_aload_n hx hb dX4_touch_3 rfl (lv_at hl 0 rfl) ?_
  obtain ⟨hg1, hf⟩ := z_g hf
  refine z_getI B hW (Or.inl zf_X4_18) rfl hg1 dX4_touch_4 ?_
  refine lv_icmp_ge (tgt := 44) hx hb dX4_touch_7 (by decide) (fun hc7 => ?_) (fun hc7 => ?_)
  · replace hf := z_ip hc7 hf
    obtain ⟨w1, hf, ho2⟩ := z_x hf
    obtain rfl := hr1 _ ho2
    exact t_X4_touch_44 B hf hW (lv_sub hl [] rfl) 
  · replace hf := z_in hc7 hf
    refine lv_iload_n hx hb dX4_touch_10 rfl (lv_at hl 3 rfl) ?_
    refine lv_bipush (v := (20 : Int32)) hx hb dX4_touch_11 (by decide) ?_
    refine lv_icmp_ge (tgt := 44) hx hb dX4_touch_13 (by decide) (fun hc13 => ?_) (fun hc13 => ?_)
    · replace hf := z_ip hc13 hf
      obtain ⟨w1, hf, ho3⟩ := z_x hf
      obtain rfl := hr1 _ ho3
      exact t_X4_touch_44 B hf hW (lv_sub hl [] rfl) 
    · replace hf := z_in hc13 hf
      refine lv_aload_n hx hb dX4_touch_16 rfl (lv_at hl 0 rfl) ?_
      obtain ⟨q4, hv5, hf⟩ := z_nn hf
      refine z_getN B hW (Or.inr zf_X4_9) rfl hg1 hv5 dX4_touch_17 ?_
      refine lv_iload_n hx hb dX4_touch_20 rfl (lv_at hl 3 rfl) ?_
      obtain ⟨hg6, hf⟩ := z_g hf
      obtain ⟨hg7, hf⟩ := z_g hf
      refine z_ald B hW hg6 hg7 dX4_touch_21 ?_
      refine lv_iload_n hx hb dX4_touch_22 rfl (lv_at hl 2 rfl) ?_
      refine lv_icmp_gt (tgt := 38) hx hb dX4_touch_23 (by decide) (fun hc23 => ?_) (fun hc23 => ?_)
      · replace hf := z_ip hc23 hf
        exact t_X4_touch_38 B hf hW hl hk1 hr1
      · replace hf := z_in hc23 hf
        refine lv_aload_n hx hb dX4_touch_26 rfl (lv_at hl 0 rfl) ?_
        obtain ⟨q8, hv9, hf⟩ := z_nn hf
        refine z_getN B hW (Or.inr zf_X4_15) rfl hg1 hv9 dX4_touch_27 ?_
        refine lv_iload_n hx hb dX4_touch_30 rfl (lv_at hl 3 rfl) ?_
        obtain ⟨hg10, hf⟩ := z_g hf
        obtain ⟨hg11, hf⟩ := z_g hf
        refine z_ald B hW hg10 hg11 dX4_touch_31 ?_
        refine lv_iload_n hx hb dX4_touch_32 rfl (lv_at hl 1 rfl) ?_
        refine lv_icmp_lt (tgt := 38) hx hb dX4_touch_33 (by decide) (fun hc33 => ?_) (fun hc33 => ?_)
        · replace hf := z_ip hc33 hf
          exact t_X4_touch_38 B hf hW hl hk1 hr1
        · replace hf := z_in hc33 hf
          obtain ⟨w1, hf, ho12⟩ := z_x hf
          obtain rfl := hr1 _ ho12
          refine lv_iconst (v := (1 : Int32)) hx hb dX4_touch_36 (by decide) ?_
          obtain rfl := z_e1 hf
          exact z_rz (by decide) B hW dX4_touch_37 (Nat.le_of_ble_eq_true rfl) (Nat.le_of_ble_eq_true rfl)
set_option maxRecDepth 20000 in
set_option maxHeartbeats 4000000 in
theorem t_X4_touch_2 (B : z_B p s m args meth c D cA bs RX4 cX4_touch 4 (some .boolean)) {r : Int32} {σ : zSt} {l0 : Nat} {l1 : Int32} {l2 : Int32}  : ∀ (n : Nat) {l3 : Int32}, zloop (fun (t : Int32) => b_X4_touch_2 σ l0 l1 l2 t) n l3 = some r → ∀ {H : Heap} {locs : List Loc} {ls : Array Slot}, z_Ok D cA bs s σ H locs → lv_has ls 4 [(0, .ref l0), (1, .int l1), (2, .int l2), (3, .int l3)] → W p l e (zrm 0 0 0 0) s m args below meth c H locs 0 0 (MQ below (z_Qi D cA bs r σ) args s 0 0 (fun q => bs ≤ q)) (F0 m 2 ls []) := by
  intro n
  induction n with
  | zero => intro l3 hf; cases hf
  | succ n ih =>
    intro l3 hf H locs ls hW hl
    obtain ⟨o1, hb1, hf⟩ := z_lp hf
    refine tb_X4_touch_2 B hb1 hW hl  (fun l3 he H locs ls hW hl => ?_) (fun x he => ?_)
    · rcases hf with ⟨t, ht, hf⟩ | hf
      · rw [he] at ht
        cases ht
        exact ih hf hW hl
      · rw [he] at hf
        cases hf
    · rcases hf with ⟨t, ht, hf⟩ | hf
      · rw [he] at ht
        cases ht
      · rw [he] at hf
        exact Sum.inr.inj hf
set_option maxRecDepth 100000 in
def f_X4_touch (σ : zSt) (l0 : Nat) (l1 : Int32) (l2 : Int32) : Option (Int32) :=
(f_X4_touch_2 σ l0 l1 l2 (0 : Int32))
set_option maxRecDepth 20000 in
set_option maxHeartbeats 4000000 in
theorem K_X4_touch {σ : zSt} {l0 : Nat} {l1 : Int32} {l2 : Int32} {r : Int32} (hf : f_X4_touch σ l0 l1 l2 = some r) : z_M l D cA bs yX4_touch cX4_touch 4 (some .boolean) 0 0 0 0 [.ref l0, .int l1, .int l2] σ (z_Qi D cA bs r σ) := by
  refine z_met (own := RX4) (lv := [(0, .ref l0), (1, .int l1), (2, .int l2)]) (by decide) rfl (Nat.le_of_ble_eq_true rfl) rfl (fun p e s m below meth c ls B hnm hW hl => ?_)
  have hx := B.1
  have hb := B.2.1
  have hown := B.2.2.2.1
  have hts := B.2.2.2.2.1
  unfold f_X4_touch at hf
  refine lv_iconst (v := (0 : Int32)) hx hb dX4_touch_0 (by decide) ?_
  refine lv_istore_n (lv' := [(3, .int (0 : Int32)), (0, .ref l0), (1, .int l1), (2, .int l2)]) hx hb dX4_touch_1 rfl hl (by decide) rfl (fun ls hl => ?_)
  unfold f_X4_touch_2 at hf
  exact t_X4_touch_2 B  zN hf hW (lv_sub hl [1, 2, 3, 0] rfl)
set_option maxRecDepth 100000 in
def f_X2_transmit_56 (σ : zSt) (s0 : Int32) : Option (Int32 × zSt) :=
(if z_bl s0 then (some (s0, σ)) else none)
set_option maxRecDepth 20000 in
set_option maxHeartbeats 4000000 in
theorem t_X2_transmit_56 (B : z_B p s m args meth c D cA bs RX2 cX2_transmit 3 (some .boolean)) {r : Int32} {σ' : zSt} {σ : zSt} {s0 : Int32} (hf : f_X2_transmit_56 σ s0 = some (r, σ')) {H : Heap} {locs : List Loc} {ls : Array Slot} (hW : z_Ok D cA bs s σ H locs) (hl : lv_has ls 3 [])  : W p l e (zrm 1 0 0 23) s m args below meth c H locs 0 0 (MQ below (z_Qi D cA bs r σ') args s 0 0 (fun q => bs ≤ q)) (F0 m 56 ls [.int s0]) := by
  have hx := B.1
  have hb := B.2.1
  have hown := B.2.2.2.1
  have hts := B.2.2.2.2.1
  unfold f_X2_transmit_56 at hf
  obtain ⟨hg1, hf⟩ := z_g hf
  obtain ⟨rfl, rfl⟩ := z_e2 hf
  exact z_rz hg1 B hW dX2_transmit_56 (Nat.le_of_ble_eq_true rfl) (Nat.le_of_ble_eq_true rfl)
set_option maxRecDepth 100000 in
def f_X2_transmit_47 (σ : zSt) (l2 : Int32) : Option (Int32 × zSt) :=
(if l2 = 0 then
(f_X2_transmit_56 σ (1 : Int32))
else
(f_X2_transmit_56 σ (0 : Int32)))
set_option maxRecDepth 20000 in
set_option maxHeartbeats 4000000 in
theorem t_X2_transmit_47 (B : z_B p s m args meth c D cA bs RX2 cX2_transmit 3 (some .boolean)) {r : Int32} {σ' : zSt} {σ : zSt} {l2 : Int32} (hf : f_X2_transmit_47 σ l2 = some (r, σ')) {H : Heap} {locs : List Loc} {ls : Array Slot} (hW : z_Ok D cA bs s σ H locs) (hl : lv_has ls 3 [(2, .int l2)])  : W p l e (zrm 1 0 0 23) s m args below meth c H locs 0 0 (MQ below (z_Qi D cA bs r σ') args s 0 0 (fun q => bs ≤ q)) (F0 m 47 ls []) := by
  have hx := B.1
  have hb := B.2.1
  have hown := B.2.2.2.1
  have hts := B.2.2.2.2.1
  unfold f_X2_transmit_47 at hf
  refine lv_iload_n hx hb dX2_transmit_47 rfl (lv_at hl 0 rfl) ?_
  refine lv_if_ne (tgt := 55) hx hb dX2_transmit_48 (by decide) (fun hc48 => ?_) (fun hc48 => ?_)
  · replace hf := z_in hc48 hf
    refine lv_iconst (v := (0 : Int32)) hx hb dX2_transmit_55 (by decide) ?_
    exact t_X2_transmit_56 B hf hW (lv_sub hl [] rfl) 
  · replace hf := z_ip hc48 hf
    refine lv_iconst (v := (1 : Int32)) hx hb dX2_transmit_51 (by decide) ?_
    refine lv_goto (tgt := 56) hx hb dX2_transmit_52 (by decide) ?_
    exact t_X2_transmit_56 B hf hW (lv_sub hl [] rfl) 
set_option maxRecDepth 100000 in
def f_X2_transmit (σ : zSt) (l0 : Nat) (l1 : Int32) : Option (Int32 × zSt) :=
(if z_ob σ l0 2 then (zc (z_R σ l0 2) none (fun q2 => (if z_ob σ q2 4 then (zb (f_X4_touch σ q2 (z_I σ l0 9) (((z_I σ l0 9) + l1) - (1 : Int32))) (fun r6 => (zl (z_pI σ l0 9 ((z_I σ l0 9) + l1)) (fun σ7 => (if r6 = 0 then
(f_X2_transmit_47 σ7 r6)
else
(if z_ob σ7 l0 2 then (zc (z_R σ7 l0 3) none (fun q10 => (if z_ob σ7 q10 0 then (zl (z_pI σ7 q10 2 ((z_I σ7 q10 2) + (1 : Int32))) (fun σ13 => (f_X2_transmit_47 σ13 r6))) else none))) else none)))))) else none))) else none)
set_option maxRecDepth 20000 in
set_option maxHeartbeats 4000000 in
theorem K_X2_transmit {σ : zSt} {l0 : Nat} {l1 : Int32} {r : Int32} {σ' : zSt} (hf : f_X2_transmit σ l0 l1 = some (r, σ')) : z_M l D cA bs yX2_transmit cX2_transmit 3 (some .boolean) 1 23 0 0 [.ref l0, .int l1] σ (z_Qi D cA bs r σ') := by
  refine z_met (own := RX2) (lv := [(0, .ref l0), (1, .int l1)]) (by decide) rfl (Nat.le_of_ble_eq_true rfl) rfl (fun p e s m below meth c ls B hnm hW hl => ?_)
  have hx := B.1
  have hb := B.2.1
  have hown := B.2.2.2.1
  have hts := B.2.2.2.2.1
  unfold f_X2_transmit at hf
  refine lv_aload_n hx hb dX2_transmit_0 rfl (lv_at hl 0 rfl) ?_
  obtain ⟨hg1, hf⟩ := z_g hf
  obtain ⟨q2, hv3, hf⟩ := z_nn hf
  refine z_getN B hW (Or.inr zf_X2_27) rfl hg1 hv3 dX2_transmit_1 ?_
  refine lv_aload_n hx hb dX2_transmit_4 rfl (lv_at hl 0 rfl) ?_
  refine z_getI B hW (Or.inl zf_X2_69) rfl hg1 dX2_transmit_5 ?_
  refine lv_aload_n hx hb dX2_transmit_8 rfl (lv_at hl 0 rfl) ?_
  refine z_getI B hW (Or.inl zf_X2_69) rfl hg1 dX2_transmit_9 ?_
  refine lv_iload_n hx hb dX2_transmit_12 rfl (lv_at hl 1 rfl) ?_
  refine lv_iadd hx hb dX2_transmit_13 ?_
  refine lv_iconst (v := (1 : Int32)) hx hb dX2_transmit_14 (by decide) ?_
  refine lv_isub hx hb dX2_transmit_15 ?_
  obtain ⟨hg4, hf⟩ := z_g hf
  obtain ⟨r6, hq5, hf⟩ := z_b hf
  refine z_ci hW (z_runV (As := [.int (z_I σ l0 9), .int (((z_I σ l0 9) + l1) - (1 : Int32))]) (rest := []) B hW zv_X2_121 (K_X4_touch hq5) hg4 rfl rfl rfl (Nat.le_of_ble_eq_true rfl) hl.1 ⟨Nat.le_of_ble_eq_true rfl, Nat.le_of_ble_eq_true rfl⟩ dX2_transmit_16 ⟨Nat.le_of_ble_eq_true rfl, Nat.le_of_ble_eq_true rfl⟩) (fun H locs hW => ?_)
  refine lv_istore_n (lv' := [(2, .int r6), (0, .ref l0), (1, .int l1)]) hx hb dX2_transmit_19 rfl hl (by decide) rfl (fun ls hl => ?_)
  refine lv_aload_n hx hb dX2_transmit_20 rfl (lv_at hl 1 rfl) ?_
  refine lv_dup hx hb dX2_transmit_21 rfl ?_
  refine z_getI B hW (Or.inl zf_X2_69) rfl hg1 dX2_transmit_22 ?_
  refine lv_iload_n hx hb dX2_transmit_25 rfl (lv_at hl 2 rfl) ?_
  refine lv_iadd hx hb dX2_transmit_26 ?_
  obtain ⟨σ7, hs8, hf⟩ := z_l hf
  refine z_putI B hW zf_X2_69 hg1 rfl hs8 dX2_transmit_27 (fun H locs hW => ?_)
  refine lv_iload_n hx hb dX2_transmit_30 rfl (lv_at hl 0 rfl) ?_
  refine lv_if_eq (tgt := 47) hx hb dX2_transmit_31 (by decide) (fun hc31 => ?_) (fun hc31 => ?_)
  · replace hf := z_ip hc31 hf
    exact t_X2_transmit_47 B hf hW (lv_sub hl [0] rfl) 
  · replace hf := z_in hc31 hf
    refine lv_aload_n hx hb dX2_transmit_34 rfl (lv_at hl 1 rfl) ?_
    obtain ⟨hg9, hf⟩ := z_g hf
    obtain ⟨q10, hv11, hf⟩ := z_nn hf
    refine z_getN B hW (Or.inr zf_X2_34) rfl hg9 hv11 dX2_transmit_35 ?_
    refine lv_dup hx hb dX2_transmit_38 rfl ?_
    obtain ⟨hg12, hf⟩ := z_g hf
    refine z_getI B hW (Or.inl zf_X2_125) rfl hg12 dX2_transmit_39 ?_
    refine lv_iconst (v := (1 : Int32)) hx hb dX2_transmit_42 (by decide) ?_
    refine lv_iadd hx hb dX2_transmit_43 ?_
    obtain ⟨σ13, hs14, hf⟩ := z_l hf
    refine z_putI B hW zf_X2_125 hg12 rfl hs14 dX2_transmit_44 (fun H locs hW => ?_)
    exact t_X2_transmit_47 B hf hW (lv_sub hl [0] rfl) 
set_option maxRecDepth 100000 in
def f_X7_put_33 (σ : zSt) : Option (zSt) :=
(some σ)
set_option maxRecDepth 20000 in
set_option maxHeartbeats 4000000 in
theorem t_X7_put_33 (B : z_B p s m args meth c D cA bs RX7 cX7_put 5 none)  {σ' : zSt} {σ : zSt} (hf : f_X7_put_33 σ = some σ') {H : Heap} {locs : List Loc} {ls : Array Slot} (hW : z_Ok D cA bs s σ H locs) (hl : lv_has ls 5 [])  : W p l e (zrm 0 0 0 0) s m args below meth c H locs 0 0 (MQ below (z_Qv D cA bs σ') args s 0 0 (fun q => bs ≤ q)) (F0 m 33 ls []) := by
  have hx := B.1
  have hb := B.2.1
  have hown := B.2.2.2.1
  have hts := B.2.2.2.2.1
  unfold f_X7_put_33 at hf
  obtain rfl := z_e1 hf
  exact z_rv B hW dX7_put_33 (Nat.le_of_ble_eq_true rfl) (Nat.le_of_ble_eq_true rfl)
set_option maxRecDepth 100000 in
def f_X7_put (σ : zSt) (l0 : Nat) (l1 : Int32) (l2 : Int32) (l3 : Int32) : Option (zSt) :=
(if z_ob σ l0 7 then (zl ((l1 * (z_I σ l0 0)) + l2) (fun x2 => (if x2 < 0 then
(f_X7_put_33 σ)
else
(zc (z_R σ l0 1) none (fun q4 => (if z_ar σ q4 0 then (if (Int32.ofNat (z_ln σ q4)) ≤ x2 then
(f_X7_put_33 σ)
else
(zc (z_R σ l0 1) none (fun q7 => (if z_ar σ q7 0 then (if z_ix x2 (z_ln σ q7) then (zl (z_pI σ q7 x2.toNatClampNeg l3) (fun σ11 => (f_X7_put_33 σ11))) else none) else none)))) else none)))))) else none)
set_option maxRecDepth 20000 in
set_option maxHeartbeats 4000000 in
theorem K_X7_put {σ : zSt} {l0 : Nat} {l1 : Int32} {l2 : Int32} {l3 : Int32}  {σ' : zSt} (hf : f_X7_put σ l0 l1 l2 l3 = some σ') : z_M l D cA bs yX7_put cX7_put 5 none 0 0 0 0 [.ref l0, .int l1, .int l2, .int l3] σ (z_Qv D cA bs σ') := by
  refine z_met (own := RX7) (lv := [(0, .ref l0), (1, .int l1), (2, .int l2), (3, .int l3)]) (by decide) rfl (Nat.le_of_ble_eq_true rfl) rfl (fun p e s m below meth c ls B hnm hW hl => ?_)
  have hx := B.1
  have hb := B.2.1
  have hown := B.2.2.2.1
  have hts := B.2.2.2.2.1
  unfold f_X7_put at hf
  refine lv_iload_n hx hb dX7_put_0 rfl (lv_at hl 1 rfl) ?_
  refine lv_aload_n hx hb dX7_put_1 rfl (lv_at hl 0 rfl) ?_
  obtain ⟨hg1, hf⟩ := z_g hf
  refine z_getI B hW (Or.inr zf_X7_9) rfl hg1 dX7_put_2 ?_
  refine lv_imul hx hb dX7_put_5 ?_
  refine lv_iload_n hx hb dX7_put_6 rfl (lv_at hl 2 rfl) ?_
  refine lv_iadd hx hb dX7_put_7 ?_
  obtain ⟨x2, hx3, hf⟩ := z_l hf
  rw [hx3]
  refine lv_istore (lv' := [(4, .int x2), (0, .ref l0), (1, .int l1), (2, .int l2), (3, .int l3)]) hx hb dX7_put_8 hl (by decide) rfl (fun ls hl => ?_)
  refine lv_iload hx hb dX7_put_10 (lv_at hl 0 rfl) ?_
  refine lv_if_lt (tgt := 33) hx hb dX7_put_12 (by decide) (fun hc12 => ?_) (fun hc12 => ?_)
  · replace hf := z_ip hc12 hf
    exact t_X7_put_33 B hf hW (lv_sub hl [] rfl) 
  · replace hf := z_in hc12 hf
    refine lv_iload hx hb dX7_put_15 (lv_at hl 0 rfl) ?_
    refine lv_aload_n hx hb dX7_put_17 rfl (lv_at hl 1 rfl) ?_
    obtain ⟨q4, hv5, hf⟩ := z_nn hf
    refine z_getN B hW (Or.inr zf_X7_21) rfl hg1 hv5 dX7_put_18 ?_
    obtain ⟨hg6, hf⟩ := z_g hf
    refine z_alen (t := 0) (by decide) B hW hg6 dX7_put_21 ?_
    refine lv_icmp_ge (tgt := 33) hx hb dX7_put_22 (by decide) (fun hc22 => ?_) (fun hc22 => ?_)
    · replace hf := z_ip hc22 hf
      exact t_X7_put_33 B hf hW (lv_sub hl [] rfl) 
    · replace hf := z_in hc22 hf
      refine lv_aload_n hx hb dX7_put_25 rfl (lv_at hl 1 rfl) ?_
      obtain ⟨q7, hv8, hf⟩ := z_nn hf
      refine z_getN B hW (Or.inr zf_X7_21) rfl hg1 hv8 dX7_put_26 ?_
      refine lv_iload hx hb dX7_put_29 (lv_at hl 0 rfl) ?_
      refine lv_iload_n hx hb dX7_put_31 rfl (lv_at hl 4 rfl) ?_
      obtain ⟨hg9, hf⟩ := z_g hf
      obtain ⟨hg10, hf⟩ := z_g hf
      obtain ⟨σ11, hs12, hf⟩ := z_l hf
      refine z_ast B hW hg9 hg10 hs12 dX7_put_32 (fun H locs hW => ?_)
      exact t_X7_put_33 B hf hW (lv_sub hl [] rfl) 
set_option maxRecDepth 100000 in
def f_X2_logVisit (σ : zSt) (l0 : Nat) (l1 : Int32) (l2 : Int32) (l3 : Int32) (l4 : Int32) : Option (zSt) :=
(if z_ob σ l0 2 then (zc (z_R σ l0 3) none (fun q2 => (if z_ob σ q2 0 then (zl (((z_I σ q2 0) - (1 : Int32)) - ((z_I σ q2 0) - (1 : Int32)) / (40 : Int32) * (40 : Int32)) (fun x5 => (zc (z_R σ l0 4) none (fun q7 => (if z_ob σ q7 7 then (zb (f_X7_put σ q7 x5 (0 : Int32) l1) (fun σ11 => (if z_ob σ11 l0 2 then (zc (z_R σ11 l0 4) none (fun q13 => (if z_ob σ11 q13 7 then (zb (f_X7_put σ11 q13 x5 (1 : Int32) l2) (fun σ17 => (if z_ob σ17 l0 2 then (zc (z_R σ17 l0 4) none (fun q19 => (if z_ob σ17 q19 7 then (zb (f_X7_put σ17 q19 x5 (2 : Int32) l3) (fun σ23 => (if z_ob σ23 l0 2 then (zc (z_R σ23 l0 4) none (fun q25 => (if z_ob σ23 q25 7 then (zb (f_X7_put σ23 q25 x5 (3 : Int32) l4) (fun σ29 => (some σ29))) else none))) else none))) else none))) else none))) else none))) else none))) else none))))) else none))) else none)
set_option maxRecDepth 20000 in
set_option maxHeartbeats 4000000 in
theorem K_X2_logVisit {σ : zSt} {l0 : Nat} {l1 : Int32} {l2 : Int32} {l3 : Int32} {l4 : Int32}  {σ' : zSt} (hf : f_X2_logVisit σ l0 l1 l2 l3 l4 = some σ') : z_M l D cA bs yX2_logVisit cX2_logVisit 6 none 1 24 0 0 [.ref l0, .int l1, .int l2, .int l3, .int l4] σ (z_Qv D cA bs σ') := by
  refine z_met (own := RX2) (lv := [(0, .ref l0), (1, .int l1), (2, .int l2), (3, .int l3), (4, .int l4)]) (by decide) rfl (Nat.le_of_ble_eq_true rfl) rfl (fun p e s m below meth c ls B hnm hW hl => ?_)
  have hx := B.1
  have hb := B.2.1
  have hown := B.2.2.2.1
  have hts := B.2.2.2.2.1
  unfold f_X2_logVisit at hf
  refine lv_aload_n hx hb dX2_logVisit_0 rfl (lv_at hl 0 rfl) ?_
  obtain ⟨hg1, hf⟩ := z_g hf
  obtain ⟨q2, hv3, hf⟩ := z_nn hf
  refine z_getN B hW (Or.inr zf_X2_34) rfl hg1 hv3 dX2_logVisit_1 ?_
  obtain ⟨hg4, hf⟩ := z_g hf
  refine z_getI B hW (Or.inl zf_X2_128) rfl hg4 dX2_logVisit_4 ?_
  refine lv_iconst (v := (1 : Int32)) hx hb dX2_logVisit_7 (by decide) ?_
  refine lv_isub hx hb dX2_logVisit_8 ?_
  refine lv_bipush (v := (40 : Int32)) hx hb dX2_logVisit_9 (by decide) ?_
  refine lv_irem hx hb dX2_logVisit_11 (by decide) ?_
  obtain ⟨x5, hx6, hf⟩ := z_l hf
  rw [hx6]
  refine lv_istore (lv' := [(5, .int x5), (0, .ref l0), (1, .int l1), (2, .int l2), (3, .int l3), (4, .int l4)]) hx hb dX2_logVisit_12 hl (by decide) rfl (fun ls hl => ?_)
  refine lv_aload_n hx hb dX2_logVisit_14 rfl (lv_at hl 1 rfl) ?_
  obtain ⟨q7, hv8, hf⟩ := z_nn hf
  refine z_getN B hW (Or.inr zf_X2_43) rfl hg1 hv8 dX2_logVisit_15 ?_
  refine lv_iload hx hb dX2_logVisit_18 (lv_at hl 0 rfl) ?_
  refine lv_iconst (v := (0 : Int32)) hx hb dX2_logVisit_20 (by decide) ?_
  refine lv_iload_n hx hb dX2_logVisit_21 rfl (lv_at hl 2 rfl) ?_
  obtain ⟨hg9, hf⟩ := z_g hf
  obtain ⟨σ11, hq10, hf⟩ := z_b hf
  refine z_cv hW (z_runV (As := [.int x5, .int (0 : Int32), .int l1]) (rest := []) B hW zv_X2_131 (K_X7_put hq10) hg9 rfl rfl rfl (Nat.le_of_ble_eq_true rfl) hl.1 ⟨Nat.le_of_ble_eq_true rfl, Nat.le_of_ble_eq_true rfl⟩ dX2_logVisit_22 ⟨Nat.le_of_ble_eq_true rfl, Nat.le_of_ble_eq_true rfl⟩) (fun H locs hW => ?_)
  refine lv_aload_n hx hb dX2_logVisit_25 rfl (lv_at hl 1 rfl) ?_
  obtain ⟨hg12, hf⟩ := z_g hf
  obtain ⟨q13, hv14, hf⟩ := z_nn hf
  refine z_getN B hW (Or.inr zf_X2_43) rfl hg12 hv14 dX2_logVisit_26 ?_
  refine lv_iload hx hb dX2_logVisit_29 (lv_at hl 0 rfl) ?_
  refine lv_iconst (v := (1 : Int32)) hx hb dX2_logVisit_31 (by decide) ?_
  refine lv_iload_n hx hb dX2_logVisit_32 rfl (lv_at hl 3 rfl) ?_
  obtain ⟨hg15, hf⟩ := z_g hf
  obtain ⟨σ17, hq16, hf⟩ := z_b hf
  refine z_cv hW (z_runV (As := [.int x5, .int (1 : Int32), .int l2]) (rest := []) B hW zv_X2_131 (K_X7_put hq16) hg15 rfl rfl rfl (Nat.le_of_ble_eq_true rfl) hl.1 ⟨Nat.le_of_ble_eq_true rfl, Nat.le_of_ble_eq_true rfl⟩ dX2_logVisit_33 ⟨Nat.le_of_ble_eq_true rfl, Nat.le_of_ble_eq_true rfl⟩) (fun H locs hW => ?_)
  refine lv_aload_n hx hb dX2_logVisit_36 rfl (lv_at hl 1 rfl) ?_
  obtain ⟨hg18, hf⟩ := z_g hf
  obtain ⟨q19, hv20, hf⟩ := z_nn hf
  refine z_getN B hW (Or.inr zf_X2_43) rfl hg18 hv20 dX2_logVisit_37 ?_
  refine lv_iload hx hb dX2_logVisit_40 (lv_at hl 0 rfl) ?_
  refine lv_iconst (v := (2 : Int32)) hx hb dX2_logVisit_42 (by decide) ?_
  refine lv_iload_n hx hb dX2_logVisit_43 rfl (lv_at hl 4 rfl) ?_
  obtain ⟨hg21, hf⟩ := z_g hf
  obtain ⟨σ23, hq22, hf⟩ := z_b hf
  refine z_cv hW (z_runV (As := [.int x5, .int (2 : Int32), .int l3]) (rest := []) B hW zv_X2_131 (K_X7_put hq22) hg21 rfl rfl rfl (Nat.le_of_ble_eq_true rfl) hl.1 ⟨Nat.le_of_ble_eq_true rfl, Nat.le_of_ble_eq_true rfl⟩ dX2_logVisit_44 ⟨Nat.le_of_ble_eq_true rfl, Nat.le_of_ble_eq_true rfl⟩) (fun H locs hW => ?_)
  refine lv_aload_n hx hb dX2_logVisit_47 rfl (lv_at hl 1 rfl) ?_
  obtain ⟨hg24, hf⟩ := z_g hf
  obtain ⟨q25, hv26, hf⟩ := z_nn hf
  refine z_getN B hW (Or.inr zf_X2_43) rfl hg24 hv26 dX2_logVisit_48 ?_
  refine lv_iload hx hb dX2_logVisit_51 (lv_at hl 0 rfl) ?_
  refine lv_iconst (v := (3 : Int32)) hx hb dX2_logVisit_53 (by decide) ?_
  refine lv_iload hx hb dX2_logVisit_54 (lv_at hl 5 rfl) ?_
  obtain ⟨hg27, hf⟩ := z_g hf
  obtain ⟨σ29, hq28, hf⟩ := z_b hf
  refine z_cv hW (z_runV (As := [.int x5, .int (3 : Int32), .int l4]) (rest := []) B hW zv_X2_131 (K_X7_put hq28) hg27 rfl rfl rfl (Nat.le_of_ble_eq_true rfl) hl.1 ⟨Nat.le_of_ble_eq_true rfl, Nat.le_of_ble_eq_true rfl⟩ dX2_logVisit_56 ⟨Nat.le_of_ble_eq_true rfl, Nat.le_of_ble_eq_true rfl⟩) (fun H locs hW => ?_)
  obtain rfl := z_e1 hf
  exact z_rv B hW dX2_logVisit_59 (Nat.le_of_ble_eq_true rfl) (Nat.le_of_ble_eq_true rfl)
set_option maxRecDepth 100000 in
def f_X7_at_32 (σ : zSt) (s0 : Int32) : Option (Int32) :=
(some s0)
set_option maxRecDepth 20000 in
set_option maxHeartbeats 4000000 in
theorem t_X7_at_32 (B : z_B p s m args meth c D cA bs RX7 cX7_at 4 (some .int)) {r : Int32} {σ : zSt} {s0 : Int32} (hf : f_X7_at_32 σ s0 = some r) {H : Heap} {locs : List Loc} {ls : Array Slot} (hW : z_Ok D cA bs s σ H locs) (hl : lv_has ls 4 [])  : W p l e (zrm 0 0 0 0) s m args below meth c H locs 0 0 (MQ below (z_Qi D cA bs r σ) args s 0 0 (fun q => bs ≤ q)) (F0 m 32 ls [.int s0]) := by
  have hx := B.1
  have hb := B.2.1
  have hown := B.2.2.2.1
  have hts := B.2.2.2.2.1
  unfold f_X7_at_32 at hf
  obtain rfl := z_e1 hf
  exact z_ri B hW dX7_at_32 (Nat.le_of_ble_eq_true rfl) (Nat.le_of_ble_eq_true rfl)
set_option maxRecDepth 100000 in
def f_X7_at_31 (σ : zSt) : Option (Int32) :=
(f_X7_at_32 σ (-1 : Int32))
set_option maxRecDepth 20000 in
set_option maxHeartbeats 4000000 in
theorem t_X7_at_31 (B : z_B p s m args meth c D cA bs RX7 cX7_at 4 (some .int)) {r : Int32} {σ : zSt} (hf : f_X7_at_31 σ = some r) {H : Heap} {locs : List Loc} {ls : Array Slot} (hW : z_Ok D cA bs s σ H locs) (hl : lv_has ls 4 [])  : W p l e (zrm 0 0 0 0) s m args below meth c H locs 0 0 (MQ below (z_Qi D cA bs r σ) args s 0 0 (fun q => bs ≤ q)) (F0 m 31 ls []) := by
  have hx := B.1
  have hb := B.2.1
  have hown := B.2.2.2.1
  have hts := B.2.2.2.2.1
  unfold f_X7_at_31 at hf
  refine lv_iconst (v := (-1 : Int32)) hx hb dX7_at_31 (by decide) ?_
  exact t_X7_at_32 B hf hW hl 
set_option maxRecDepth 100000 in
def f_X7_at (σ : zSt) (l0 : Nat) (l1 : Int32) (l2 : Int32) : Option (Int32) :=
(if z_ob σ l0 7 then (zl ((l1 * (z_I σ l0 0)) + l2) (fun x2 => (if x2 < 0 then
(f_X7_at_31 σ)
else
(zc (z_R σ l0 1) none (fun q4 => (if z_ar σ q4 0 then (if (Int32.ofNat (z_ln σ q4)) ≤ x2 then
(f_X7_at_31 σ)
else
(zc (z_R σ l0 1) none (fun q7 => (if z_ar σ q7 0 then (if z_ix x2 (z_ln σ q7) then (f_X7_at_32 σ (z_I σ q7 x2.toNatClampNeg)) else none) else none)))) else none)))))) else none)
set_option maxRecDepth 20000 in
set_option maxHeartbeats 4000000 in
theorem K_X7_at {σ : zSt} {l0 : Nat} {l1 : Int32} {l2 : Int32} {r : Int32} (hf : f_X7_at σ l0 l1 l2 = some r) : z_M l D cA bs yX7_at cX7_at 4 (some .int) 0 0 0 0 [.ref l0, .int l1, .int l2] σ (z_Qi D cA bs r σ) := by
  refine z_met (own := RX7) (lv := [(0, .ref l0), (1, .int l1), (2, .int l2)]) (by decide) rfl (Nat.le_of_ble_eq_true rfl) rfl (fun p e s m below meth c ls B hnm hW hl => ?_)
  have hx := B.1
  have hb := B.2.1
  have hown := B.2.2.2.1
  have hts := B.2.2.2.2.1
  unfold f_X7_at at hf
  refine lv_iload_n hx hb dX7_at_0 rfl (lv_at hl 1 rfl) ?_
  refine lv_aload_n hx hb dX7_at_1 rfl (lv_at hl 0 rfl) ?_
  obtain ⟨hg1, hf⟩ := z_g hf
  refine z_getI B hW (Or.inr zf_X7_9) rfl hg1 dX7_at_2 ?_
  refine lv_imul hx hb dX7_at_5 ?_
  refine lv_iload_n hx hb dX7_at_6 rfl (lv_at hl 2 rfl) ?_
  refine lv_iadd hx hb dX7_at_7 ?_
  obtain ⟨x2, hx3, hf⟩ := z_l hf
  rw [hx3]
  refine lv_istore_n (lv' := [(3, .int x2), (0, .ref l0), (1, .int l1), (2, .int l2)]) hx hb dX7_at_8 rfl hl (by decide) rfl (fun ls hl => ?_)
  refine lv_iload_n hx hb dX7_at_9 rfl (lv_at hl 0 rfl) ?_
  refine lv_if_lt (tgt := 31) hx hb dX7_at_10 (by decide) (fun hc10 => ?_) (fun hc10 => ?_)
  · replace hf := z_ip hc10 hf
    exact t_X7_at_31 B hf hW (lv_sub hl [] rfl) 
  · replace hf := z_in hc10 hf
    refine lv_iload_n hx hb dX7_at_13 rfl (lv_at hl 0 rfl) ?_
    refine lv_aload_n hx hb dX7_at_14 rfl (lv_at hl 1 rfl) ?_
    obtain ⟨q4, hv5, hf⟩ := z_nn hf
    refine z_getN B hW (Or.inr zf_X7_21) rfl hg1 hv5 dX7_at_15 ?_
    obtain ⟨hg6, hf⟩ := z_g hf
    refine z_alen (t := 0) (by decide) B hW hg6 dX7_at_18 ?_
    refine lv_icmp_ge (tgt := 31) hx hb dX7_at_19 (by decide) (fun hc19 => ?_) (fun hc19 => ?_)
    · replace hf := z_ip hc19 hf
      exact t_X7_at_31 B hf hW (lv_sub hl [] rfl) 
    · replace hf := z_in hc19 hf
      refine lv_aload_n hx hb dX7_at_22 rfl (lv_at hl 1 rfl) ?_
      obtain ⟨q7, hv8, hf⟩ := z_nn hf
      refine z_getN B hW (Or.inr zf_X7_21) rfl hg1 hv8 dX7_at_23 ?_
      refine lv_iload_n hx hb dX7_at_26 rfl (lv_at hl 0 rfl) ?_
      obtain ⟨hg9, hf⟩ := z_g hf
      obtain ⟨hg10, hf⟩ := z_g hf
      refine z_ald B hW hg9 hg10 dX7_at_27 ?_
      refine lv_goto (tgt := 32) hx hb dX7_at_28 (by decide) ?_
      exact t_X7_at_32 B hf hW (lv_sub hl [] rfl) 
set_option maxRecDepth 100000 in
def f_X2_logValue (σ : zSt) (l0 : Nat) (l1 : Int32) (l2 : Int32) : Option (Int32) :=
(if z_ob σ l0 2 then (zc (z_R σ l0 3) none (fun q2 => (if z_ob σ q2 0 then (zb (f_X2_logLength σ l0) (fun r6 => (zl ((z_I σ q2 0) - r6) (fun x7 => (zc (z_R σ l0 4) none (fun q9 => (if z_ob σ q9 7 then (zb (f_X7_at σ q9 ((x7 + l1) - (x7 + l1) / (40 : Int32) * (40 : Int32)) l2) (fun r13 => (some r13))) else none))))))) else none))) else none)
set_option maxRecDepth 20000 in
set_option maxHeartbeats 4000000 in
theorem K_X2_logValue {σ : zSt} {l0 : Nat} {l1 : Int32} {l2 : Int32} {r : Int32} (hf : f_X2_logValue σ l0 l1 l2 = some r) : z_M l D cA bs yX2_logValue cX2_logValue 4 (some .int) 2 45 0 0 [.ref l0, .int l1, .int l2] σ (z_Qi D cA bs r σ) := by
  refine z_met (own := RX2) (lv := [(0, .ref l0), (1, .int l1), (2, .int l2)]) (by decide) rfl (Nat.le_of_ble_eq_true rfl) rfl (fun p e s m below meth c ls B hnm hW hl => ?_)
  have hx := B.1
  have hb := B.2.1
  have hown := B.2.2.2.1
  have hts := B.2.2.2.2.1
  unfold f_X2_logValue at hf
  refine lv_aload_n hx hb dX2_logValue_0 rfl (lv_at hl 0 rfl) ?_
  obtain ⟨hg1, hf⟩ := z_g hf
  obtain ⟨q2, hv3, hf⟩ := z_nn hf
  refine z_getN B hW (Or.inr zf_X2_34) rfl hg1 hv3 dX2_logValue_1 ?_
  obtain ⟨hg4, hf⟩ := z_g hf
  refine z_getI B hW (Or.inl zf_X2_128) rfl hg4 dX2_logValue_4 ?_
  refine lv_aload_n hx hb dX2_logValue_7 rfl (lv_at hl 0 rfl) ?_
  obtain ⟨r6, hq5, hf⟩ := z_b hf
  refine z_ci hW (z_runV (As := []) (rest := [.int (z_I σ q2 0)]) B hW zv_X2_86 (K_X2_logLength hq5) hg1 rfl rfl rfl (Nat.le_of_ble_eq_true rfl) hl.1 ⟨Nat.le_of_ble_eq_true rfl, Nat.le_of_ble_eq_true rfl⟩ dX2_logValue_8 ⟨Nat.le_of_ble_eq_true rfl, Nat.le_of_ble_eq_true rfl⟩) (fun H locs hW => ?_)
  refine lv_isub hx hb dX2_logValue_11 ?_
  obtain ⟨x7, hx8, hf⟩ := z_l hf
  rw [hx8]
  refine lv_istore_n (lv' := [(3, .int x7), (0, .ref l0), (1, .int l1), (2, .int l2)]) hx hb dX2_logValue_12 rfl hl (by decide) rfl (fun ls hl => ?_)
  refine lv_aload_n hx hb dX2_logValue_13 rfl (lv_at hl 1 rfl) ?_
  obtain ⟨q9, hv10, hf⟩ := z_nn hf
  refine z_getN B hW (Or.inr zf_X2_43) rfl hg1 hv10 dX2_logValue_14 ?_
  refine lv_iload_n hx hb dX2_logValue_17 rfl (lv_at hl 0 rfl) ?_
  refine lv_iload_n hx hb dX2_logValue_18 rfl (lv_at hl 2 rfl) ?_
  refine lv_iadd hx hb dX2_logValue_19 ?_
  refine lv_bipush (v := (40 : Int32)) hx hb dX2_logValue_20 (by decide) ?_
  refine lv_irem hx hb dX2_logValue_22 (by decide) ?_
  refine lv_iload_n hx hb dX2_logValue_23 rfl (lv_at hl 3 rfl) ?_
  obtain ⟨hg11, hf⟩ := z_g hf
  obtain ⟨r13, hq12, hf⟩ := z_b hf
  refine z_ci hW (z_runV (As := [.int ((x7 + l1) - (x7 + l1) / (40 : Int32) * (40 : Int32)), .int l2]) (rest := []) B hW zv_X2_141 (K_X7_at hq12) hg11 rfl rfl rfl (Nat.le_of_ble_eq_true rfl) hl.1 ⟨Nat.le_of_ble_eq_true rfl, Nat.le_of_ble_eq_true rfl⟩ dX2_logValue_24 ⟨Nat.le_of_ble_eq_true rfl, Nat.le_of_ble_eq_true rfl⟩) (fun H locs hW => ?_)
  obtain rfl := z_e1 hf
  exact z_ri B hW dX2_logValue_27 (Nat.le_of_ble_eq_true rfl) (Nat.le_of_ble_eq_true rfl)
set_option maxRecDepth 100000 in
def f_X3_number (σ : zSt) (l0 : Nat) : Option (Int32) :=
(if z_ob σ l0 3 then (some (z_I σ l0 1)) else none)
set_option maxRecDepth 20000 in
set_option maxHeartbeats 4000000 in
theorem K_X3_number {σ : zSt} {l0 : Nat} {r : Int32} (hf : f_X3_number σ l0 = some r) : z_M l D cA bs yX3_number cX3_number 1 (some .int) 0 0 0 0 [.ref l0] σ (z_Qi D cA bs r σ) := by
  refine z_met (own := RX3) (lv := [(0, .ref l0)]) (by decide) rfl (Nat.le_of_ble_eq_true rfl) rfl (fun p e s m below meth c ls B hnm hW hl => ?_)
  have hx := B.1
  have hb := B.2.1
  have hown := B.2.2.2.1
  have hts := B.2.2.2.2.1
  unfold f_X3_number at hf
  refine lv_aload_n hx hb dX3_number_0 rfl (lv_at hl 0 rfl) ?_
  obtain ⟨hg1, hf⟩ := z_g hf
  refine z_getI B hW (Or.inl zf_X3_20) rfl hg1 dX3_number_1 ?_
  obtain rfl := z_e1 hf
  exact z_ri B hW dX3_number_4 (Nat.le_of_ble_eq_true rfl) (Nat.le_of_ble_eq_true rfl)
end GEN
