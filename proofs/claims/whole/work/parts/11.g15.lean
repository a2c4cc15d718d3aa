section GEN
variable {p : Program} {l : Launch} {e : Env} {s : State} {m : MethodId} {args : Array Value} {below : List Frame} {meth : Method} {c : Code} {D : va_G} {cA : Nat → ClassId} {bs : Nat}
set_option maxRecDepth 100000 in
def f_X10_nextOf_132 (σ : zSt) (l0 : Nat) (l1 : Int32) (l2 : Int32) (l4 : Int32) (s0 : Int32) : Option ((Int32 × Int32) ⊕ (Int32)) :=
(some (.inl (s0, (l4 + (1 : Int32)))))
set_option maxRecDepth 20000 in
set_option maxHeartbeats 4000000 in
theorem t_X10_nextOf_132 (B : z_B p s m args meth c D cA bs RX10 cX10_nextOf 7 (some .int)) {r : Int32} {o1 : (Int32 × Int32) ⊕ (Int32)} {σ : zSt} {l0 : Nat} {l1 : Int32} {l2 : Int32} {l4 : Int32} {s0 : Int32} (hf : f_X10_nextOf_132 σ l0 l1 l2 l4 s0 = some o1) {H : Heap} {locs : List Loc} {ls : Array Slot} (hW : z_Ok D cA bs s σ H locs) (hl : lv_has ls 7 [(0, .ref l0), (1, .int l1), (2, .int l2), (4, .int l4)]) (hk1 : ∀ (l3 : Int32) (l4 : Int32), o1 = .inl (l3, l4) → ∀ {H : Heap} {locs : List Loc} {ls : Array Slot}, z_Ok D cA bs s σ H locs → lv_has ls 7 [(0, .ref l0), (1, .int l1), (2, .int l2), (3, .int l3), (4, .int l4)] → W p l e (zrm 2 0 0 43) s m args below meth c H locs 0 0 (MQ below (z_Qi D cA bs r σ) args s 0 0 (fun q => bs ≤ q)) (F0 m 5 ls [])) (hr1 : ∀ x, o1 = .inr x → x = r) : W p l e (zrm 2 0 0 43) s m args below meth c H locs 0 0 (MQ below (z_Qi D cA bs r σ) args s 0 0 (fun q => bs ≤ q)) (F0 m 132 ls [.int s0]) := by
  have hx := B.1
  have hb := B.2.1
  have hown := B.2.2.2.1
  have hts := B.2.2.2.2.1
  unfold f_X10_nextOf_132 at hf
  refine lv_istore_n (lv' := [(3, .int s0), (0, .ref l0), (1, .int l1), (2, .int l2), (4, .int l4)]) hx hb dX10_nextOf_132 rfl hl (by decide) rfl (fun ls hl => ?_)
  refine lv_iinc (v := (l4 + (1 : Int32))) (lv' := [(4, .int (l4 + (1 : Int32))), (3, .int s0), (0, .ref l0), (1, .int l1), (2, .int l2)]) hx hb dX10_nextOf_133 hl (k := 4) rfl rfl (by decide) rfl (fun ls hl => ?_)
  refine lv_goto (tgt := 5) hx hb dX10_nextOf_136 (by decide) ?_
  exact hk1 _ _ (Option.some.inj hf).symm hW (lv_sub hl [2, 3, 4, 1, 0] rfl)
set_option maxRecDepth 100000 in
def f_X10_nextOf_131 (σ : zSt) (l0 : Nat) (l1 : Int32) (l2 : Int32) (l3 : Int32) (l4 : Int32) : Option ((Int32 × Int32) ⊕ (Int32)) :=
(f_X10_nextOf_132 σ l0 l1 l2 l4 l3)
set_option maxRecDepth 20000 in
set_option maxHeartbeats 4000000 in
theorem t_X10_nextOf_131 (B : z_B p s m args meth c D cA bs RX10 cX10_nextOf 7 (some .int)) {r : Int32} {o1 : (Int32 × Int32) ⊕ (Int32)} {σ : zSt} {l0 : Nat} {l1 : Int32} {l2 : Int32} {l3 : Int32} {l4 : Int32} (hf : f_X10_nextOf_131 σ l0 l1 l2 l3 l4 = some o1) {H : Heap} {locs : List Loc} {ls : Array Slot} (hW : z_Ok D cA bs s σ H locs) (hl : lv_has ls 7 [(0, .ref l0), (1, .int l1), (2, .int l2), (3, .int l3), (4, .int l4)]) (hk1 : ∀ (l3 : Int32) (l4 : Int32), o1 = .inl (l3, l4) → ∀ {H : Heap} {locs : List Loc} {ls : Array Slot}, z_Ok D cA bs s σ H locs → lv_has ls 7 [(0, .ref l0), (1, .int l1), (2, .int l2), (3, .int l3), (4, .int l4)] → W p l e (zrm 2 0 0 43) s m args below meth c H locs 0 0 (MQ below (z_Qi D cA bs r σ) args s 0 0 (fun q => bs ≤ q)) (F0 m 5 ls [])) (hr1 : ∀ x, o1 = .inr x → x = r) : W p l e (zrm 2 0 0 43) s m args below meth c H locs 0 0 (MQ below (z_Qi D cA bs r σ) args s 0 0 (fun q => bs ≤ q)) (F0 m 131 ls []) := by
  have hx := B.1
  have hb := B.2.1
  have hown := B.2.2.2.1
  have hts := B.2.2.2.2.1
  unfold f_X10_nextOf_131 at hf
  refine lv_iload_n hx hb dX10_nextOf_131 rfl (lv_at hl 3 rfl) ?_
  exact t_X10_nextOf_132 B hf hW (lv_sub hl [0, 1, 2, 4] rfl) hk1 hr1
set_option maxRecDepth 100000 in
def f_X10_nextOf_126 (σ : zSt) (l0 : Nat) (l1 : Int32) (l2 : Int32) (l4 : Int32) : Option ((Int32 × Int32) ⊕ (Int32)) :=
(f_X10_nextOf_132 σ l0 l1 l2 l4 l4)
set_option maxRecDepth 20000 in
set_option maxHeartbeats 4000000 in
theorem t_X10_nextOf_126 (B : z_B p s m args meth c D cA bs RX10 cX10_nextOf 7 (some .int)) {r : Int32} {o1 : (Int32 × Int32) ⊕ (Int32)} {σ : zSt} {l0 : Nat} {l1 : Int32} {l2 : Int32} {l4 : Int32} (hf : f_X10_nextOf_126 σ l0 l1 l2 l4 = some o1) {H : Heap} {locs : List Loc} {ls : Array Slot} (hW : z_Ok D cA bs s σ H locs) (hl : lv_has ls 7 [(0, .ref l0), (1, .int l1), (2, .int l2), (4, .int l4)]) (hk1 : ∀ (l3 : Int32) (l4 : Int32), o1 = .inl (l3, l4) → ∀ {H : Heap} {locs : List Loc} {ls : Array Slot}, z_Ok D cA bs s σ H locs → lv_has ls 7 [(0, .ref l0), (1, .int l1), (2, .int l2), (3, .int l3), (4, .int l4)] → W p l e (zrm 2 0 0 43) s m args below meth c H locs 0 0 (MQ below (z_Qi D cA bs r σ) args s 0 0 (fun q => bs ≤ q)) (F0 m 5 ls [])) (hr1 : ∀ x, o1 = .inr x → x = r) : W p l e (zrm 2 0 0 43) s m args below meth c H locs 0 0 (MQ below (z_Qi D cA bs r σ) args s 0 0 (fun q => bs ≤ q)) (F0 m 126 ls []) := by
  have hx := B.1
  have hb := B.2.1
  have hown := B.2.2.2.1
  have hts := B.2.2.2.2.1
  unfold f_X10_nextOf_126 at hf
  refine lv_iload hx hb dX10_nextOf_126 (lv_at hl 3 rfl) ?_
  refine lv_goto (tgt := 132) hx hb dX10_nextOf_128 (by decide) ?_
  exact t_X10_nextOf_132 B hf hW hl hk1 hr1
set_option maxRecDepth 100000 in
def f_X10_nextOf_93 (σ : zSt) (l0 : Nat) (l1 : Int32) (l2 : Int32) (l3 : Int32) (l4 : Int32) (l5 : Int32) (s0 : Int32) : Option ((Int32 × Int32) ⊕ (Int32)) :=
(if l5 = 0 then
(f_X10_nextOf_131 σ l0 l1 l2 l3 l4)
else
(if s0 = 0 then
(f_X10_nextOf_131 σ l0 l1 l2 l3 l4)
else
(if l3 = (-1 : Int32) then
(f_X10_nextOf_126 σ l0 l1 l2 l4)
else
(if z_ob σ l0 9 then (zb (f_X10_ofMessage σ l0 l4 (1 : Int32)) (fun r3 => (zb (f_X10_ofMessage σ l0 l3 (1 : Int32)) (fun r5 => (if r3 ≤ r5 then
(f_X10_nextOf_131 σ l0 l1 l2 l3 l4)
else
(f_X10_nextOf_126 σ l0 l1 l2 l4)))))) else none))))
set_option maxRecDepth 20000 in
set_option maxHeartbeats 4000000 in
theorem t_X10_nextOf_93 (B : z_B p s m args meth c D cA bs RX10 cX10_nextOf 7 (some .int)) {r : Int32} {o1 : (Int32 × Int32) ⊕ (Int32)} {σ : zSt} {l0 : Nat} {l1 : Int32} {l2 : Int32} {l3 : Int32} {l4 : Int32} {l5 : Int32} {s0 : Int32} (hf : f_X10_nextOf_93 σ l0 l1 l2 l3 l4 l5 s0 = some o1) {H : Heap} {locs : List Loc} {ls : Array Slot} (hW : z_Ok D cA bs s σ H locs) (hl : lv_has ls 7 [(0, .ref l0), (1, .int l1), (2, .int l2), (3, .int l3), (4, .int l4), (5, .int l5)]) (hk1 : ∀ (l3 : Int32) (l4 : Int32), o1 = .inl (l3, l4) → ∀ {H : Heap} {locs : List Loc} {ls : Array Slot}, z_Ok D cA bs s σ H locs → lv_has ls 7 [(0, .ref l0), (1, .int l1), (2, .int l2), (3, .int l3), (4, .int l4)] → W p l e (zrm 2 0 0 43) s m args below meth c H locs 0 0 (MQ below (z_Qi D cA bs r σ) args s 0 0 (fun q => bs ≤ q)) (F0 m 5 ls [])) (hr1 : ∀ x, o1 = .inr x → x = r) : W p l e (zrm 2 0 0 43) s m args below meth c H locs 0 0 (MQ below (z_Qi D cA bs r σ) args s 0 0 (fun q => bs ≤ q)) (F0 m 93 ls [.int s0]) := by
  have hx := B.1
  have hb := B.2.1
  have hown := B.2.2.2.1
  have hts := B.2.2.2.2.1
  unfold f_X10_nextOf_93 at hf
  refine lv_istore (lv' := [(6, .int s0), (0, .ref l0), (1, .int l1), (2, .int l2), (3, .int l3), (4, .int l4), (5, .int l5)]) hx hb dX10_nextOf_93 hl (by decide) rfl (fun ls hl => ?_)
  refine lv_iload hx hb dX10_nextOf_95 (lv_at hl 6 rfl) ?_
  refine lv_if_eq (tgt := 131) hx hb dX10_nextOf_97 (by decide) (fun hc97 => ?_) (fun hc97 => ?_)
  · replace hf := z_ip hc97 hf
    exact t_X10_nextOf_131 B hf hW (lv_sub hl [1, 2, 3, 4, 5] rfl) hk1 hr1
  · replace hf := z_in hc97 hf
    refine lv_iload hx hb dX10_nextOf_100 (lv_at hl 0 rfl) ?_
    refine lv_if_eq (tgt := 131) hx hb dX10_nextOf_102 (by decide) (fun hc102 => ?_) (fun hc102 => ?_)
    · replace hf := z_ip hc102 hf
      exact t_X10_nextOf_131 B hf hW (lv_sub hl [1, 2, 3, 4, 5] rfl) hk1 hr1
    · replace hf := z_in hc102 hf
      refine lv_iload_n hx hb dX10_nextOf_105 rfl (lv_at hl 4 rfl) ?_
      refine lv_iconst (v := (-1 : Int32)) hx hb dX10_nextOf_106 (by decide) ?_
      refine lv_icmp_eq (tgt := 126) hx hb dX10_nextOf_107 (by decide) (fun hc107 => ?_) (fun hc107 => ?_)
      · replace hf := z_ip hc107 hf
        exact t_X10_nextOf_126 B hf hW (lv_sub hl [1, 2, 3, 5] rfl) hk1 hr1
      · replace hf := z_in hc107 hf
        refine lv_aload_n hx hb dX10_nextOf_110 rfl (lv_at hl 1 rfl) ?_
        refine lv_iload hx hb dX10_nextOf_111 (lv_at hl 5 rfl) ?_
        refine lv_iconst (v := (1 : Int32)) hx hb dX10_nextOf_113 (by decide) ?_
        obtain ⟨hg1, hf⟩ := z_g hf
        obtain ⟨r3, hq2, hf⟩ := z_b hf
        refine z_ci hW (z_runV (As := [.int l4, .int (1 : Int32)]) (rest := []) B hW zv_X10_80 (K_X10_ofMessage hq2) hg1 rfl rfl rfl (Nat.le_of_ble_eq_true rfl) hl.1 ⟨Nat.le_of_ble_eq_true rfl, Nat.le_of_ble_eq_true rfl⟩ dX10_nextOf_114 ⟨Nat.le_of_ble_eq_true rfl, Nat.le_of_ble_eq_true rfl⟩) (fun H locs hW => ?_)
        refine lv_aload_n hx hb dX10_nextOf_117 rfl (lv_at hl 1 rfl) ?_
        refine lv_iload_n hx hb dX10_nextOf_118 rfl (lv_at hl 4 rfl) ?_
        refine lv_iconst (v := (1 : Int32)) hx hb dX10_nextOf_119 (by decide) ?_
        obtain ⟨r5, hq4, hf⟩ := z_b hf
        refine z_ci hW (z_runV (As := [.int l3, .int (1 : Int32)]) (rest := [.int r3]) B hW zv_X10_80 (K_X10_ofMessage hq4) hg1 rfl rfl rfl (Nat.le_of_ble_eq_true rfl) hl.1 ⟨Nat.le_of_ble_eq_true rfl, Nat.le_of_ble_eq_true rfl⟩ dX10_nextOf_120 ⟨Nat.le_of_ble_eq_true rfl, Nat.le_of_ble_eq_true rfl⟩) (fun H locs hW => ?_)
        refine lv_icmp_le (tgt := 131) hx hb dX10_nextOf_123 (by decide) (fun hc123 => ?_) (fun hc123 => ?_)
        · replace hf := z_ip hc123 hf
          exact t_X10_nextOf_131 B hf hW (lv_sub hl [1, 2, 3, 4, 5] rfl) hk1 hr1
        · replace hf := z_in hc123 hf
          exact t_X10_nextOf_126 B hf hW (lv_sub hl [1, 2, 3, 5] rfl) hk1 hr1
set_option maxRecDepth 100000 in
def f_X10_nextOf_88 (σ : zSt) (l0 : Nat) (l1 : Int32) (l2 : Int32) (l3 : Int32) (l4 : Int32) (l5 : Int32) : Option ((Int32 × Int32) ⊕ (Int32)) :=
(f_X10_nextOf_93 σ l0 l1 l2 l3 l4 l5 (1 : Int32))
set_option maxRecDepth 20000 in
set_option maxHeartbeats 4000000 in
theorem t_X10_nextOf_88 (B : z_B p s m args meth c D cA bs RX10 cX10_nextOf 7 (some .int)) {r : Int32} {o1 : (Int32 × Int32) ⊕ (Int32)} {σ : zSt} {l0 : Nat} {l1 : Int32} {l2 : Int32} {l3 : Int32} {l4 : Int32} {l5 : Int32} (hf : f_X10_nextOf_88 σ l0 l1 l2 l3 l4 l5 = some o1) {H : Heap} {locs : List Loc} {ls : Array Slot} (hW : z_Ok D cA bs s σ H locs) (hl : lv_has ls 7 [(0, .ref l0), (1, .int l1), (2, .int l2), (3, .int l3), (4, .int l4), (5, .int l5)]) (hk1 : ∀ (l3 : Int32) (l4 : Int32), o1 = .inl (l3, l4) → ∀ {H : Heap} {locs : List Loc} {ls : Array Slot}, z_Ok D cA bs s σ H locs → lv_has ls 7 [(0, .ref l0), (1, .int l1), (2, .int l2), (3, .int l3), (4, .int l4)] → W p l e (zrm 2 0 0 43) s m args below meth c H locs 0 0 (MQ below (z_Qi D cA bs r σ) args s 0 0 (fun q => bs ≤ q)) (F0 m 5 ls [])) (hr1 : ∀ x, o1 = .inr x → x = r) : W p l e (zrm 2 0 0 43) s m args below meth c H locs 0 0 (MQ below (z_Qi D cA bs r σ) args s 0 0 (fun q => bs ≤ q)) (F0 m 88 ls []) := by
  have hx := B.1
  have hb := B.2.1
  have hown := B.2.2.2.1
  have hts := B.2.2.2.2.1
  unfold f_X10_nextOf_88 at hf
  refine lv_iconst (v := (1 : Int32)) hx hb dX10_nextOf_88 (by decide) ?_
  refine lv_goto (tgt := 93) hx hb dX10_nextOf_89 (by decide) ?_
  exact t_X10_nextOf_93 B hf hW hl hk1 hr1
set_option maxRecDepth 100000 in
def f_X10_nextOf_92 (σ : zSt) (l0 : Nat) (l1 : Int32) (l2 : Int32) (l3 : Int32) (l4 : Int32) (l5 : Int32) : Option ((Int32 × Int32) ⊕ (Int32)) :=
(f_X10_nextOf_93 σ l0 l1 l2 l3 l4 l5 (0 : Int32))
set_option maxRecDepth 20000 in
set_option maxHeartbeats 4000000 in
theorem t_X10_nextOf_92 (B : z_B p s m args meth c D cA bs RX10 cX10_nextOf 7 (some .int)) {r : Int32} {o1 : (Int32 × Int32) ⊕ (Int32)} {σ : zSt} {l0 : Nat} {l1 : Int32} {l2 : Int32} {l3 : Int32} {l4 : Int32} {l5 : Int32} (hf : f_X10_nextOf_92 σ l0 l1 l2 l3 l4 l5 = some o1) {H : Heap} {locs : List Loc} {ls : Array Slot} (hW : z_Ok D cA bs s σ H locs) (hl : lv_has ls 7 [(0, .ref l0), (1, .int l1), (2, .int l2), (3, .int l3), (4, .int l4), (5, .int l5)]) (hk1 : ∀ (l3 : Int32) (l4 : Int32), o1 = .inl (l3, l4) → ∀ {H : Heap} {locs : List Loc} {ls : Array Slot}, z_Ok D cA bs s σ H locs → lv_has ls 7 [(0, .ref l0), (1, .int l1), (2, .int l2), (3, .int l3), (4, .int l4)] → W p l e (zrm 2 0 0 43) s m args below meth c H locs 0 0 (MQ below (z_Qi D cA bs r σ) args s 0 0 (fun q => bs ≤ q)) (F0 m 5 ls [])) (hr1 : ∀ x, o1 = .inr x → x = r) : W p l e (zrm 2 0 0 43) s m args below meth c H locs 0 0 (MQ below (z_Qi D cA bs r σ) args s 0 0 (fun q => bs ≤ q)) (F0 m 92 ls []) := by
  have hx := B.1
  have hb := B.2.1
  have hown := B.2.2.2.1
  have hts := B.2.2.2.2.1
  unfold f_X10_nextOf_92 at hf
  refine lv_iconst (v := (0 : Int32)) hx hb dX10_nextOf_92 (by decide) ?_
  exact t_X10_nextOf_93 B hf hW hl hk1 hr1
set_option maxRecDepth 100000 in
def f_X10_nextOf_43 (σ : zSt) (l0 : Nat) (l1 : Int32) (l2 : Int32) (l3 : Int32) (l4 : Int32) (s0 : Int32) : Option ((Int32 × Int32) ⊕ (Int32)) :=
(if l2 = (-1 : Int32) then
(f_X10_nextOf_88 σ l0 l1 l2 l3 l4 s0)
else
(if z_ob σ l0 9 then (zb (f_X10_ofMessage σ l0 l4 (1 : Int32)) (fun r3 => (zb (f_X10_ofMessage σ l0 l2 (1 : Int32)) (fun r5 => (if r3 < r5 then
(f_X10_nextOf_88 σ l0 l1 l2 l3 l4 s0)
else
(zb (f_X10_ofMessage σ l0 l4 (1 : Int32)) (fun r7 => (zb (f_X10_ofMessage σ l0 l2 (1 : Int32)) (fun r9 => (if r7 = r9 then
(if l4 ≤ l2 then
(f_X10_nextOf_92 σ l0 l1 l2 l3 l4 s0)
else
(f_X10_nextOf_88 σ l0 l1 l2 l3 l4 s0))
else
(f_X10_nextOf_92 σ l0 l1 l2 l3 l4 s0))))))))))) else none))
set_option maxRecDepth 20000 in
set_option maxHeartbeats 4000000 in
theorem t_X10_nextOf_43 (B : z_B p s m args meth c D cA bs RX10 cX10_nextOf 7 (some .int)) {r : Int32} {o1 : (Int32 × Int32) ⊕ (Int32)} {σ : zSt} {l0 : Nat} {l1 : Int32} {l2 : Int32} {l3 : Int32} {l4 : Int32} {s0 : Int32} (hf : f_X10_nextOf_43 σ l0 l1 l2 l3 l4 s0 = some o1) {H : Heap} {locs : List Loc} {ls : Array Slot} (hW : z_Ok D cA bs s σ H locs) (hl : lv_has ls 7 [(0, .ref l0), (1, .int l1), (2, .int l2), (3, .int l3), (4, .int l4)]) (hk1 : ∀ (l3 : Int32) (l4 : Int32), o1 = .inl (l3, l4) → ∀ {H : Heap} {locs : List Loc} {ls : Array Slot}, z_Ok D cA bs s σ H locs → lv_has ls 7 [(0, .ref l0), (1, .int l1), (2, .int l2), (3, .int l3), (4, .int l4)] → W p l e (zrm 2 0 0 43) s m args below meth c H locs 0 0 (MQ below (z_Qi D cA bs r σ) args s 0 0 (fun q => bs ≤ q)) (F0 m 5 ls [])) (hr1 : ∀ x, o1 = .inr x → x = r) : W p l e (zrm 2 0 0 43) s m args below meth c H locs 0 0 (MQ below (z_Qi D cA bs r σ) args s 0 0 (fun q => bs ≤ q)) (F0 m 43 ls [.int s0]) := by
  have hx := B.1
  have hb := B.2.1
  have hown := B.2.2.2.1
  have hts := B.2.2.2.2.1
  unfold f_X10_nextOf_43 at hf
  refine lv_istore (lv' := [(5, .int s0), (0, .ref l0), (1, .int l1), (2, .int l2), (3, .int l3), (4, .int l4)]) hx hb dX10_nextOf_43 hl (by decide) rfl (fun ls hl => ?_)
  refine lv_iload_n hx hb dX10_nextOf_45 rfl (lv_at hl 3 rfl) ?_
  refine lv_iconst (v := (-1 : Int32)) hx hb dX10_nextOf_46 (by decide) ?_
  refine lv_icmp_eq (tgt := 88) hx hb dX10_nextOf_47 (by decide) (fun hc47 => ?_) (fun hc47 => ?_)
  · replace hf := z_ip hc47 hf
    exact t_X10_nextOf_88 B hf hW (lv_sub hl [1, 2, 3, 4, 5, 0] rfl) hk1 hr1
  · replace hf := z_in hc47 hf
    refine lv_aload_n hx hb dX10_nextOf_50 rfl (lv_at hl 1 rfl) ?_
    refine lv_iload hx hb dX10_nextOf_51 (lv_at hl 5 rfl) ?_
    refine lv_iconst (v := (1 : Int32)) hx hb dX10_nextOf_53 (by decide) ?_
    obtain ⟨hg1, hf⟩ := z_g hf
    obtain ⟨r3, hq2, hf⟩ := z_b hf
    refine z_ci hW (z_runV (As := [.int l4, .int (1 : Int32)]) (rest := []) B hW zv_X10_80 (K_X10_ofMessage hq2) hg1 rfl rfl rfl (Nat.le_of_ble_eq_true rfl) hl.1 ⟨Nat.le_of_ble_eq_true rfl, Nat.le_of_ble_eq_true rfl⟩ dX10_nextOf_54 ⟨Nat.le_of_ble_eq_true rfl, Nat.le_of_ble_eq_true rfl⟩) (fun H locs hW => ?_)
    refine lv_aload_n hx hb dX10_nextOf_57 rfl (lv_at hl 1 rfl) ?_
    refine lv_iload_n hx hb dX10_nextOf_58 rfl (lv_at hl 3 rfl) ?_
    refine lv_iconst (v := (1 : Int32)) hx hb dX10_nextOf_59 (by decide) ?_
    obtain ⟨r5, hq4, hf⟩ := z_b hf
    refine z_ci hW (z_runV (As := [.int l2, .int (1 : Int32)]) (rest := [.int r3]) B hW zv_X10_80 (K_X10_ofMessage hq4) hg1 rfl rfl rfl (Nat.le_of_ble_eq_true rfl) hl.1 ⟨Nat.le_of_ble_eq_true rfl, Nat.le_of_ble_eq_true rfl⟩ dX10_nextOf_60 ⟨Nat.le_of_ble_eq_true rfl, Nat.le_of_ble_eq_true rfl⟩) (fun H locs hW => ?_)
    refine lv_icmp_lt (tgt := 88) hx hb dX10_nextOf_63 (by decide) (fun hc63 => ?_) (fun hc63 => ?_)
    · replace hf := z_ip hc63 hf
      exact t_X10_nextOf_88 B hf hW (lv_sub hl [1, 2, 3, 4, 5, 0] rfl) hk1 hr1
    · replace hf := z_in hc63 hf
      refine lv_aload_n hx hb dX10_nextOf_66 rfl (lv_at hl 1 rfl) ?_
      refine lv_iload hx hb dX10_nextOf_67 (lv_at hl 5 rfl) ?_
      refine lv_iconst (v := (1 : Int32)) hx hb dX10_nextOf_69 (by decide) ?_
      obtain ⟨r7, hq6, hf⟩ := z_b hf
      refine z_ci hW (z_runV (As := [.int l4, .int (1 : Int32)]) (rest := []) B hW zv_X10_80 (K_X10_ofMessage hq6) hg1 rfl rfl rfl (Nat.le_of_ble_eq_true rfl) hl.1 ⟨Nat.le_of_ble_eq_true rfl, Nat.le_of_ble_eq_true rfl⟩ dX10_nextOf_70 ⟨Nat.le_of_ble_eq_true rfl, Nat.le_of_ble_eq_true rfl⟩) (fun H locs hW => ?_)
      refine lv_aload_n hx hb dX10_nextOf_73 rfl (lv_at hl 1 rfl) ?_
      refine lv_iload_n hx hb dX10_nextOf_74 rfl (lv_at hl 3 rfl) ?_
      refine lv_iconst (v := (1 : Int32)) hx hb dX10_nextOf_75 (by decide) ?_
      obtain ⟨r9, hq8, hf⟩ := z_b hf
      refine z_ci hW (z_runV (As := [.int l2, .int (1 : Int32)]) (rest := [.int r7]) B hW zv_X10_80 (K_X10_ofMessage hq8) hg1 rfl rfl rfl (Nat.le_of_ble_eq_true rfl) hl.1 ⟨Nat.le_of_ble_eq_true rfl, Nat.le_of_ble_eq_true rfl⟩ dX10_nextOf_76 ⟨Nat.le_of_ble_eq_true rfl, Nat.le_of_ble_eq_true rfl⟩) (fun H locs hW => ?_)
      refine lv_icmp_ne (tgt := 92) hx hb dX10_nextOf_79 (by decide) (fun hc79 => ?_) (fun hc79 => ?_)
      · replace hf := z_in hc79 hf
        exact t_X10_nextOf_92 B hf hW (lv_sub hl [1, 2, 3, 4, 5, 0] rfl) hk1 hr1
      · replace hf := z_ip hc79 hf
        refine lv_iload hx hb dX10_nextOf_82 (lv_at hl 5 rfl) ?_
        refine lv_iload_n hx hb dX10_nextOf_84 rfl (lv_at hl 3 rfl) ?_
        refine lv_icmp_le (tgt := 92) hx hb dX10_nextOf_85 (by decide) (fun hc85 => ?_) (fun hc85 => ?_)
        · replace hf := z_ip hc85 hf
          exact t_X10_nextOf_92 B hf hW (lv_sub hl [1, 2, 3, 4, 5, 0] rfl) hk1 hr1
        · replace hf := z_in hc85 hf
          exact t_X10_nextOf_88 B hf hW (lv_sub hl [1, 2, 3, 4, 5, 0] rfl) hk1 hr1
set_option maxRecDepth 100000 in
def f_X10_nextOf_42 (σ : zSt) (l0 : Nat) (l1 : Int32) (l2 : Int32) (l3 : Int32) (l4 : Int32) : Option ((Int32 × Int32) ⊕ (Int32)) :=
(f_X10_nextOf_43 σ l0 l1 l2 l3 l4 (0 : Int32))
set_option maxRecDepth 20000 in
set_option maxHeartbeats 4000000 in
theorem t_X10_nextOf_42 (B : z_B p s m args meth c D cA bs RX10 cX10_nextOf 7 (some .int)) {r : Int32} {o1 : (Int32 × Int32) ⊕ (Int32)} {σ : zSt} {l0 : Nat} {l1 : Int32} {l2 : Int32} {l3 : Int32} {l4 : Int32} (hf : f_X10_nextOf_42 σ l0 l1 l2 l3 l4 = some o1) {H : Heap} {locs : List Loc} {ls : Array Slot} (hW : z_Ok D cA bs s σ H locs) (hl : lv_has ls 7 [(0, .ref l0), (1, .int l1), (2, .int l2), (3, .int l3), (4, .int l4)]) (hk1 : ∀ (l3 : Int32) (l4 : Int32), o1 = .inl (l3, l4) → ∀ {H : Heap} {locs : List Loc} {ls : Array Slot}, z_Ok D cA bs s σ H locs → lv_has ls 7 [(0, .ref l0), (1, .int l1), (2, .int l2), (3, .int l3), (4, .int l4)] → W p l e (zrm 2 0 0 43) s m args below meth c H locs 0 0 (MQ below (z_Qi D cA bs r σ) args s 0 0 (fun q => bs ≤ q)) (F0 m 5 ls [])) (hr1 : ∀ x, o1 = .inr x → x = r) : W p l e (zrm 2 0 0 43) s m args below meth c H locs 0 0 (MQ below (z_Qi D cA bs r σ) args s 0 0 (fun q => bs ≤ q)) (F0 m 42 ls []) := by
  have hx := B.1
  have hb := B.2.1
  have hown := B.2.2.2.1
  have hts := B.2.2.2.2.1
  unfold f_X10_nextOf_42 at hf
  refine lv_iconst (v := (0 : Int32)) hx hb dX10_nextOf_42 (by decide) ?_
  exact t_X10_nextOf_43 B hf hW hl hk1 hr1
set_option maxRecDepth 100000 in
def b_X10_nextOf_5 (σ : zSt) (l0 : Nat) (l1 : Int32) (l2 : Int32) (l3 : Int32) (l4 : Int32) : Option ((Int32 × Int32) ⊕ (Int32)) :=
(if z_ob σ l0 9 then (zc (z_R σ l0 0) none (fun q2 => (if z_ar σ q2 0 then (if z_ix (5 : Int32) (z_ln σ q2) then (if (z_I σ q2 (5 : Int32).toNatClampNeg) ≤ l4 then
(zex (some l3))
else
(zb (f_X10_ofMessage σ l0 l4 (2 : Int32)) (fun r8 => (if r8 = l1 then
(zb (f_X10_ofMessage σ l0 l4 (4 : Int32)) (fun r10 => (if r10 = (-1 : Int32) then
(f_X10_nextOf_43 σ l0 l1 l2 l3 l4 (1 : Int32))
else
(f_X10_nextOf_42 σ l0 l1 l2 l3 l4))))
else
(f_X10_nextOf_42 σ l0 l1 l2 l3 l4))))) else none) else none))) else none)
set_option maxRecDepth 100000 in
def f_X10_nextOf_5 (σ : zSt) (l0 : Nat) (l1 : Int32) (l2 : Int32) (l3 : Int32) (l4 : Int32) : Option (Int32) := zloop (fun (t : Int32 × Int32) => b_X10_nextOf_5 σ l0 l1 l2 t.1 t.2) zN (l3, l4)
set_option maxRecDepth 20000 in
set_option maxHeartbeats 4000000 in
theorem tb_X10_nextOf_5 (B : z_B p s m args meth c D cA bs RX10 cX10_nextOf 7 (some .int)) {r : Int32} {o1 : (Int32 × Int32) ⊕ (Int32)} {σ : zSt} {l0 : Nat} {l1 : Int32} {l2 : Int32} {l3 : Int32} {l4 : Int32} (hf : b_X10_nextOf_5 σ l0 l1 l2 l3 l4 = some o1) {H : Heap} {locs : List Loc} {ls : Array Slot} (hW : z_Ok D cA bs s σ H locs) (hl : lv_has ls 7 [(0, .ref l0), (1, .int l1), (2, .int l2), (3, .int l3), (4, .int l4)]) (hk1 : ∀ (l3 : Int32) (l4 : Int32), o1 = .inl (l3, l4) → ∀ {H : Heap} {locs : List Loc} {ls : Array Slot}, z_Ok D cA bs s σ H locs → lv_has ls 7 [(0, .ref l0), (1, .int l1), (2, .int l2), (3, .int l3), (4, .int l4)] → W p l e (zrm 2 0 0 43) s m args below meth c H locs 0 0 (MQ below (z_Qi D cA bs r σ) args s 0 0 (fun q => bs ≤ q)) (F0 m 5 ls [])) (hr1 : ∀ x, o1 = .inr x → x = r) : W p l e (zrm 2 0 0 43) s m args below meth c H locs 0 0 (MQ below (z_Qi D cA bs r σ) args s 0 0 (fun q => bs ≤ q)) (F0 m 5 ls []) := by
  have hx := B.1
  have hb := B.2.1
  have hown := B.2.2.2.1
  have hts := B.2.2.2.2.1
  unfold b_X10_nextOf_5 at hf
  refine lv_iload hx hb dX10_nextOf_5 (lv_at hl 4 rfl) ?_
  refine lv_aload_n hx hb dX10_nextOf_7 rfl (lv_at hl 0 rfl) ?_
  obtain ⟨hg1, hf⟩ := z_g hf
  obtain ⟨q2, hv3, hf⟩ := z_nn hf
  refine z_getN B hW (Or.inr zf_X10_7) rfl hg1 hv3 dX10_nextOf_8 ?_
  refine lv_iconst (v := (5 : Int32)) hx hb dX10_nextOf_11 (by decide) ?_
  obtain ⟨hg4, hf⟩ := z_g hf
  obtain ⟨hg5, hf⟩ := z_g hf
  refine z_ald B hW hg4 hg5 dX10_nextOf_12 ?_
  refine lv_icmp_ge (tgt := 139) hx hb dX10_nextOf_13 (by decide) (fun hc13 => ?_) (fun hc13 => ?_)
  · replace hf := z_ip hc13 hf
    obtain ⟨w1, hf, ho6⟩ := z_x hf
    obtain rfl := hr1 _ ho6
    refine lv_iload_n hx hb dX10_nextOf_139 rfl (lv_at hl 3 rfl) ?_
    obtain rfl := z_e1 hf
    exact z_ri B hW dX10_nextOf_140 (Nat.le_of_ble_eq_true rfl) (Nat.le_of_ble_eq_true rfl)
  · replace hf := z_in hc13 hf
    refine lv_aload_n hx hb dX10_nextOf_16 rfl (lv_at hl 0 rfl) ?_
    refine lv_iload hx hb dX10_nextOf_17 (lv_at hl 4 rfl) ?_
    refine lv_iconst (v := (2 : Int32)) hx hb dX10_nextOf_19 (by decide) ?_
    obtain ⟨r8, hq7, hf⟩ := z_b hf
    refine z_ci hW (z_runV (As := [.int l4, .int (2 : Int32)]) (rest := []) B hW zv_X10_80 (K_X10_ofMessage hq7) hg1 rfl rfl rfl (Nat.le_of_ble_eq_true rfl) hl.1 ⟨Nat.le_of_ble_eq_true rfl, Nat.le_of_ble_eq_true rfl⟩ dX10_nextOf_20 ⟨Nat.le_of_ble_eq_true rfl, Nat.le_of_ble_eq_true rfl⟩) (fun H locs hW => ?_)
    refine lv_iload_n hx hb dX10_nextOf_23 rfl (lv_at hl 1 rfl) ?_
    refine lv_icmp_ne (tgt := 42) hx hb dX10_nextOf_24 (by decide) (fun hc24 => ?_) (fun hc24 => ?_)
    · replace hf := z_in hc24 hf
      exact t_X10_nextOf_42 B hf hW hl hk1 hr1
    · replace hf := z_ip hc24 hf
      refine lv_aload_n hx hb dX10_nextOf_27 rfl (lv_at hl 0 rfl) ?_
      refine lv_iload hx hb dX10_nextOf_28 (lv_at hl 4 rfl) ?_
      refine lv_iconst (v := (4 : Int32)) hx hb dX10_nextOf_30 (by decide) ?_
      obtain ⟨r10, hq9, hf⟩ := z_b hf
      refine z_ci hW (z_runV (As := [.int l4, .int (4 : Int32)]) (rest := []) B hW zv_X10_80 (K_X10_ofMessage hq9) hg1 rfl rfl rfl (Nat.le_of_ble_eq_true rfl) hl.1 ⟨Nat.le_of_ble_eq_true rfl, Nat.le_of_ble_eq_true rfl⟩ dX10_nextOf_31 ⟨Nat.le_of_ble_eq_true rfl, Nat.le_of_ble_eq_true rfl⟩) (fun H locs hW => ?_)
      refine lv_iconst (v := (-1 : Int32)) hx hb dX10_nextOf_34 (by decide) ?_
      refine lv_icmp_ne (tgt := 42) hx hb dX10_nextOf_35 (by decide) (fun hc35 => ?_) (fun hc35 => ?_)
      · replace hf := z_in hc35 hf
        exact t_X10_nextOf_42 B hf hW hl hk1 hr1
      · replace hf := z_ip hc35 hf
        refine lv_iconst (v := (1 : Int32)) hx hb dX10_nextOf_38 (by decide) ?_
        refine lv_goto (tgt := 43) hx hb dX10_nextOf_39 (by decide) ?_
        exact t_X10_nextOf_43 B hf hW hl hk1 hr1
set_option maxRecDepth 20000 in
set_option maxHeartbeats 4000000 in
theorem t_X10_nextOf_5 (B : z_B p s m args meth c D cA bs RX10 cX10_nextOf 7 (some .int)) {r : Int32} {σ : zSt} {l0 : Nat} {l1 : Int32} {l2 : Int32}  : ∀ (n : Nat) {l3 : Int32} {l4 : Int32}, zloop (fun (t : Int32 × Int32) => b_X10_nextOf_5 σ l0 l1 l2 t.1 t.2) n (l3, l4) = some r → ∀ {H : Heap} {locs : List Loc} {ls : Array Slot}, z_Ok D cA bs s σ H locs → lv_has ls 7 [(0, .ref l0), (1, .int l1), (2, .int l2), (3, .int l3), (4, .int l4)] → W p l e (zrm 2 0 0 43) s m args below meth c H locs 0 0 (MQ below (z_Qi D cA bs r σ) args s 0 0 (fun q => bs ≤ q)) (F0 m 5 ls []) := by
  intro n
  induction n with
  | zero => intro l3 l4 hf; cases hf
  | succ n ih =>
    intro l3 l4 hf H locs ls hW hl
    obtain ⟨o1, hb1, hf⟩ := z_lp hf
    refine tb_X10_nextOf_5 B hb1 hW hl  (fun l3 l4 he H locs ls hW hl => ?_) (fun x he => ?_)
    · rcases hf with ⟨t, ht, hf⟩ | hf
      · rw [he] at ht
        cases ht
        exact ih hf hW hl
      · rw [he] at hf
        cases hf
    · rcases hf with ⟨t, ht, hf⟩ | hf
      · rw [he] at ht
        cases ht
      · rw [he] at hf
        exact Sum.inr.inj hf
set_option maxRecDepth 100000 in
def f_X10_nextOf (σ : zSt) (l0 : Nat) (l1 : Int32) (l2 : Int32) : Option (Int32) :=
(f_X10_nextOf_5 σ l0 l1 l2 (-1 : Int32) (0 : Int32))
set_option maxRecDepth 20000 in
set_option maxHeartbeats 4000000 in
theorem K_X10_nextOf {σ : zSt} {l0 : Nat} {l1 : Int32} {l2 : Int32} {r : Int32} (hf : f_X10_nextOf σ l0 l1 l2 = some r) : z_M l D cA bs yX10_nextOf cX10_nextOf 7 (some .int) 2 43 0 0 [.ref l0, .int l1, .int l2] σ (z_Qi D cA bs r σ) := by
  refine z_met (own := RX10) (lv := [(0, .ref l0), (1, .int l1), (2, .int l2)]) (by decide) rfl (Nat.le_of_ble_eq_true rfl) rfl (fun p e s m below meth c ls B hnm hW hl => ?_)
  have hx := B.1
  have hb := B.2.1
  have hown := B.2.2.2.1
  have hts := B.2.2.2.2.1
  unfold f_X10_nextOf at hf
  refine lv_iconst (v := (-1 : Int32)) hx hb dX10_nextOf_0 (by decide) ?_
  refine lv_istore_n (lv' := [(3, .int (-1 : Int32)), (0, .ref l0), (1, .int l1), (2, .int l2)]) hx hb dX10_nextOf_1 rfl hl (by decide) rfl (fun ls hl => ?_)
  refine lv_iconst (v := (0 : Int32)) hx hb dX10_nextOf_2 (by decide) ?_
  refine lv_istore (lv' := [(4, .int (0 : Int32)), (3, .int (-1 : Int32)), (0, .ref l0), (1, .int l1), (2, .int l2)]) hx hb dX10_nextOf_3 hl (by decide) rfl (fun ls hl => ?_)
  unfold f_X10_nextOf_5 at hf
  exact t_X10_nextOf_5 B  zN hf hW (lv_sub hl [2, 3, 4, 1, 0] rfl)
set_option maxRecDepth 100000 in
def f_X10_makesToken_127 (σ : zSt) (l0 : Nat) (l1 : Int32) : Option (Int32 × zSt) :=
(if z_ob σ l0 9 then (zc (z_R σ l0 0) none (fun q2 => (if z_ar σ q2 0 then (if z_ix (4 : Int32) (z_ln σ q2) then (zl (z_pI σ q2 (4 : Int32).toNatClampNeg l1) (fun σ6 => (if z_ob σ6 l0 9 then (zc (z_R σ6 l0 0) none (fun q9 => (if z_ar σ6 q9 0 then (if z_ix (12 : Int32) (z_ln σ6 q9) then (zl (z_pI σ6 q9 (12 : Int32).toNatClampNeg ((z_I σ6 q9 (12 : Int32).toNatClampNeg) + (1 : Int32))) (fun σ13 => (some ((1 : Int32), σ13)))) else none) else none))) else none))) else none) else none))) else none)
set_option maxRecDepth 20000 in
set_option maxHeartbeats 4000000 in
theorem t_X10_makesToken_127 (B : z_B p s m args meth c D cA bs RX10 cX10_makesToken 3 (some .boolean)) {r : Int32} {σ' : zSt} {σ : zSt} {l0 : Nat} {l1 : Int32} (hf : f_X10_makesToken_127 σ l0 l1 = some (r, σ')) {H : Heap} {locs : List Loc} {ls : Array Slot} (hW : z_Ok D cA bs s σ H locs) (hl : lv_has ls 3 [(0, .ref l0), (1, .int l1)])  : W p l e (zrm 3 0 0 64) s m args below meth c H locs 0 0 (MQ below (z_Qi D cA bs r σ') args s 0 0 (fun q => bs ≤ q)) (F0 m 127 ls []) := by
  have hx := B.1
  have hb := B.2.1
  have hown := B.2.2.2.1
  have hts := B.2.2.2.2.1
  unfold f_X10_makesToken_127 at hf
  refine lv_aload_n hx hb dX10_makesToken_127 rfl (lv_at hl 0 rfl) ?_
  obtain ⟨hg1, hf⟩ := z_g hf
  obtain ⟨q2, hv3, hf⟩ := z_nn hf
  refine z_getN B hW (Or.inr zf_X10_7) rfl hg1 hv3 dX10_makesToken_128 ?_
  refine lv_iconst (v := (4 : Int32)) hx hb dX10_makesToken_131 (by decide) ?_
  refine lv_iload_n hx hb dX10_makesToken_132 rfl (lv_at hl 1 rfl) ?_
  obtain ⟨hg4, hf⟩ := z_g hf
  obtain ⟨hg5, hf⟩ := z_g hf
  obtain ⟨σ6, hs7, hf⟩ := z_l hf
  refine z_ast B hW hg4 hg5 hs7 dX10_makesToken_133 (fun H locs hW => ?_)
  refine lv_aload_n hx hb dX10_makesToken_134 rfl (lv_at hl 0 rfl) ?_
  obtain ⟨hg8, hf⟩ := z_g hf
  obtain ⟨q9, hv10, hf⟩ := z_nn hf
  refine z_getN B hW (Or.inr zf_X10_7) rfl hg8 hv10 dX10_makesToken_135 ?_
  refine lv_bipush (v := (12 : Int32)) hx hb dX10_makesToken_138 (by decide) ?_
  refine lv_dup2_11 hx hb dX10_makesToken_140 rfl rfl ?_
  obtain ⟨hg11, hf⟩ := z_g hf
  obtain ⟨hg12, hf⟩ := z_g hf
  refine z_ald B hW hg11 hg12 dX10_makesToken_141 ?_
  refine lv_iconst (v := (1 : Int32)) hx hb dX10_makesToken_142 (by decide) ?_
  refine lv_iadd hx hb dX10_makesToken_143 ?_
  obtain ⟨σ13, hs14, hf⟩ := z_l hf
  refine z_ast B hW hg11 hg12 hs14 dX10_makesToken_144 (fun H locs hW => ?_)
  refine lv_iconst (v := (1 : Int32)) hx hb dX10_makesToken_145 (by decide) ?_
  obtain ⟨rfl, rfl⟩ := z_e2 hf
  exact z_rz (by decide) B hW dX10_makesToken_146 (Nat.le_of_ble_eq_true rfl) (Nat.le_of_ble_eq_true rfl)
set_option maxRecDepth 100000 in
def f_X10_makesToken_61 (σ : zSt) (l0 : Nat) (l2 : Int32) (s0 : Int32) : Option ((Int32 × Int32) ⊕ (Int32 × zSt)) :=
(some (.inl (s0, (l2 + (-1 : Int32)))))
set_option maxRecDepth 20000 in
set_option maxHeartbeats 4000000 in
theorem t_X10_makesToken_61 (B : z_B p s m args meth c D cA bs RX10 cX10_makesToken 3 (some .boolean)) {r : Int32} {σ' : zSt} {o1 : (Int32 × Int32) ⊕ (Int32 × zSt)} {σ : zSt} {l0 : Nat} {l2 : Int32} {s0 : Int32} (hf : f_X10_makesToken_61 σ l0 l2 s0 = some o1) {H : Heap} {locs : List Loc} {ls : Array Slot} (hW : z_Ok D cA bs s σ H locs) (hl : lv_has ls 3 [(0, .ref l0), (2, .int l2)]) (hk1 : ∀ (l1 : Int32) (l2 : Int32), o1 = .inl (l1, l2) → ∀ {H : Heap} {locs : List Loc} {ls : Array Slot}, z_Ok D cA bs s σ H locs → lv_has ls 3 [(0, .ref l0), (1, .int l1), (2, .int l2)] → W p l e (zrm 3 0 0 64) s m args below meth c H locs 0 0 (MQ below (z_Qi D cA bs r σ') args s 0 0 (fun q => bs ≤ q)) (F0 m 44 ls [])) (hr1 : ∀ x, o1 = .inr x → x = (r, σ')) : W p l e (zrm 3 0 0 64) s m args below meth c H locs 0 0 (MQ below (z_Qi D cA bs r σ') args s 0 0 (fun q => bs ≤ q)) (F0 m 61 ls [.int s0]) := by
  have hx := B.1
  have hb := B.2.1
  have hown := B.2.2.2.1
  have hts := B.2.2.2.2.1
  unfold f_X10_makesToken_61 at hf
  refine lv_istore_n (lv' := [(1, .int s0), (0, .ref l0), (2, .int l2)]) hx hb dX10_makesToken_61 rfl hl (by decide) rfl (fun ls hl => ?_)
  refine lv_iinc (v := (l2 + (-1 : Int32))) (lv' := [(2, .int (l2 + (-1 : Int32))), (1, .int s0), (0, .ref l0)]) hx hb dX10_makesToken_62 hl (k := 2) rfl rfl (by decide) rfl (fun ls hl => ?_)
  refine lv_goto (tgt := 44) hx hb dX10_makesToken_65 (by decide) ?_
  exact hk1 _ _ (Option.some.inj hf).symm hW (lv_sub hl [2, 1, 0] rfl)
set_option maxRecDepth 100000 in
def b_X10_makesToken_44 (σ : zSt) (l0 : Nat) (l1 : Int32) (l2 : Int32) : Option ((Int32 × Int32) ⊕ (Int32 × zSt)) :=
(if l2 < 0 then
(zex (if l1 = (-1 : Int32) then
(some ((0 : Int32), σ))
else
(if z_ob σ l0 9 then (zc (z_R σ l0 0) none (fun q2 => (if z_ar σ q2 0 then (if z_ix (3 : Int32) (z_ln σ q2) then (zc (z_R σ l0 0) none (fun q6 => (if z_ar σ q6 0 then (if z_ix (1 : Int32) (z_ln σ q6) then (zl (z_pI σ q2 (3 : Int32).toNatClampNeg ((z_I σ q2 (3 : Int32).toNatClampNeg) + ((z_I σ q6 (1 : Int32).toNatClampNeg) * ((6 : Int32) + ((2 : Int32) * l1))))) (fun σ10 => (if z_ob σ10 l0 9 then (zb (f_X10_isInRing σ10 l0 l1) (fun r14 => (if r14 = 0 then
(zc (z_R σ10 l0 0) none (fun q15 => (zb (f_X10_at σ10 l1 (2 : Int32)) (fun r18 => (if z_ar σ10 q15 0 then (if z_ix r18 (z_ln σ10 q15) then (zl (z_pI σ10 q15 r18.toNatClampNeg (1 : Int32)) (fun σ21 => (if z_ob σ21 l0 9 then (zc (z_R σ21 l0 0) none (fun q24 => (zb (f_X10_at σ21 l1 (3 : Int32)) (fun r27 => (if z_ar σ21 q24 0 then (if z_ix r27 (z_ln σ21 q24) then (zl (z_pI σ21 q24 r27.toNatClampNeg l1) (fun σ30 => (f_X10_makesToken_127 σ30 l0 l1))) else none) else none))))) else none))) else none) else none)))))
else
(f_X10_makesToken_127 σ10 l0 l1)))) else none))) else none) else none))) else none) else none))) else none)))
else
(if z_ob σ l0 9 then (zb (f_X10_isInRing σ l0 l2) (fun r35 => (if r35 = 0 then
(f_X10_makesToken_61 σ l0 l2 l1)
else
(f_X10_makesToken_61 σ l0 l2 l2)))) else none))
set_option maxRecDepth 100000 in
def f_X10_makesToken_44 (σ : zSt) (l0 : Nat) (l1 : Int32) (l2 : Int32) : Option (Int32 × zSt) := zloop (fun (t : Int32 × Int32) => b_X10_makesToken_44 σ l0 t.1 t.2) zN (l1, l2)
set_option maxRecDepth 20000 in
set_option maxHeartbeats 4000000 in
theorem tb_X10_makesToken_44 (B : z_B p s m args meth c D cA bs RX10 cX10_makesToken 3 (some .boolean)) {r : Int32} {σ' : zSt} {o1 : (Int32 × Int32) ⊕ (Int32 × zSt)} {σ : zSt} {l0 : Nat} {l1 : Int32} {l2 : Int32} (hf : b_X10_makesToken_44 σ l0 l1 l2 = some o1) {H : Heap} {locs : List Loc} {ls : Array Slot} (hW : z_Ok D cA bs s σ H locs) (hl : lv_has ls 3 [(0, .ref l0), (1, .int l1), (2, .int l2)]) (hk1 : ∀ (l1 : Int32) (l2 : Int32), o1 = .inl (l1, l2) → ∀ {H : Heap} {locs : List Loc} {ls : Array Slot}, z_Ok D cA bs s σ H locs → lv_has ls 3 [(0, .ref l0), (1, .int l1), (2, .int l2)] → W p l e (zrm 3 0 0 64) s m args below meth c H locs 0 0 (MQ below (z_Qi D cA bs r σ') args s 0 0 (fun q => bs ≤ q)) (F0 m 44 ls [])) (hr1 : ∀ x, o1 = .inr x → x = (r, σ')) : W p l e (zrm 3 0 0 64) s m args below meth c H locs 0 0 (MQ below (z_Qi D cA bs r σ') args s 0 0 (fun q => bs ≤ q)) (F0 m 44 ls []) := by
  have hx := B.1
  have hb := B.2.1
  have hown := B.2.2.2.1
  have hts := B.2.2.2.2.1
  unfold b_X10_makesToken_44 at hf
  refine lv_iload_n hx hb dX10_makesToken_44 rfl (lv_at hl 2 rfl) ?_
  refine lv_if_lt (tgt := 68) hx hb dX10_makesToken_45 (by decide) (fun hc45 => ?_) (fun hc45 => ?_)
  · replace hf := z_ip hc45 hf
    obtain ⟨w1, hf, ho32⟩ := z_x hf
    obtain rfl := hr1 _ ho32
    refine lv_iload_n hx hb dX10_makesToken_68 rfl (lv_at hl 1 rfl) ?_
    refine lv_iconst (v := (-1 : Int32)) hx hb dX10_makesToken_69 (by decide) ?_
    refine lv_icmp_ne (tgt := 75) hx hb dX10_makesToken_70 (by decide) (fun hc70 => ?_) (fun hc70 => ?_)
    · replace hf := z_in hc70 hf
      refine lv_aload_n hx hb dX10_makesToken_75 rfl (lv_at hl 0 rfl) ?_
      obtain ⟨hg1, hf⟩ := z_g hf
      obtain ⟨q2, hv3, hf⟩ := z_nn hf
      refine z_getN B hW (Or.inr zf_X10_7) rfl hg1 hv3 dX10_makesToken_76 ?_
      refine lv_iconst (v := (3 : Int32)) hx hb dX10_makesToken_79 (by decide) ?_
      refine lv_dup2_11 hx hb dX10_makesToken_80 rfl rfl ?_
      obtain ⟨hg4, hf⟩ := z_g hf
      obtain ⟨hg5, hf⟩ := z_g hf
      refine z_ald B hW hg4 hg5 dX10_makesToken_81 ?_
      refine lv_aload_n hx hb dX10_makesToken_82 rfl (lv_at hl 0 rfl) ?_
      obtain ⟨q6, hv7, hf⟩ := z_nn hf
      refine z_getN B hW (Or.inr zf_X10_7) rfl hg1 hv7 dX10_makesToken_83 ?_
      refine lv_iconst (v := (1 : Int32)) hx hb dX10_makesToken_86 (by decide) ?_
      obtain ⟨hg8, hf⟩ := z_g hf
      obtain ⟨hg9, hf⟩ := z_g hf
      refine z_ald B hW hg8 hg9 dX10_makesToken_87 ?_
      refine lv_bipush (v := (6 : Int32)) hx hb dX10_makesToken_88 (by decide) ?_
      refine lv_iconst (v := (2 : Int32)) hx hb dX10_makesToken_90 (by decide) ?_
      refine lv_iload_n hx hb dX10_makesToken_91 rfl (lv_at hl 1 rfl) ?_
      refine lv_imul hx hb dX10_makesToken_92 ?_
      refine lv_iadd hx hb dX10_makesToken_93 ?_
      refine lv_imul hx hb dX10_makesToken_94 ?_
      refine lv_iadd hx hb dX10_makesToken_95 ?_
      obtain ⟨σ10, hs11, hf⟩ := z_l hf
      refine z_ast B hW hg4 hg5 hs11 dX10_makesToken_96 (fun H locs hW => ?_)
      refine lv_aload_n hx hb dX10_makesToken_97 rfl (lv_at hl 0 rfl) ?_
      refine lv_iload_n hx hb dX10_makesToken_98 rfl (lv_at hl 1 rfl) ?_
      obtain ⟨hg12, hf⟩ := z_g hf
      obtain ⟨r14, hq13, hf⟩ := z_b hf
      refine z_ci hW (z_runV (As := [.int l1]) (rest := []) B hW zv_X10_83 (K_X10_isInRing hq13) hg12 rfl rfl rfl (Nat.le_of_ble_eq_true rfl) hl.1 ⟨Nat.le_of_ble_eq_true rfl, Nat.le_of_ble_eq_true rfl⟩ dX10_makesToken_99 ⟨Nat.le_of_ble_eq_true rfl, Nat.le_of_ble_eq_true rfl⟩) (fun H locs hW => ?_)
      refine lv_if_ne (tgt := 127) hx hb dX10_makesToken_102 (by decide) (fun hc102 => ?_) (fun hc102 => ?_)
      · replace hf := z_in hc102 hf
        exact t_X10_makesToken_127 B hf hW (lv_sub hl [0, 1] rfl) 
      · replace hf := z_ip hc102 hf
        refine lv_aload_n hx hb dX10_makesToken_105 rfl (lv_at hl 0 rfl) ?_
        obtain ⟨q15, hv16, hf⟩ := z_nn hf
        refine z_getN B hW (Or.inr zf_X10_7) rfl hg12 hv16 dX10_makesToken_106 ?_
        refine lv_iload_n hx hb dX10_makesToken_109 rfl (lv_at hl 1 rfl) ?_
        refine lv_iconst (v := (2 : Int32)) hx hb dX10_makesToken_110 (by decide) ?_
        obtain ⟨r18, hq17, hf⟩ := z_b hf
        refine z_ci hW (z_runS (As := [.int l1, .int (2 : Int32)]) (rest := [.ref q15]) B hW zv_X10_29 (K_X10_at hq17) rfl rfl (Nat.le_of_ble_eq_true rfl) hl.1 ⟨Nat.le_of_ble_eq_true rfl, Nat.le_of_ble_eq_true rfl⟩ dX10_makesToken_111 ⟨Nat.le_of_ble_eq_true rfl, Nat.le_of_ble_eq_true rfl⟩) (fun H locs hW => ?_)
        refine lv_iconst (v := (1 : Int32)) hx hb dX10_makesToken_114 (by decide) ?_
        obtain ⟨hg19, hf⟩ := z_g hf
        obtain ⟨hg20, hf⟩ := z_g hf
        obtain ⟨σ21, hs22, hf⟩ := z_l hf
        refine z_ast B hW hg19 hg20 hs22 dX10_makesToken_115 (fun H locs hW => ?_)
        refine lv_aload_n hx hb dX10_makesToken_116 rfl (lv_at hl 0 rfl) ?_
        obtain ⟨hg23, hf⟩ := z_g hf
        obtain ⟨q24, hv25, hf⟩ := z_nn hf
        refine z_getN B hW (Or.inr zf_X10_7) rfl hg23 hv25 dX10_makesToken_117 ?_
        refine lv_iload_n hx hb dX10_makesToken_120 rfl (lv_at hl 1 rfl) ?_
        refine lv_iconst (v := (3 : Int32)) hx hb dX10_makesToken_121 (by decide) ?_
        obtain ⟨r27, hq26, hf⟩ := z_b hf
        refine z_ci hW (z_runS (As := [.int l1, .int (3 : Int32)]) (rest := [.ref q24]) B hW zv_X10_29 (K_X10_at hq26) rfl rfl (Nat.le_of_ble_eq_true rfl) hl.1 ⟨Nat.le_of_ble_eq_true rfl, Nat.le_of_ble_eq_true rfl⟩ dX10_makesToken_122 ⟨Nat.le_of_ble_eq_true rfl, Nat.le_of_ble_eq_true rfl⟩) (fun H locs hW => ?_)
        refine lv_iload_n hx hb dX10_makesToken_125 rfl (lv_at hl 1 rfl) ?_
        obtain ⟨hg28, hf⟩ := z_g hf
        obtain ⟨hg29, hf⟩ := z_g hf
        obtain ⟨σ30, hs31, hf⟩ := z_l hf
        refine z_ast B hW hg28 hg29 hs31 dX10_makesToken_126 (fun H locs hW => ?_)
        exact t_X10_makesToken_127 B hf hW (lv_sub hl [0, 1] rfl) 
    · replace hf := z_ip hc70 hf
      refine lv_iconst (v := (0 : Int32)) hx hb dX10_makesToken_73 (by decide) ?_
      obtain ⟨rfl, rfl⟩ := z_e2 hf
      exact z_rz (by decide) B hW dX10_makesToken_74 (Nat.le_of_ble_eq_true rfl) (Nat.le_of_ble_eq_true rfl)
  · replace hf := z_in hc45 hf
    refine lv_aload_n hx hb dX10_makesToken_48 rfl (lv_at hl 0 rfl) ?_
    refine lv_iload_n hx hb dX10_makesToken_49 rfl (lv_at hl 2 rfl) ?_
    obtain ⟨hg33, hf⟩ := z_g hf
    obtain ⟨r35, hq34, hf⟩ := z_b hf
    refine z_ci hW (z_runV (As := [.int l2]) (rest := []) B hW zv_X10_83 (K_X10_isInRing hq34) hg33 rfl rfl rfl (Nat.le_of_ble_eq_true rfl) hl.1 ⟨Nat.le_of_ble_eq_true rfl, Nat.le_of_ble_eq_true rfl⟩ dX10_makesToken_50 ⟨Nat.le_of_ble_eq_true rfl, Nat.le_of_ble_eq_true rfl⟩) (fun H locs hW => ?_)
    refine lv_if_eq (tgt := 60) hx hb dX10_makesToken_53 (by decide) (fun hc53 => ?_) (fun hc53 => ?_)
    · replace hf := z_ip hc53 hf
      refine lv_iload_n hx hb dX10_makesToken_60 rfl (lv_at hl 1 rfl) ?_
      exact t_X10_makesToken_61 B hf hW (lv_sub hl [0, 2] rfl) hk1 hr1
    · replace hf := z_in hc53 hf
      refine lv_iload_n hx hb dX10_makesToken_56 rfl (lv_at hl 2 rfl) ?_
      refine lv_goto (tgt := 61) hx hb dX10_makesToken_57 (by decide) ?_
      exact t_X10_makesToken_61 B hf hW (lv_sub hl [0, 2] rfl) hk1 hr1
set_option maxRecDepth 20000 in
set_option maxHeartbeats 4000000 in
theorem t_X10_makesToken_44 (B : z_B p s m args meth c D cA bs RX10 cX10_makesToken 3 (some .boolean)) {r : Int32} {σ' : zSt} {σ : zSt} {l0 : Nat}  : ∀ (n : Nat) {l1 : Int32} {l2 : Int32}, zloop (fun (t : Int32 × Int32) => b_X10_makesToken_44 σ l0 t.1 t.2) n (l1, l2) = some (r, σ') → ∀ {H : Heap} {locs : List Loc} {ls : Array Slot}, z_Ok D cA bs s σ H locs → lv_has ls 3 [(0, .ref l0), (1, .int l1), (2, .int l2)] → W p l e (zrm 3 0 0 64) s m args below meth c H locs 0 0 (MQ below (z_Qi D cA bs r σ') args s 0 0 (fun q => bs ≤ q)) (F0 m 44 ls []) := by
  intro n
  induction n with
  | zero => intro l1 l2 hf; cases hf
  | succ n ih =>
    intro l1 l2 hf H locs ls hW hl
    obtain ⟨o1, hb1, hf⟩ := z_lp hf
    refine tb_X10_makesToken_44 B hb1 hW hl  (fun l1 l2 he H locs ls hW hl => ?_) (fun x he => ?_)
    · rcases hf with ⟨t, ht, hf⟩ | hf
      · rw [he] at ht
        cases ht
        exact ih hf hW hl
      · rw [he] at hf
        cases hf
    · rcases hf with ⟨t, ht, hf⟩ | hf
      · rw [he] at ht
        cases ht
      · rw [he] at hf
        exact Sum.inr.inj hf
set_option maxRecDepth 100000 in
def f_X10_makesToken_34 (σ : zSt) (l0 : Nat) (l2 : Int32) (s0 : Int32) : Option ((Int32 × Int32) ⊕ (Int32 × zSt)) :=
(some (.inl (s0, (l2 + (-1 : Int32)))))
set_option maxRecDepth 20000 in
set_option maxHeartbeats 4000000 in
theorem t_X10_makesToken_34 (B : z_B p s m args meth c D cA bs RX10 cX10_makesToken 3 (some .boolean)) {r : Int32} {σ' : zSt} {o1 : (Int32 × Int32) ⊕ (Int32 × zSt)} {σ : zSt} {l0 : Nat} {l2 : Int32} {s0 : Int32} (hf : f_X10_makesToken_34 σ l0 l2 s0 = some o1) {H : Heap} {locs : List Loc} {ls : Array Slot} (hW : z_Ok D cA bs s σ H locs) (hl : lv_has ls 3 [(0, .ref l0), (2, .int l2)]) (hk1 : ∀ (l1 : Int32) (l2 : Int32), o1 = .inl (l1, l2) → ∀ {H : Heap} {locs : List Loc} {ls : Array Slot}, z_Ok D cA bs s σ H locs → lv_has ls 3 [(0, .ref l0), (1, .int l1), (2, .int l2)] → W p l e (zrm 3 0 0 64) s m args below meth c H locs 0 0 (MQ below (z_Qi D cA bs r σ') args s 0 0 (fun q => bs ≤ q)) (F0 m 5 ls [])) (hr1 : ∀ x, o1 = .inr x → x = (r, σ')) : W p l e (zrm 3 0 0 64) s m args below meth c H locs 0 0 (MQ below (z_Qi D cA bs r σ') args s 0 0 (fun q => bs ≤ q)) (F0 m 34 ls [.int s0]) := by
  have hx := B.1
  have hb := B.2.1
  have hown := B.2.2.2.1
  have hts := B.2.2.2.2.1
  unfold f_X10_makesToken_34 at hf
  refine lv_istore_n (lv' := [(1, .int s0), (0, .ref l0), (2, .int l2)]) hx hb dX10_makesToken_34 rfl hl (by decide) rfl (fun ls hl => ?_)
  refine lv_iinc (v := (l2 + (-1 : Int32))) (lv' := [(2, .int (l2 + (-1 : Int32))), (1, .int s0), (0, .ref l0)]) hx hb dX10_makesToken_35 hl (k := 2) rfl rfl (by decide) rfl (fun ls hl => ?_)
  refine lv_goto (tgt := 5) hx hb dX10_makesToken_38 (by decide) ?_
  exact hk1 _ _ (Option.some.inj hf).symm hW (lv_sub hl [2, 1, 0] rfl)
set_option maxRecDepth 100000 in
def f_X10_makesToken_33 (σ : zSt) (l0 : Nat) (l1 : Int32) (l2 : Int32) : Option ((Int32 × Int32) ⊕ (Int32 × zSt)) :=
(f_X10_makesToken_34 σ l0 l2 l1)
set_option maxRecDepth 20000 in
set_option maxHeartbeats 4000000 in
theorem t_X10_makesToken_33 (B : z_B p s m args meth c D cA bs RX10 cX10_makesToken 3 (some .boolean)) {r : Int32} {σ' : zSt} {o1 : (Int32 × Int32) ⊕ (Int32 × zSt)} {σ : zSt} {l0 : Nat} {l1 : Int32} {l2 : Int32} (hf : f_X10_makesToken_33 σ l0 l1 l2 = some o1) {H : Heap} {locs : List Loc} {ls : Array Slot} (hW : z_Ok D cA bs s σ H locs) (hl : lv_has ls 3 [(0, .ref l0), (1, .int l1), (2, .int l2)]) (hk1 : ∀ (l1 : Int32) (l2 : Int32), o1 = .inl (l1, l2) → ∀ {H : Heap} {locs : List Loc} {ls : Array Slot}, z_Ok D cA bs s σ H locs → lv_has ls 3 [(0, .ref l0), (1, .int l1), (2, .int l2)] → W p l e (zrm 3 0 0 64) s m args below meth c H locs 0 0 (MQ below (z_Qi D cA bs r σ') args s 0 0 (fun q => bs ≤ q)) (F0 m 5 ls [])) (hr1 : ∀ x, o1 = .inr x → x = (r, σ')) : W p l e (zrm 3 0 0 64) s m args below meth c H locs 0 0 (MQ below (z_Qi D cA bs r σ') args s 0 0 (fun q => bs ≤ q)) (F0 m 33 ls []) := by
  have hx := B.1
  have hb := B.2.1
  have hown := B.2.2.2.1
  have hts := B.2.2.2.2.1
  unfold f_X10_makesToken_33 at hf
  refine lv_iload_n hx hb dX10_makesToken_33 rfl (lv_at hl 1 rfl) ?_
  exact t_X10_makesToken_34 B hf hW (lv_sub hl [0, 2] rfl) hk1 hr1
set_option maxRecDepth 100000 in
def b_X10_makesToken_5 (σ : zSt) (l0 : Nat) (l1 : Int32) (l2 : Int32) : Option ((Int32 × Int32) ⊕ (Int32 × zSt)) :=
(if l2 < 0 then
(zex (f_X10_makesToken_44 σ l0 l1 (31 : Int32)))
else
(if z_ob σ l0 9 then (zb (f_X10_of σ l0 l2 (0 : Int32)) (fun r4 => (if r4 = (1 : Int32) then
(zb (f_X10_of σ l0 l2 (1 : Int32)) (fun r6 => (if r6 = (1 : Int32) then
(f_X10_makesToken_34 σ l0 l2 l2)
else
(f_X10_makesToken_33 σ l0 l1 l2))))
else
(f_X10_makesToken_33 σ l0 l1 l2)))) else none))
set_option maxRecDepth 100000 in
def f_X10_makesToken_5 (σ : zSt) (l0 : Nat) (l1 : Int32) (l2 : Int32) : Option (Int32 × zSt) := zloop (fun (t : Int32 × Int32) => b_X10_makesToken_5 σ l0 t.1 t.2) zN (l1, l2)
set_option maxRecDepth 20000 in
set_option maxHeartbeats 4000000 in
theorem tb_X10_makesToken_5 (B : z_B p s m args meth c D cA bs RX10 cX10_makesToken 3 (some .boolean)) {r : Int32} {σ' : zSt} {o1 : (Int32 × Int32) ⊕ (Int32 × zSt)} {σ : zSt} {l0 : Nat} {l1 : Int32} {l2 : Int32} (hf : b_X10_makesToken_5 σ l0 l1 l2 = some o1) {H : Heap} {locs : List Loc} {ls : Array Slot} (hW : z_Ok D cA bs s σ H locs) (hl : lv_has ls 3 [(0, .ref l0), (1, .int l1), (2, .int l2)]) (hk1 : ∀ (l1 : Int32) (l2 : Int32), o1 = .inl (l1, l2) → ∀ {H : Heap} {locs : List Loc} {ls : Array Slot}, z_Ok D cA bs s σ H locs → lv_has ls 3 [(0, .ref l0), (1, .int l1), (2, .int l2)] → W p l e (zrm 3 0 0 64) s m args below meth c H locs 0 0 (MQ below (z_Qi D cA bs r σ') args s 0 0 (fun q => bs ≤ q)) (F0 m 5 ls [])) (hr1 : ∀ x, o1 = .inr x → x = (r, σ')) : W p l e (zrm 3 0 0 64) s m args below meth c H locs 0 0 (MQ below (z_Qi D cA bs r σ') args s 0 0 (fun q => bs ≤ q)) (F0 m 5 ls []) := by
  have hx := B.1
  have hb := B.2.1
  have hown := B.2.2.2.1
  have hts := B.2.2.2.2.1
  unfold b_X10_makesToken_5 at hf
  refine lv_iload_n hx hb dX10_makesToken_5 rfl (lv_at hl 2 rfl) ?_
  refine lv_if_lt (tgt := 41) hx hb dX10_makesToken_6 (by decide) (fun hc6 => ?_) (fun hc6 => ?_)
  · replace hf := z_ip hc6 hf
    obtain ⟨w1, hf, ho1⟩ := z_x hf
    obtain rfl := hr1 _ ho1
    refine lv_bipush (v := (31 : Int32)) hx hb dX10_makesToken_41 (by decide) ?_
    refine lv_istore_n (lv' := [(2, .int (31 : Int32)), (0, .ref l0), (1, .int l1)]) hx hb dX10_makesToken_43 rfl hl (by decide) rfl (fun ls hl => ?_)
    unfold f_X10_makesToken_44 at hf
    exact t_X10_makesToken_44 B  zN hf hW (lv_sub hl [1, 2, 0] rfl)
  · replace hf := z_in hc6 hf
    refine lv_aload_n hx hb dX10_makesToken_9 rfl (lv_at hl 0 rfl) ?_
    refine lv_iload_n hx hb dX10_makesToken_10 rfl (lv_at hl 2 rfl) ?_
    refine lv_iconst (v := (0 : Int32)) hx hb dX10_makesToken_11 (by decide) ?_
    obtain ⟨hg2, hf⟩ := z_g hf
    obtain ⟨r4, hq3, hf⟩ := z_b hf
    refine z_ci hW (z_runV (As := [.int l2, .int (0 : Int32)]) (rest := []) B hW zv_X10_39 (K_X10_of hq3) hg2 rfl rfl rfl (Nat.le_of_ble_eq_true rfl) hl.1 ⟨Nat.le_of_ble_eq_true rfl, Nat.le_of_ble_eq_true rfl⟩ dX10_makesToken_12 ⟨Nat.le_of_ble_eq_true rfl, Nat.le_of_ble_eq_true rfl⟩) (fun H locs hW => ?_)
    refine lv_iconst (v := (1 : Int32)) hx hb dX10_makesToken_15 (by decide) ?_
    refine lv_icmp_ne (tgt := 33) hx hb dX10_makesToken_16 (by decide) (fun hc16 => ?_) (fun hc16 => ?_)
    · replace hf := z_in hc16 hf
      exact t_X10_makesToken_33 B hf hW hl hk1 hr1
    · replace hf := z_ip hc16 hf
      refine lv_aload_n hx hb dX10_makesToken_19 rfl (lv_at hl 0 rfl) ?_
      refine lv_iload_n hx hb dX10_makesToken_20 rfl (lv_at hl 2 rfl) ?_
      refine lv_iconst (v := (1 : Int32)) hx hb dX10_makesToken_21 (by decide) ?_
      obtain ⟨r6, hq5, hf⟩ := z_b hf
      refine z_ci hW (z_runV (As := [.int l2, .int (1 : Int32)]) (rest := []) B hW zv_X10_39 (K_X10_of hq5) hg2 rfl rfl rfl (Nat.le_of_ble_eq_true rfl) hl.1 ⟨Nat.le_of_ble_eq_true rfl, Nat.le_of_ble_eq_true rfl⟩ dX10_makesToken_22 ⟨Nat.le_of_ble_eq_true rfl, Nat.le_of_ble_eq_true rfl⟩) (fun H locs hW => ?_)
      refine lv_iconst (v := (1 : Int32)) hx hb dX10_makesToken_25 (by decide) ?_
      refine lv_icmp_ne (tgt := 33) hx hb dX10_makesToken_26 (by decide) (fun hc26 => ?_) (fun hc26 => ?_)
      · replace hf := z_in hc26 hf
        exact t_X10_makesToken_33 B hf hW hl hk1 hr1
      · replace hf := z_ip hc26 hf
        refine lv_iload_n hx hb dX10_makesToken_29 rfl (lv_at hl 2 rfl) ?_
        refine lv_goto (tgt := 34) hx hb dX10_makesToken_30 (by decide) ?_
        exact t_X10_makesToken_34 B hf hW (lv_sub hl [0, 2] rfl) hk1 hr1
set_option maxRecDepth 20000 in
set_option maxHeartbeats 4000000 in
theorem t_X10_makesToken_5 (B : z_B p s m args meth c D cA bs RX10 cX10_makesToken 3 (some .boolean)) {r : Int32} {σ' : zSt} {σ : zSt} {l0 : Nat}  : ∀ (n : Nat) {l1 : Int32} {l2 : Int32}, zloop (fun (t : Int32 × Int32) => b_X10_makesToken_5 σ l0 t.1 t.2) n (l1, l2) = some (r, σ') → ∀ {H : Heap} {locs : List Loc} {ls : Array Slot}, z_Ok D cA bs s σ H locs → lv_has ls 3 [(0, .ref l0), (1, .int l1), (2, .int l2)] → W p l e (zrm 3 0 0 64) s m args below meth c H locs 0 0 (MQ below (z_Qi D cA bs r σ') args s 0 0 (fun q => bs ≤ q)) (F0 m 5 ls []) := by
  intro n
  induction n with
  | zero => intro l1 l2 hf; cases hf
  | succ n ih =>
    intro l1 l2 hf H locs ls hW hl
    obtain ⟨o1, hb1, hf⟩ := z_lp hf
    refine tb_X10_makesToken_5 B hb1 hW hl  (fun l1 l2 he H locs ls hW hl => ?_) (fun x he => ?_)
    · rcases hf with ⟨t, ht, hf⟩ | hf
      · rw [he] at ht
        cases ht
        exact ih hf hW hl
      · rw [he] at hf
        cases hf
    · rcases hf with ⟨t, ht, hf⟩ | hf
      · rw [he] at ht
        cases ht
      · rw [he] at hf
        exact Sum.inr.inj hf
set_option maxRecDepth 100000 in
def f_X10_makesToken (σ : zSt) (l0 : Nat) : Option (Int32 × zSt) :=
(f_X10_makesToken_5 σ l0 (-1 : Int32) (31 : Int32))
set_option maxRecDepth 20000 in
set_option maxHeartbeats 4000000 in
theorem K_X10_makesToken {σ : zSt} {l0 : Nat} {r : Int32} {σ' : zSt} (hf : f_X10_makesToken σ l0 = some (r, σ')) : z_M l D cA bs yX10_makesToken cX10_makesToken 3 (some .boolean) 3 64 0 0 [.ref l0] σ (z_Qi D cA bs r σ') := by
  refine z_met (own := RX10) (lv := [(0, .ref l0)]) (by decide) rfl (Nat.le_of_ble_eq_true rfl) rfl (fun p e s m below meth c ls B hnm hW hl => ?_)
  have hx := B.1
  have hb := B.2.1
  have hown := B.2.2.2.1
  have hts := B.2.2.2.2.1
  unfold f_X10_makesToken at hf
  refine lv_iconst (v := (-1 : Int32)) hx hb dX10_makesToken_0 (by decide) ?_
  refine lv_istore_n (lv' := [(1, .int (-1 : Int32)), (0, .ref l0)]) hx hb dX10_makesToken_1 rfl hl (by decide) rfl (fun ls hl => ?_)
  refine lv_bipush (v := (31 : Int32)) hx hb dX10_makesToken_2 (by decide) ?_
  refine lv_istore_n (lv' := [(2, .int (31 : Int32)), (1, .int (-1 : Int32)), (0, .ref l0)]) hx hb dX10_makesToken_4 rfl hl (by decide) rfl (fun ls hl => ?_)
  unfold f_X10_makesToken_5 at hf
  exact t_X10_makesToken_5 B  zN hf hW (lv_sub hl [2, 1, 0] rfl)
set_option maxRecDepth 100000 in
def f_X10_sends (σ : zSt) (l0 : Nat) (l1 : Int32) : Option (Int32 × zSt) :=
(if z_ob σ l0 9 then (zb (f_X10_nextOf σ l0 l1 (-1 : Int32)) (fun r3 => (zc (z_R σ l0 0) none (fun q4 => (if z_ar σ q4 0 then (if z_ix (3 : Int32) (z_ln σ q4) then (zl (z_I σ q4 (3 : Int32).toNatClampNeg) (fun x8 => (zb (f_X10_ofMessage σ l0 r3 (0 : Int32)) (fun r11 => (zb2 (f_X10_takes σ l0 r11) (fun r13 σ14 => (if r13 = 0 then
(if z_ob σ14 l0 9 then (zc (z_R σ14 l0 0) none (fun q16 => (zb (f_X10_inMessage σ14 r3 (4 : Int32)) (fun r19 => (zb (f_X10_ofMessage σ14 l0 r3 (3 : Int32)) (fun r21 => (if z_ar σ14 q16 0 then (if z_ix r19 (z_ln σ14 q16) then (zl (z_pI σ14 q16 r19.toNatClampNeg (x8 - r21)) (fun σ24 => (if z_ob σ24 l0 9 then (zc (z_R σ24 l0 0) none (fun q27 => (if z_ar σ24 q27 0 then (if z_ix (10 : Int32) (z_ln σ24 q27) then (zl (z_pI σ24 q27 (10 : Int32).toNatClampNeg ((z_I σ24 q27 (10 : Int32).toNatClampNeg) + (1 : Int32))) (fun σ31 => (if z_ob σ31 l0 9 then (zc (z_R σ31 l0 0) none (fun q34 => (if z_ar σ31 q34 0 then (if z_ix (15 : Int32) (z_ln σ31 q34) then (zb (f_X10_ofMessage σ31 l0 r3 (0 : Int32)) (fun r39 => (zl (z_pI σ31 q34 (15 : Int32).toNatClampNeg ((z_I σ31 q34 (15 : Int32).toNatClampNeg) + r39)) (fun σ40 => (some ((0 : Int32), σ40)))))) else none) else none))) else none))) else none) else none))) else none))) else none) else none))))))) else none)
else
(some ((1 : Int32), σ14))))))))) else none) else none))))) else none)
set_option maxRecDepth 20000 in
set_option maxHeartbeats 4000000 in
theorem K_X10_sends {σ : zSt} {l0 : Nat} {l1 : Int32} {r : Int32} {σ' : zSt} (hf : f_X10_sends σ l0 l1 = some (r, σ')) : z_M l D cA bs yX10_sends cX10_sends 4 (some .boolean) 3 69 0 0 [.ref l0, .int l1] σ (z_Qi D cA bs r σ') := by
  refine z_met (own := RX10) (lv := [(0, .ref l0), (1, .int l1)]) (by decide) rfl (Nat.le_of_ble_eq_true rfl) rfl (fun p e s m below meth c ls B hnm hW hl => ?_)
  have hx := B.1
  have hb := B.2.1
  have hown := B.2.2.2.1
  have hts := B.2.2.2.2.1
  unfold f_X10_sends at hf
  refine lv_aload_n hx hb dX10_sends_0 rfl (lv_at hl 0 rfl) ?_
  refine lv_iload_n hx hb dX10_sends_1 rfl (lv_at hl 1 rfl) ?_
  refine lv_iconst (v := (-1 : Int32)) hx hb dX10_sends_2 (by decide) ?_
  obtain ⟨hg1, hf⟩ := z_g hf
  obtain ⟨r3, hq2, hf⟩ := z_b hf
  refine z_ci hW (z_runV (As := [.int l1, .int (-1 : Int32)]) (rest := []) B hW zv_X10_86 (K_X10_nextOf hq2) hg1 rfl rfl rfl (Nat.le_of_ble_eq_true rfl) hl.1 ⟨Nat.le_of_ble_eq_true rfl, Nat.le_of_ble_eq_true rfl⟩ dX10_sends_3 ⟨Nat.le_of_ble_eq_true rfl, Nat.le_of_ble_eq_true rfl⟩) (fun H locs hW => ?_)
  refine lv_istore_n (lv' := [(2, .int r3), (0, .ref l0), (1, .int l1)]) hx hb dX10_sends_6 rfl hl (by decide) rfl (fun ls hl => ?_)
  refine lv_aload_n hx hb dX10_sends_7 rfl (lv_at hl 1 rfl) ?_
  obtain ⟨q4, hv5, hf⟩ := z_nn hf
  refine z_getN B hW (Or.inr zf_X10_7) rfl hg1 hv5 dX10_sends_8 ?_
  refine lv_iconst (v := (3 : Int32)) hx hb dX10_sends_11 (by decide) ?_
  obtain ⟨hg6, hf⟩ := z_g hf
  obtain ⟨hg7, hf⟩ := z_g hf
  refine z_ald B hW hg6 hg7 dX10_sends_12 ?_
  obtain ⟨x8, hx9, hf⟩ := z_l hf
  rw [hx9]
  refine lv_istore_n (lv' := [(3, .int x8), (2, .int r3), (0, .ref l0), (1, .int l1)]) hx hb dX10_sends_13 rfl hl (by decide) rfl (fun ls hl => ?_)
  refine lv_aload_n hx hb dX10_sends_14 rfl (lv_at hl 2 rfl) ?_
  refine lv_aload_n hx hb dX10_sends_15 rfl (lv_at hl 2 rfl) ?_
  refine lv_iload_n hx hb dX10_sends_16 rfl (lv_at hl 1 rfl) ?_
  refine lv_iconst (v := (0 : Int32)) hx hb dX10_sends_17 (by decide) ?_
  obtain ⟨r11, hq10, hf⟩ := z_b hf
  refine z_ci hW (z_runV (As := [.int r3, .int (0 : Int32)]) (rest := [.ref l0]) B hW zv_X10_80 (K_X10_ofMessage hq10) hg1 rfl rfl rfl (Nat.le_of_ble_eq_true rfl) hl.1 ⟨Nat.le_of_ble_eq_true rfl, Nat.le_of_ble_eq_true rfl⟩ dX10_sends_18 ⟨Nat.le_of_ble_eq_true rfl, Nat.le_of_ble_eq_true rfl⟩) (fun H locs hW => ?_)
  obtain ⟨r13, σ14, hq12, hf⟩ := z_b2 hf
  refine z_ci hW (z_runV (As := [.int r11]) (rest := []) B hW zv_X10_89 (K_X10_takes hq12) hg1 rfl rfl rfl (Nat.le_of_ble_eq_true rfl) hl.1 ⟨Nat.le_of_ble_eq_true rfl, Nat.le_of_ble_eq_true rfl⟩ dX10_sends_21 ⟨Nat.le_of_ble_eq_true rfl, Nat.le_of_ble_eq_true rfl⟩) (fun H locs hW => ?_)
  refine lv_if_eq (tgt := 29) hx hb dX10_sends_24 (by decide) (fun hc24 => ?_) (fun hc24 => ?_)
  · replace hf := z_ip hc24 hf
    refine lv_aload_n hx hb dX10_sends_29 rfl (lv_at hl 2 rfl) ?_
    obtain ⟨hg15, hf⟩ := z_g hf
    obtain ⟨q16, hv17, hf⟩ := z_nn hf
    refine z_getN B hW (Or.inr zf_X10_7) rfl hg15 hv17 dX10_sends_30 ?_
    refine lv_iload_n hx hb dX10_sends_33 rfl (lv_at hl 1 rfl) ?_
    refine lv_iconst (v := (4 : Int32)) hx hb dX10_sends_34 (by decide) ?_
    obtain ⟨r19, hq18, hf⟩ := z_b hf
    refine z_ci hW (z_runS (As := [.int r3, .int (4 : Int32)]) (rest := [.ref q16]) B hW zv_X10_42 (K_X10_inMessage hq18) rfl rfl (Nat.le_of_ble_eq_true rfl) hl.1 ⟨Nat.le_of_ble_eq_true rfl, Nat.le_of_ble_eq_true rfl⟩ dX10_sends_35 ⟨Nat.le_of_ble_eq_true rfl, Nat.le_of_ble_eq_true rfl⟩) (fun H locs hW => ?_)
    refine lv_iload_n hx hb dX10_sends_38 rfl (lv_at hl 0 rfl) ?_
    refine lv_aload_n hx hb dX10_sends_39 rfl (lv_at hl 2 rfl) ?_
    refine lv_iload_n hx hb dX10_sends_40 rfl (lv_at hl 1 rfl) ?_
    refine lv_iconst (v := (3 : Int32)) hx hb dX10_sends_41 (by decide) ?_
    obtain ⟨r21, hq20, hf⟩ := z_b hf
    refine z_ci hW (z_runV (As := [.int r3, .int (3 : Int32)]) (rest := [.int x8, .int r19, .ref q16]) B hW zv_X10_80 (K_X10_ofMessage hq20) hg15 rfl rfl rfl (Nat.le_of_ble_eq_true rfl) hl.1 ⟨Nat.le_of_ble_eq_true rfl, Nat.le_of_ble_eq_true rfl⟩ dX10_sends_42 ⟨Nat.le_of_ble_eq_true rfl, Nat.le_of_ble_eq_true rfl⟩) (fun H locs hW => ?_)
    refine lv_isub hx hb dX10_sends_45 ?_
    obtain ⟨hg22, hf⟩ := z_g hf
    obtain ⟨hg23, hf⟩ := z_g hf
    obtain ⟨σ24, hs25, hf⟩ := z_l hf
    refine z_ast B hW hg22 hg23 hs25 dX10_sends_46 (fun H locs hW => ?_)
    refine lv_aload_n hx hb dX10_sends_47 rfl (lv_at hl 2 rfl) ?_
    obtain ⟨hg26, hf⟩ := z_g hf
    obtain ⟨q27, hv28, hf⟩ := z_nn hf
    refine z_getN B hW (Or.inr zf_X10_7) rfl hg26 hv28 dX10_sends_48 ?_
    refine lv_bipush (v := (10 : Int32)) hx hb dX10_sends_51 (by decide) ?_
    refine lv_dup2_11 hx hb dX10_sends_53 rfl rfl ?_
    obtain ⟨hg29, hf⟩ := z_g hf
    obtain ⟨hg30, hf⟩ := z_g hf
    refine z_ald B hW hg29 hg30 dX10_sends_54 ?_
    refine lv_iconst (v := (1 : Int32)) hx hb dX10_sends_55 (by decide) ?_
    refine lv_iadd hx hb dX10_sends_56 ?_
    obtain ⟨σ31, hs32, hf⟩ := z_l hf
    refine z_ast B hW hg29 hg30 hs32 dX10_sends_57 (fun H locs hW => ?_)
    refine lv_aload_n hx hb dX10_sends_58 rfl (lv_at hl 2 rfl) ?_
    obtain ⟨hg33, hf⟩ := z_g hf
    obtain ⟨q34, hv35, hf⟩ := z_nn hf
    refine z_getN B hW (Or.inr zf_X10_7) rfl hg33 hv35 dX10_sends_59 ?_
    refine lv_bipush (v := (15 : Int32)) hx hb dX10_sends_62 (by decide) ?_
    refine lv_dup2_11 hx hb dX10_sends_64 rfl rfl ?_
    obtain ⟨hg36, hf⟩ := z_g hf
    obtain ⟨hg37, hf⟩ := z_g hf
    refine z_ald B hW hg36 hg37 dX10_sends_65 ?_
    refine lv_aload_n hx hb dX10_sends_66 rfl (lv_at hl 2 rfl) ?_
    refine lv_iload_n hx hb dX10_sends_67 rfl (lv_at hl 1 rfl) ?_
    refine lv_iconst (v := (0 : Int32)) hx hb dX10_sends_68 (by decide) ?_
    obtain ⟨r39, hq38, hf⟩ := z_b hf
    refine z_ci hW (z_runV (As := [.int r3, .int (0 : Int32)]) (rest := [.int (z_I σ31 q34 (15 : Int32).toNatClampNeg), .int (15 : Int32), .ref q34]) B hW zv_X10_80 (K_X10_ofMessage hq38) hg33 rfl rfl rfl (Nat.le_of_ble_eq_true rfl) hl.1 ⟨Nat.le_of_ble_eq_true rfl, Nat.le_of_ble_eq_true rfl⟩ dX10_sends_69 ⟨Nat.le_of_ble_eq_true rfl, Nat.le_of_ble_eq_true rfl⟩) (fun H locs hW => ?_)
    refine lv_iadd hx hb dX10_sends_72 ?_
    obtain ⟨σ40, hs41, hf⟩ := z_l hf
    refine z_ast B hW hg36 hg37 hs41 dX10_sends_73 (fun H locs hW => ?_)
    refine lv_iconst (v := (0 : Int32)) hx hb dX10_sends_74 (by decide) ?_
    obtain ⟨rfl, rfl⟩ := z_e2 hf
    exact z_rz (by decide) B hW dX10_sends_75 (Nat.le_of_ble_eq_true rfl) (Nat.le_of_ble_eq_true rfl)
  · replace hf := z_in hc24 hf
    refine lv_iconst (v := (1 : Int32)) hx hb dX10_sends_27 (by decide) ?_
    obtain ⟨rfl, rfl⟩ := z_e2 hf
    exact z_rz (by decide) B hW dX10_sends_28 (Nat.le_of_ble_eq_true rfl) (Nat.le_of_ble_eq_true rfl)
end GEN
