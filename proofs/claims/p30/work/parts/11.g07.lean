section GEN
variable {p : Program} {l : Launch} {e : Env} {s : State} {m : MethodId} {args : Array Value} {below : List Frame} {meth : Method} {c : Code} {D : va_G} {cA : Nat → ClassId} {bs : Nat}
set_option maxRecDepth 100000 in
def b_X2_hashed_116 (σ : zSt) (l0 : Nat) (l3 : Int64) (l5 : Int32) : Option ((Int64 × Int32) ⊕ (Int64)) :=
(if (6 : Int32) < l5 then
(zex (if z_ob σ l0 2 then (zc (z_R σ l0 3) none (fun q2 => (if z_ob σ q2 0 then (zb (f_X9_mixed σ l3 ((z_I σ q2 7).toInt64)) (fun r6 => (zb (f_X2_withLog σ l0 r6) (fun r8 => (some r8))))) else none))) else none))
else
(if z_ob σ l0 2 then (zc (z_R σ l0 3) none (fun q11 => (if z_ob σ q11 0 then (zb (f_X0_value σ q11 l5) (fun r15 => (zb (f_X9_mixed σ l3 r15.toInt64) (fun r17 => (some (.inl (r17, (l5 + (1 : Int32))))))))) else none))) else none))
set_option maxRecDepth 100000 in
def f_X2_hashed_116 (σ : zSt) (l0 : Nat) (l3 : Int64) (l5 : Int32) : Option (Int64) := zloop (fun (t : Int64 × Int32) => b_X2_hashed_116 σ l0 t.1 t.2) zN (l3, l5)
set_option maxRecDepth 20000 in
set_option maxHeartbeats 4000000 in
theorem tb_X2_hashed_116 (B : z_B p s m args meth c D cA bs RX2 cX2_hashed 7 (some .long)) {r : Int64} {o1 : (Int64 × Int32) ⊕ (Int64)} {σ : zSt} {l0 : Nat} {l3 : Int64} {l5 : Int32} (hf : b_X2_hashed_116 σ l0 l3 l5 = some o1) {H : Heap} {locs : List Loc} {ls : Array Slot} (hW : z_Ok D cA bs s σ H locs) (hl : lv_has ls 7 [(0, .ref l0), (3, .long l3), (5, .int l5)]) (hk1 : ∀ (l3 : Int64) (l5 : Int32), o1 = .inl (l3, l5) → ∀ {H : Heap} {locs : List Loc} {ls : Array Slot}, z_Ok D cA bs s σ H locs → lv_has ls 7 [(0, .ref l0), (3, .long l3), (5, .int l5)] → W p l e (zrm 4 0 0 95) s m args below meth c H locs 0 0 (MQ below (z_Ql D cA bs r σ) args s 0 0 (fun q => bs ≤ q)) (F0 m 116 ls [])) (hr1 : ∀ x, o1 = .inr x → x = r) : W p l e (zrm 4 0 0 95) s m args below meth c H locs 0 0 (MQ below (z_Ql D cA bs r σ) args s 0 0 (fun q => bs ≤ q)) (F0 m 116 ls []) := by
  have hx := B.1
  have hb := B.2.1
  have hown := B.2.2.2.1
  have hts := B.2.2.2.2.1
  unfold b_X2_hashed_116 at hf
  refine lv_iload hx hb dX2_hashed_116 (lv_at hl 2 rfl) ?_
  refine lv_bipush (v := (6 : Int32)) hx hb dX2_hashed_118 (by decide) ?_
  refine lv_icmp_gt (tgt := 144) hx hb dX2_hashed_120 (by decide) (fun hc120 => ?_) (fun hc120 => ?_)
  · replace hf := z_ip hc120 hf
    obtain ⟨w1, hf, ho9⟩ := z_x hf
    obtain rfl := hr1 _ ho9
    refine lv_lload_n hx hb dX2_hashed_144 rfl (lv_at hl 1 rfl) ?_
    refine lv_aload_n hx hb dX2_hashed_145 rfl (lv_at hl 0 rfl) ?_
    obtain ⟨hg1, hf⟩ := z_g hf
    obtain ⟨q2, hv3, hf⟩ := z_nn hf
    refine z_getN B hW (Or.inr zf_X2_34) rfl hg1 hv3 dX2_hashed_146 ?_
    obtain ⟨hg4, hf⟩ := z_g hf
    refine z_getI B hW (Or.inl zf_X2_169) rfl hg4 dX2_hashed_149 ?_
    refine lv_i2l (v := (z_I σ q2 7).toInt64) hx hb dX2_hashed_152 rfl ?_
    obtain ⟨r6, hq5, hf⟩ := z_b hf
    refine z_cl hW (z_runSN (As := [.long l3, .long (z_I σ q2 7).toInt64]) (rest := []) B hW zv_X2_156 (K_X9_mixed hq5) rfl rfl (Nat.le_of_ble_eq_true rfl) hl.1 ⟨Nat.le_of_ble_eq_true rfl, Nat.le_of_ble_eq_true rfl⟩ dX2_hashed_153 ⟨Nat.le_of_ble_eq_true rfl, Nat.le_of_ble_eq_true rfl⟩) (fun H locs hW => ?_)
    refine lv_lstore_n (lv' := [(3, .long r6), (0, .ref l0), (5, .int l5)]) hx hb dX2_hashed_156 rfl hl (by decide) rfl (fun ls hl => ?_)
    refine lv_aload_n hx hb dX2_hashed_157 rfl (lv_at hl 1 rfl) ?_
    refine lv_lload_n hx hb dX2_hashed_158 rfl (lv_at hl 0 rfl) ?_
    obtain ⟨r8, hq7, hf⟩ := z_b hf
    refine z_cl hW (z_runV (As := [.long r6]) (rest := []) B hW zv_X2_172 (K_X2_withLog hq7) hg1 rfl rfl rfl (Nat.le_of_ble_eq_true rfl) hl.1 ⟨Nat.le_of_ble_eq_true rfl, Nat.le_of_ble_eq_true rfl⟩ dX2_hashed_159 ⟨Nat.le_of_ble_eq_true rfl, Nat.le_of_ble_eq_true rfl⟩) (fun H locs hW => ?_)
    obtain rfl := z_e1 hf
    exact z_rl B hW dX2_hashed_162 (Nat.le_of_ble_eq_true rfl) (Nat.le_of_ble_eq_true rfl)
  · replace hf := z_in hc120 hf
    refine lv_lload_n hx hb dX2_hashed_123 rfl (lv_at hl 1 rfl) ?_
    refine lv_aload_n hx hb dX2_hashed_124 rfl (lv_at hl 0 rfl) ?_
    obtain ⟨hg10, hf⟩ := z_g hf
    obtain ⟨q11, hv12, hf⟩ := z_nn hf
    refine z_getN B hW (Or.inr zf_X2_34) rfl hg10 hv12 dX2_hashed_125 ?_
    refine lv_iload hx hb dX2_hashed_128 (lv_at hl 2 rfl) ?_
    obtain ⟨hg13, hf⟩ := z_g hf
    obtain ⟨r15, hq14, hf⟩ := z_b hf
    refine z_ci hW (z_runV (As := [.int l5]) (rest := [.long l3]) B hW zv_X2_167 (K_X0_value hq14) hg13 rfl rfl rfl (Nat.le_of_ble_eq_true rfl) hl.1 ⟨Nat.le_of_ble_eq_true rfl, Nat.le_of_ble_eq_true rfl⟩ dX2_hashed_130 ⟨Nat.le_of_ble_eq_true rfl, Nat.le_of_ble_eq_true rfl⟩) (fun H locs hW => ?_)
    refine lv_i2l (v := r15.toInt64) hx hb dX2_hashed_133 rfl ?_
    obtain ⟨r17, hq16, hf⟩ := z_b hf
    refine z_cl hW (z_runSN (As := [.long l3, .long r15.toInt64]) (rest := []) B hW zv_X2_156 (K_X9_mixed hq16) rfl rfl (Nat.le_of_ble_eq_true rfl) hl.1 ⟨Nat.le_of_ble_eq_true rfl, Nat.le_of_ble_eq_true rfl⟩ dX2_hashed_134 ⟨Nat.le_of_ble_eq_true rfl, Nat.le_of_ble_eq_true rfl⟩) (fun H locs hW => ?_)
    refine lv_lstore_n (lv' := [(3, .long r17), (0, .ref l0), (5, .int l5)]) hx hb dX2_hashed_137 rfl hl (by decide) rfl (fun ls hl => ?_)
    refine lv_iinc (v := (l5 + (1 : Int32))) (lv' := [(5, .int (l5 + (1 : Int32))), (3, .long r17), (0, .ref l0)]) hx hb dX2_hashed_138 hl (k := 2) rfl rfl (by decide) rfl (fun ls hl => ?_)
    refine lv_goto (tgt := 116) hx hb dX2_hashed_141 (by decide) ?_
    exact hk1 _ _ (Option.some.inj hf).symm hW (lv_sub hl [2, 1, 0] rfl)
set_option maxRecDepth 20000 in
set_option maxHeartbeats 4000000 in
theorem t_X2_hashed_116 (B : z_B p s m args meth c D cA bs RX2 cX2_hashed 7 (some .long)) {r : Int64} {σ : zSt} {l0 : Nat}  : ∀ (n : Nat) {l3 : Int64} {l5 : Int32}, zloop (fun (t : Int64 × Int32) => b_X2_hashed_116 σ l0 t.1 t.2) n (l3, l5) = some r → ∀ {H : Heap} {locs : List Loc} {ls : Array Slot}, z_Ok D cA bs s σ H locs → lv_has ls 7 [(0, .ref l0), (3, .long l3), (5, .int l5)] → W p l e (zrm 4 0 0 95) s m args below meth c H locs 0 0 (MQ below (z_Ql D cA bs r σ) args s 0 0 (fun q => bs ≤ q)) (F0 m 116 ls []) := by
  intro n
  induction n with
  | zero => intro l3 l5 hf; cases hf
  | succ n ih =>
    intro l3 l5 hf H locs ls hW hl
    obtain ⟨o1, hb1, hf⟩ := z_lp hf
    refine tb_X2_hashed_116 B hb1 hW hl  (fun l3 l5 he H locs ls hW hl => ?_) (fun x he => ?_)
    · rcases hf with ⟨t, ht, hf⟩ | hf
      · rw [he] at ht
        cases ht
        exact ih hf hW hl
      · rw [he] at hf
        cases hf
    · rcases hf with ⟨t, ht, hf⟩ | hf
      · rw [he] at ht
        cases ht
      · rw [he] at hf
        exact Sum.inr.inj hf
set_option maxRecDepth 100000 in
def b_X2_hashed_78 (σ : zSt) (l0 : Nat) (l5 : Int32) (l3 : Int64) (l6 : Int32) : Option ((Int64 × Int32) ⊕ ((Int64 × Int32) ⊕ (Int64))) :=
(if (4 : Int32) < l6 then
(zex (some (.inl (l3, (l5 + (1 : Int32))))))
else
(if z_ob σ l0 2 then (zc (z_R σ l0 1) none (fun q3 => (if z_ob σ q3 3 then (zb (f_X3_value σ q3 l5 l6) (fun r7 => (zb (f_X9_mixed σ l3 r7.toInt64) (fun r9 => (some (.inl (r9, (l6 + (1 : Int32))))))))) else none))) else none))
set_option maxRecDepth 100000 in
def f_X2_hashed_78 (σ : zSt) (l0 : Nat) (l5 : Int32) (l3 : Int64) (l6 : Int32) : Option ((Int64 × Int32) ⊕ (Int64)) := zloop (fun (t : Int64 × Int32) => b_X2_hashed_78 σ l0 l5 t.1 t.2) zN (l3, l6)
set_option maxRecDepth 20000 in
set_option maxHeartbeats 4000000 in
theorem tb_X2_hashed_78 (B : z_B p s m args meth c D cA bs RX2 cX2_hashed 7 (some .long)) {r : Int64} {o1 : (Int64 × Int32) ⊕ (Int64)} {o2 : (Int64 × Int32) ⊕ ((Int64 × Int32) ⊕ (Int64))} {σ : zSt} {l0 : Nat} {l5 : Int32} {l3 : Int64} {l6 : Int32} (hf : b_X2_hashed_78 σ l0 l5 l3 l6 = some o2) {H : Heap} {locs : List Loc} {ls : Array Slot} (hW : z_Ok D cA bs s σ H locs) (hl : lv_has ls 7 [(0, .ref l0), (3, .long l3), (5, .int l5), (6, .int l6)]) (hk1 : ∀ (l3 : Int64) (l5 : Int32), o1 = .inl (l3, l5) → ∀ {H : Heap} {locs : List Loc} {ls : Array Slot}, z_Ok D cA bs s σ H locs → lv_has ls 7 [(0, .ref l0), (3, .long l3), (5, .int l5)] → W p l e (zrm 4 0 0 95) s m args below meth c H locs 0 0 (MQ below (z_Ql D cA bs r σ) args s 0 0 (fun q => bs ≤ q)) (F0 m 63 ls [])) (hr1 : ∀ x, o1 = .inr x → x = r) (hk2 : ∀ (l3 : Int64) (l6 : Int32), o2 = .inl (l3, l6) → ∀ {H : Heap} {locs : List Loc} {ls : Array Slot}, z_Ok D cA bs s σ H locs → lv_has ls 7 [(0, .ref l0), (3, .long l3), (5, .int l5), (6, .int l6)] → W p l e (zrm 4 0 0 95) s m args below meth c H locs 0 0 (MQ below (z_Ql D cA bs r σ) args s 0 0 (fun q => bs ≤ q)) (F0 m 78 ls [])) (hr2 : ∀ x, o2 = .inr x → x = o1) : W p l e (zrm 4 0 0 95) s m args below meth c H locs 0 0 (MQ below (z_Ql D cA bs r σ) args s 0 0 (fun q => bs ≤ q)) (F0 m 78 ls []) := by
  have hx := B.1
  have hb := B.2.1
  have hown := B.2.2.2.1
  have hts := B.2.2.2.2.1
  unfold b_X2_hashed_78 at hf
  refine lv_iload hx hb dX2_hashed_78 (lv_at hl 3 rfl) ?_
  refine lv_iconst (v := (4 : Int32)) hx hb dX2_hashed_80 (by decide) ?_
  refine lv_icmp_gt (tgt := 107) hx hb dX2_hashed_81 (by decide) (fun hc81 => ?_) (fun hc81 => ?_)
  · replace hf := z_ip hc81 hf
    obtain ⟨w2, hf, ho1⟩ := z_x hf
    obtain rfl := hr2 _ ho1
    refine lv_iinc (v := (l5 + (1 : Int32))) (lv' := [(5, .int (l5 + (1 : Int32))), (0, .ref l0), (3, .long l3), (6, .int l6)]) hx hb dX2_hashed_107 hl (k := 2) rfl rfl (by decide) rfl (fun ls hl => ?_)
    refine lv_goto (tgt := 63) hx hb dX2_hashed_110 (by decide) ?_
    exact hk1 _ _ (Option.some.inj hf).symm hW (lv_sub hl [1, 2, 0] rfl)
  · replace hf := z_in hc81 hf
    refine lv_lload_n hx hb dX2_hashed_84 rfl (lv_at hl 1 rfl) ?_
    refine lv_aload_n hx hb dX2_hashed_85 rfl (lv_at hl 0 rfl) ?_
    obtain ⟨hg2, hf⟩ := z_g hf
    obtain ⟨q3, hv4, hf⟩ := z_nn hf
    refine z_getN B hW (Or.inr zf_X2_20) rfl hg2 hv4 dX2_hashed_86 ?_
    refine lv_iload hx hb dX2_hashed_89 (lv_at hl 2 rfl) ?_
    refine lv_iload hx hb dX2_hashed_91 (lv_at hl 3 rfl) ?_
    obtain ⟨hg5, hf⟩ := z_g hf
    obtain ⟨r7, hq6, hf⟩ := z_b hf
    refine z_ci hW (z_runV (As := [.int l5, .int l6]) (rest := [.long l3]) B hW zv_X2_164 (K_X3_value hq6) hg5 rfl rfl rfl (Nat.le_of_ble_eq_true rfl) hl.1 ⟨Nat.le_of_ble_eq_true rfl, Nat.le_of_ble_eq_true rfl⟩ dX2_hashed_93 ⟨Nat.le_of_ble_eq_true rfl, Nat.le_of_ble_eq_true rfl⟩) (fun H locs hW => ?_)
    refine lv_i2l (v := r7.toInt64) hx hb dX2_hashed_96 rfl ?_
    obtain ⟨r9, hq8, hf⟩ := z_b hf
    refine z_cl hW (z_runSN (As := [.long l3, .long r7.toInt64]) (rest := []) B hW zv_X2_156 (K_X9_mixed hq8) rfl rfl (Nat.le_of_ble_eq_true rfl) hl.1 ⟨Nat.le_of_ble_eq_true rfl, Nat.le_of_ble_eq_true rfl⟩ dX2_hashed_97 ⟨Nat.le_of_ble_eq_true rfl, Nat.le_of_ble_eq_true rfl⟩) (fun H locs hW => ?_)
    refine lv_lstore_n (lv' := [(3, .long r9), (0, .ref l0), (5, .int l5), (6, .int l6)]) hx hb dX2_hashed_100 rfl hl (by decide) rfl (fun ls hl => ?_)
    refine lv_iinc (v := (l6 + (1 : Int32))) (lv' := [(6, .int (l6 + (1 : Int32))), (3, .long r9), (0, .ref l0), (5, .int l5)]) hx hb dX2_hashed_101 hl (k := 3) rfl rfl (by decide) rfl (fun ls hl => ?_)
    refine lv_goto (tgt := 78) hx hb dX2_hashed_104 (by decide) ?_
    exact hk2 _ _ (Option.some.inj hf).symm hW (lv_sub hl [2, 1, 3, 0] rfl)
set_option maxRecDepth 20000 in
set_option maxHeartbeats 4000000 in
theorem t_X2_hashed_78 (B : z_B p s m args meth c D cA bs RX2 cX2_hashed 7 (some .long)) {r : Int64} {o1 : (Int64 × Int32) ⊕ (Int64)} {σ : zSt} {l0 : Nat} {l5 : Int32} (hk1 : ∀ (l3 : Int64) (l5 : Int32), o1 = .inl (l3, l5) → ∀ {H : Heap} {locs : List Loc} {ls : Array Slot}, z_Ok D cA bs s σ H locs → lv_has ls 7 [(0, .ref l0), (3, .long l3), (5, .int l5)] → W p l e (zrm 4 0 0 95) s m args below meth c H locs 0 0 (MQ below (z_Ql D cA bs r σ) args s 0 0 (fun q => bs ≤ q)) (F0 m 63 ls [])) (hr1 : ∀ x, o1 = .inr x → x = r) : ∀ (n : Nat) {l3 : Int64} {l6 : Int32}, zloop (fun (t : Int64 × Int32) => b_X2_hashed_78 σ l0 l5 t.1 t.2) n (l3, l6) = some o1 → ∀ {H : Heap} {locs : List Loc} {ls : Array Slot}, z_Ok D cA bs s σ H locs → lv_has ls 7 [(0, .ref l0), (3, .long l3), (5, .int l5), (6, .int l6)] → W p l e (zrm 4 0 0 95) s m args below meth c H locs 0 0 (MQ below (z_Ql D cA bs r σ) args s 0 0 (fun q => bs ≤ q)) (F0 m 78 ls []) := by
  intro n
  induction n with
  | zero => intro l3 l6 hf; cases hf
  | succ n ih =>
    intro l3 l6 hf H locs ls hW hl
    obtain ⟨o2, hb1, hf⟩ := z_lp hf
    refine tb_X2_hashed_78 B hb1 hW hl hk1 hr1 (fun l3 l6 he H locs ls hW hl => ?_) (fun x he => ?_)
    · rcases hf with ⟨t, ht, hf⟩ | hf
      · rw [he] at ht
        cases ht
        exact ih hf hW hl
      · rw [he] at hf
        cases hf
    · rcases hf with ⟨t, ht, hf⟩ | hf
      · rw [he] at ht
        cases ht
      · rw [he] at hf
        exact Sum.inr.inj hf
set_option maxRecDepth 100000 in
def b_X2_hashed_63 (σ : zSt) (l0 : Nat) (l3 : Int64) (l5 : Int32) : Option ((Int64 × Int32) ⊕ (Int64)) :=
(if z_ob σ l0 2 then (zc (z_R σ l0 1) none (fun q2 => (if z_ob σ q2 3 then (zb (f_X3_number σ q2) (fun r6 => (if r6 ≤ l5 then
(zex (f_X2_hashed_116 σ l0 l3 (0 : Int32)))
else
(f_X2_hashed_78 σ l0 l5 l3 (0 : Int32))))) else none))) else none)
set_option maxRecDepth 100000 in
def f_X2_hashed_63 (σ : zSt) (l0 : Nat) (l3 : Int64) (l5 : Int32) : Option (Int64) := zloop (fun (t : Int64 × Int32) => b_X2_hashed_63 σ l0 t.1 t.2) zN (l3, l5)
set_option maxRecDepth 20000 in
set_option maxHeartbeats 4000000 in
theorem tb_X2_hashed_63 (B : z_B p s m args meth c D cA bs RX2 cX2_hashed 7 (some .long)) {r : Int64} {o1 : (Int64 × Int32) ⊕ (Int64)} {σ : zSt} {l0 : Nat} {l3 : Int64} {l5 : Int32} (hf : b_X2_hashed_63 σ l0 l3 l5 = some o1) {H : Heap} {locs : List Loc} {ls : Array Slot} (hW : z_Ok D cA bs s σ H locs) (hl : lv_has ls 7 [(0, .ref l0), (3, .long l3), (5, .int l5)]) (hk1 : ∀ (l3 : Int64) (l5 : Int32), o1 = .inl (l3, l5) → ∀ {H : Heap} {locs : List Loc} {ls : Array Slot}, z_Ok D cA bs s σ H locs → lv_has ls 7 [(0, .ref l0), (3, .long l3), (5, .int l5)] → W p l e (zrm 4 0 0 95) s m args below meth c H locs 0 0 (MQ below (z_Ql D cA bs r σ) args s 0 0 (fun q => bs ≤ q)) (F0 m 63 ls [])) (hr1 : ∀ x, o1 = .inr x → x = r) : W p l e (zrm 4 0 0 95) s m args below meth c H locs 0 0 (MQ below (z_Ql D cA bs r σ) args s 0 0 (fun q => bs ≤ q)) (F0 m 63 ls []) := by
  have hx := B.1
  have hb := B.2.1
  have hown := B.2.2.2.1
  have hts := B.2.2.2.2.1
  unfold b_X2_hashed_63 at hf
  refine lv_iload hx hb dX2_hashed_63 (lv_at hl 2 rfl) ?_
  refine lv_aload_n hx hb dX2_hashed_65 rfl (lv_at hl 0 rfl) ?_
  obtain ⟨hg1, hf⟩ := z_g hf
  obtain ⟨q2, hv3, hf⟩ := z_nn hf
  refine z_getN B hW (Or.inr zf_X2_20) rfl hg1 hv3 dX2_hashed_66 ?_
  obtain ⟨hg4, hf⟩ := z_g hf
  obtain ⟨r6, hq5, hf⟩ := z_b hf
  refine z_ci hW (z_runV (As := []) (rest := [.int l5]) B hW zv_X2_150 (K_X3_number hq5) hg4 rfl rfl rfl (Nat.le_of_ble_eq_true rfl) hl.1 ⟨Nat.le_of_ble_eq_true rfl, Nat.le_of_ble_eq_true rfl⟩ dX2_hashed_69 ⟨Nat.le_of_ble_eq_true rfl, Nat.le_of_ble_eq_true rfl⟩) (fun H locs hW => ?_)
  refine lv_icmp_ge (tgt := 113) hx hb dX2_hashed_72 (by decide) (fun hc72 => ?_) (fun hc72 => ?_)
  · replace hf := z_ip hc72 hf
    obtain ⟨w1, hf, ho7⟩ := z_x hf
    obtain rfl := hr1 _ ho7
    refine lv_iconst (v := (0 : Int32)) hx hb dX2_hashed_113 (by decide) ?_
    refine lv_istore (lv' := [(5, .int (0 : Int32)), (0, .ref l0), (3, .long l3)]) hx hb dX2_hashed_114 hl (by decide) rfl (fun ls hl => ?_)
    unfold f_X2_hashed_116 at hf
    exact t_X2_hashed_116 B  zN hf hW (lv_sub hl [1, 2, 0] rfl)
  · replace hf := z_in hc72 hf
    refine lv_iconst (v := (0 : Int32)) hx hb dX2_hashed_75 (by decide) ?_
    refine lv_istore (lv' := [(6, .int (0 : Int32)), (0, .ref l0), (3, .long l3), (5, .int l5)]) hx hb dX2_hashed_76 hl (by decide) rfl (fun ls hl => ?_)
    unfold f_X2_hashed_78 at hf
    exact t_X2_hashed_78 B hk1 hr1 zN hf hW (lv_sub hl [1, 2, 3, 0] rfl)
set_option maxRecDepth 20000 in
set_option maxHeartbeats 4000000 in
theorem t_X2_hashed_63 (B : z_B p s m args meth c D cA bs RX2 cX2_hashed 7 (some .long)) {r : Int64} {σ : zSt} {l0 : Nat}  : ∀ (n : Nat) {l3 : Int64} {l5 : Int32}, zloop (fun (t : Int64 × Int32) => b_X2_hashed_63 σ l0 t.1 t.2) n (l3, l5) = some r → ∀ {H : Heap} {locs : List Loc} {ls : Array Slot}, z_Ok D cA bs s σ H locs → lv_has ls 7 [(0, .ref l0), (3, .long l3), (5, .int l5)] → W p l e (zrm 4 0 0 95) s m args below meth c H locs 0 0 (MQ below (z_Ql D cA bs r σ) args s 0 0 (fun q => bs ≤ q)) (F0 m 63 ls []) := by
  intro n
  induction n with
  | zero => intro l3 l5 hf; cases hf
  | succ n ih =>
    intro l3 l5 hf H locs ls hW hl
    obtain ⟨o1, hb1, hf⟩ := z_lp hf
    refine tb_X2_hashed_63 B hb1 hW hl  (fun l3 l5 he H locs ls hW hl => ?_) (fun x he => ?_)
    · rcases hf with ⟨t, ht, hf⟩ | hf
      · rw [he] at ht
        cases ht
        exact ih hf hW hl
      · rw [he] at hf
        cases hf
    · rcases hf with ⟨t, ht, hf⟩ | hf
      · rw [he] at ht
        cases ht
      · rw [he] at hf
        exact Sum.inr.inj hf
set_option maxRecDepth 100000 in
def b_X2_hashed_33 (σ : zSt) (l0 : Nat) (l3 : Int64) (l5 : Int32) : Option ((Int64 × Int32) ⊕ (Int64)) :=
(if z_ob σ l0 2 then (if (z_I σ l0 5) ≤ l5 then
(zex (f_X2_hashed_63 σ l0 l3 (0 : Int32)))
else
(zb (f_X2_stationIn σ l0 l5) (fun r4 => (zb (f_X2_withStation σ l0 l3 r4) (fun r6 => (some (.inl (r6, (l5 + (1 : Int32)))))))))) else none)
set_option maxRecDepth 100000 in
def f_X2_hashed_33 (σ : zSt) (l0 : Nat) (l3 : Int64) (l5 : Int32) : Option (Int64) := zloop (fun (t : Int64 × Int32) => b_X2_hashed_33 σ l0 t.1 t.2) zN (l3, l5)
set_option maxRecDepth 20000 in
set_option maxHeartbeats 4000000 in
theorem tb_X2_hashed_33 (B : z_B p s m args meth c D cA bs RX2 cX2_hashed 7 (some .long)) {r : Int64} {o1 : (Int64 × Int32) ⊕ (Int64)} {σ : zSt} {l0 : Nat} {l3 : Int64} {l5 : Int32} (hf : b_X2_hashed_33 σ l0 l3 l5 = some o1) {H : Heap} {locs : List Loc} {ls : Array Slot} (hW : z_Ok D cA bs s σ H locs) (hl : lv_has ls 7 [(0, .ref l0), (3, .long l3), (5, .int l5)]) (hk1 : ∀ (l3 : Int64) (l5 : Int32), o1 = .inl (l3, l5) → ∀ {H : Heap} {locs : List Loc} {ls : Array Slot}, z_Ok D cA bs s σ H locs → lv_has ls 7 [(0, .ref l0), (3, .long l3), (5, .int l5)] → W p l e (zrm 4 0 0 95) s m args below meth c H locs 0 0 (MQ below (z_Ql D cA bs r σ) args s 0 0 (fun q => bs ≤ q)) (F0 m 33 ls [])) (hr1 : ∀ x, o1 = .inr x → x = r) : W p l e (zrm 4 0 0 95) s m args below meth c H locs 0 0 (MQ below (z_Ql D cA bs r σ) args s 0 0 (fun q => bs ≤ q)) (F0 m 33 ls []) := by
  have hx := B.1
  have hb := B.2.1
  have hown := B.2.2.2.1
  have hts := B.2.2.2.2.1
  unfold b_X2_hashed_33 at hf
  refine lv_iload hx hb dX2_hashed_33 (lv_at hl 2 rfl) ?_
  refine lv_aload_n hx hb dX2_hashed_35 rfl (lv_at hl 0 rfl) ?_
  obtain ⟨hg1, hf⟩ := z_g hf
  refine z_getI B hW (Or.inl zf_X2_61) rfl hg1 dX2_hashed_36 ?_
  refine lv_icmp_ge (tgt := 60) hx hb dX2_hashed_39 (by decide) (fun hc39 => ?_) (fun hc39 => ?_)
  · replace hf := z_ip hc39 hf
    obtain ⟨w1, hf, ho2⟩ := z_x hf
    obtain rfl := hr1 _ ho2
    refine lv_iconst (v := (0 : Int32)) hx hb dX2_hashed_60 (by decide) ?_
    refine lv_istore (lv' := [(5, .int (0 : Int32)), (0, .ref l0), (3, .long l3)]) hx hb dX2_hashed_61 hl (by decide) rfl (fun ls hl => ?_)
    unfold f_X2_hashed_63 at hf
    exact t_X2_hashed_63 B  zN hf hW (lv_sub hl [1, 2, 0] rfl)
  · replace hf := z_in hc39 hf
    refine lv_aload_n hx hb dX2_hashed_42 rfl (lv_at hl 0 rfl) ?_
    refine lv_lload_n hx hb dX2_hashed_43 rfl (lv_at hl 1 rfl) ?_
    refine lv_aload_n hx hb dX2_hashed_44 rfl (lv_at hl 0 rfl) ?_
    refine lv_iload hx hb dX2_hashed_45 (lv_at hl 2 rfl) ?_
    obtain ⟨r4, hq3, hf⟩ := z_b hf
    refine z_cq hW (z_runV (As := [.int l5]) (rest := [.long l3, .ref l0]) B hW zv_X2_96 (K_X2_stationIn hq3) hg1 rfl rfl rfl (Nat.le_of_ble_eq_true rfl) hl.1 ⟨Nat.le_of_ble_eq_true rfl, Nat.le_of_ble_eq_true rfl⟩ dX2_hashed_47 ⟨Nat.le_of_ble_eq_true rfl, Nat.le_of_ble_eq_true rfl⟩) (fun H locs hW => ?_)
    obtain ⟨r6, hq5, hf⟩ := z_b hf
    refine z_cl hW (z_runV (As := [.long l3, va_rf r4]) (rest := []) B hW zv_X2_160 (K_X2_withStation hq5) hg1 rfl rfl rfl (Nat.le_of_ble_eq_true rfl) hl.1 ⟨Nat.le_of_ble_eq_true rfl, Nat.le_of_ble_eq_true rfl⟩ dX2_hashed_50 ⟨Nat.le_of_ble_eq_true rfl, Nat.le_of_ble_eq_true rfl⟩) (fun H locs hW => ?_)
    refine lv_lstore_n (lv' := [(3, .long r6), (0, .ref l0), (5, .int l5)]) hx hb dX2_hashed_53 rfl hl (by decide) rfl (fun ls hl => ?_)
    refine lv_iinc (v := (l5 + (1 : Int32))) (lv' := [(5, .int (l5 + (1 : Int32))), (3, .long r6), (0, .ref l0)]) hx hb dX2_hashed_54 hl (k := 2) rfl rfl (by decide) rfl (fun ls hl => ?_)
    refine lv_goto (tgt := 33) hx hb dX2_hashed_57 (by decide) ?_
    exact hk1 _ _ (Option.some.inj hf).symm hW (lv_sub hl [2, 1, 0] rfl)
set_option maxRecDepth 20000 in
set_option maxHeartbeats 4000000 in
theorem t_X2_hashed_33 (B : z_B p s m args meth c D cA bs RX2 cX2_hashed 7 (some .long)) {r : Int64} {σ : zSt} {l0 : Nat}  : ∀ (n : Nat) {l3 : Int64} {l5 : Int32}, zloop (fun (t : Int64 × Int32) => b_X2_hashed_33 σ l0 t.1 t.2) n (l3, l5) = some r → ∀ {H : Heap} {locs : List Loc} {ls : Array Slot}, z_Ok D cA bs s σ H locs → lv_has ls 7 [(0, .ref l0), (3, .long l3), (5, .int l5)] → W p l e (zrm 4 0 0 95) s m args below meth c H locs 0 0 (MQ below (z_Ql D cA bs r σ) args s 0 0 (fun q => bs ≤ q)) (F0 m 33 ls []) := by
  intro n
  induction n with
  | zero => intro l3 l5 hf; cases hf
  | succ n ih =>
    intro l3 l5 hf H locs ls hW hl
    obtain ⟨o1, hb1, hf⟩ := z_lp hf
    refine tb_X2_hashed_33 B hb1 hW hl  (fun l3 l5 he H locs ls hW hl => ?_) (fun x he => ?_)
    · rcases hf with ⟨t, ht, hf⟩ | hf
      · rw [he] at ht
        cases ht
        exact ih hf hW hl
      · rw [he] at hf
        cases hf
    · rcases hf with ⟨t, ht, hf⟩ | hf
      · rw [he] at ht
        cases ht
      · rw [he] at hf
        exact Sum.inr.inj hf
set_option maxRecDepth 100000 in
def b_X2_hashed_5 (σ : zSt) (l0 : Nat) (l3 : Int64) (l5 : Int32) : Option ((Int64 × Int32) ⊕ (Int64)) :=
(if (8 : Int32) < l5 then
(zex (f_X2_hashed_33 σ l0 l3 (0 : Int32)))
else
(if z_ob σ l0 2 then (zb (f_X2_settingValue σ l0 l5) (fun r4 => (zb (f_X9_mixed σ l3 r4.toInt64) (fun r6 => (some (.inl (r6, (l5 + (1 : Int32))))))))) else none))
set_option maxRecDepth 100000 in
def f_X2_hashed_5 (σ : zSt) (l0 : Nat) (l3 : Int64) (l5 : Int32) : Option (Int64) := zloop (fun (t : Int64 × Int32) => b_X2_hashed_5 σ l0 t.1 t.2) zN (l3, l5)
set_option maxRecDepth 20000 in
set_option maxHeartbeats 4000000 in
theorem tb_X2_hashed_5 (B : z_B p s m args meth c D cA bs RX2 cX2_hashed 7 (some .long)) {r : Int64} {o1 : (Int64 × Int32) ⊕ (Int64)} {σ : zSt} {l0 : Nat} {l3 : Int64} {l5 : Int32} (hf : b_X2_hashed_5 σ l0 l3 l5 = some o1) {H : Heap} {locs : List Loc} {ls : Array Slot} (hW : z_Ok D cA bs s σ H locs) (hl : lv_has ls 7 [(0, .ref l0), (3, .long l3), (5, .int l5)]) (hk1 : ∀ (l3 : Int64) (l5 : Int32), o1 = .inl (l3, l5) → ∀ {H : Heap} {locs : List Loc} {ls : Array Slot}, z_Ok D cA bs s σ H locs → lv_has ls 7 [(0, .ref l0), (3, .long l3), (5, .int l5)] → W p l e (zrm 4 0 0 95) s m args below meth c H locs 0 0 (MQ below (z_Ql D cA bs r σ) args s 0 0 (fun q => bs ≤ q)) (F0 m 5 ls [])) (hr1 : ∀ x, o1 = .inr x → x = r) : W p l e (zrm 4 0 0 95) s m args below meth c H locs 0 0 (MQ below (z_Ql D cA bs r σ) args s 0 0 (fun q => bs ≤ q)) (F0 m 5 ls []) := by
  have hx := B.1
  have hb := B.2.1
  have hown := B.2.2.2.1
  have hts := B.2.2.2.2.1
  unfold b_X2_hashed_5 at hf
  refine lv_iload hx hb dX2_hashed_5 (lv_at hl 2 rfl) ?_
  refine lv_bipush (v := (8 : Int32)) hx hb dX2_hashed_7 (by decide) ?_
  refine lv_icmp_gt (tgt := 30) hx hb dX2_hashed_9 (by decide) (fun hc9 => ?_) (fun hc9 => ?_)
  · replace hf := z_ip hc9 hf
    obtain ⟨w1, hf, ho1⟩ := z_x hf
    obtain rfl := hr1 _ ho1
    refine lv_iconst (v := (0 : Int32)) hx hb dX2_hashed_30 (by decide) ?_
    refine lv_istore (lv' := [(5, .int (0 : Int32)), (0, .ref l0), (3, .long l3)]) hx hb dX2_hashed_31 hl (by decide) rfl (fun ls hl => ?_)
    unfold f_X2_hashed_33 at hf
    exact t_X2_hashed_33 B  zN hf hW (lv_sub hl [1, 2, 0] rfl)
  · replace hf := z_in hc9 hf
    refine lv_lload_n hx hb dX2_hashed_12 rfl (lv_at hl 1 rfl) ?_
    refine lv_aload_n hx hb dX2_hashed_13 rfl (lv_at hl 0 rfl) ?_
    refine lv_iload hx hb dX2_hashed_14 (lv_at hl 2 rfl) ?_
    obtain ⟨hg2, hf⟩ := z_g hf
    obtain ⟨r4, hq3, hf⟩ := z_b hf
    refine z_ci hW (z_runV (As := [.int l5]) (rest := [.long l3]) B hW zv_X2_152 (K_X2_settingValue hq3) hg2 rfl rfl rfl (Nat.le_of_ble_eq_true rfl) hl.1 ⟨Nat.le_of_ble_eq_true rfl, Nat.le_of_ble_eq_true rfl⟩ dX2_hashed_16 ⟨Nat.le_of_ble_eq_true rfl, Nat.le_of_ble_eq_true rfl⟩) (fun H locs hW => ?_)
    refine lv_i2l (v := r4.toInt64) hx hb dX2_hashed_19 rfl ?_
    obtain ⟨r6, hq5, hf⟩ := z_b hf
    refine z_cl hW (z_runSN (As := [.long l3, .long r4.toInt64]) (rest := []) B hW zv_X2_156 (K_X9_mixed hq5) rfl rfl (Nat.le_of_ble_eq_true rfl) hl.1 ⟨Nat.le_of_ble_eq_true rfl, Nat.le_of_ble_eq_true rfl⟩ dX2_hashed_20 ⟨Nat.le_of_ble_eq_true rfl, Nat.le_of_ble_eq_true rfl⟩) (fun H locs hW => ?_)
    refine lv_lstore_n (lv' := [(3, .long r6), (0, .ref l0), (5, .int l5)]) hx hb dX2_hashed_23 rfl hl (by decide) rfl (fun ls hl => ?_)
    refine lv_iinc (v := (l5 + (1 : Int32))) (lv' := [(5, .int (l5 + (1 : Int32))), (3, .long r6), (0, .ref l0)]) hx hb dX2_hashed_24 hl (k := 2) rfl rfl (by decide) rfl (fun ls hl => ?_)
    refine lv_goto (tgt := 5) hx hb dX2_hashed_27 (by decide) ?_
    exact hk1 _ _ (Option.some.inj hf).symm hW (lv_sub hl [2, 1, 0] rfl)
set_option maxRecDepth 20000 in
set_option maxHeartbeats 4000000 in
theorem t_X2_hashed_5 (B : z_B p s m args meth c D cA bs RX2 cX2_hashed 7 (some .long)) {r : Int64} {σ : zSt} {l0 : Nat}  : ∀ (n : Nat) {l3 : Int64} {l5 : Int32}, zloop (fun (t : Int64 × Int32) => b_X2_hashed_5 σ l0 t.1 t.2) n (l3, l5) = some r → ∀ {H : Heap} {locs : List Loc} {ls : Array Slot}, z_Ok D cA bs s σ H locs → lv_has ls 7 [(0, .ref l0), (3, .long l3), (5, .int l5)] → W p l e (zrm 4 0 0 95) s m args below meth c H locs 0 0 (MQ below (z_Ql D cA bs r σ) args s 0 0 (fun q => bs ≤ q)) (F0 m 5 ls []) := by
  intro n
  induction n with
  | zero => intro l3 l5 hf; cases hf
  | succ n ih =>
    intro l3 l5 hf H locs ls hW hl
    obtain ⟨o1, hb1, hf⟩ := z_lp hf
    refine tb_X2_hashed_5 B hb1 hW hl  (fun l3 l5 he H locs ls hW hl => ?_) (fun x he => ?_)
    · rcases hf with ⟨t, ht, hf⟩ | hf
      · rw [he] at ht
        cases ht
        exact ih hf hW hl
      · rw [he] at hf
        cases hf
    · rcases hf with ⟨t, ht, hf⟩ | hf
      · rw [he] at ht
        cases ht
      · rw [he] at hf
        exact Sum.inr.inj hf
set_option maxRecDepth 100000 in
def f_X2_hashed (σ : zSt) (l0 : Nat) (l1 : Int64) : Option (Int64) :=
(f_X2_hashed_5 σ l0 l1 (0 : Int32))
set_option maxRecDepth 20000 in
set_option maxHeartbeats 4000000 in
theorem K_X2_hashed {σ : zSt} {l0 : Nat} {l1 : Int64} {r : Int64} (hf : f_X2_hashed σ l0 l1 = some r) : z_M l D cA bs yX2_hashed cX2_hashed 7 (some .long) 4 95 0 0 [.ref l0, .long l1] σ (z_Ql D cA bs r σ) := by
  refine z_met (own := RX2) (lv := [(0, .ref l0), (1, .long l1)]) (by decide) rfl (Nat.le_of_ble_eq_true rfl) rfl (fun p e s m below meth c ls B hnm hW hl => ?_)
  have hx := B.1
  have hb := B.2.1
  have hown := B.2.2.2.1
  have hts := B.2.2.2.2.1
  unfold f_X2_hashed at hf
  refine lv_lload_n hx hb dX2_hashed_0 rfl (lv_at hl 1 rfl) ?_
  refine lv_lstore_n (lv' := [(3, .long l1), (0, .ref l0), (1, .long l1)]) hx hb dX2_hashed_1 rfl hl (by decide) rfl (fun ls hl => ?_)
  refine lv_iconst (v := (0 : Int32)) hx hb dX2_hashed_2 (by decide) ?_
  refine lv_istore (lv' := [(5, .int (0 : Int32)), (3, .long l1), (0, .ref l0), (1, .long l1)]) hx hb dX2_hashed_3 hl (by decide) rfl (fun ls hl => ?_)
  unfold f_X2_hashed_5 at hf
  exact t_X2_hashed_5 B  zN hf hW (lv_sub hl [2, 1, 0] rfl)
set_option maxRecDepth 100000 in
def f_X3_isFull_14 (σ : zSt) (s0 : Int32) : Option (Int32) :=
(if z_bl s0 then (some s0) else none)
set_option maxRecDepth 20000 in
set_option maxHeartbeats 4000000 in
theorem t_X3_isFull_14 (B : z_B p s m args meth c D cA bs RX3 cX3_isFull 1 (some .boolean)) {r : Int32} {σ : zSt} {s0 : Int32} (hf : f_X3_isFull_14 σ s0 = some r) {H : Heap} {locs : List Loc} {ls : Array Slot} (hW : z_Ok D cA bs s σ H locs) (hl : lv_has ls 1 [])  : W p l e (zrm 0 0 0 0) s m args below meth c H locs 0 0 (MQ below (z_Qi D cA bs r σ) args s 0 0 (fun q => bs ≤ q)) (F0 m 14 ls [.int s0]) := by
  have hx := B.1
  have hb := B.2.1
  have hown := B.2.2.2.1
  have hts := B.2.2.2.2.1
  unfold f_X3_isFull_14 at hf
  obtain ⟨hg1, hf⟩ := z_g hf
  obtain rfl := z_e1 hf
  exact z_rz hg1 B hW dX3_isFull_14 (Nat.le_of_ble_eq_true rfl) (Nat.le_of_ble_eq_true rfl)
set_option maxRecDepth 100000 in
def f_X3_isFull (σ : zSt) (l0 : Nat) : Option (Int32) :=
(if z_ob σ l0 3 then (if (z_I σ l0 1) < (100 : Int32) then
(f_X3_isFull_14 σ (0 : Int32))
else
(f_X3_isFull_14 σ (1 : Int32))) else none)
set_option maxRecDepth 20000 in
set_option maxHeartbeats 4000000 in
theorem K_X3_isFull {σ : zSt} {l0 : Nat} {r : Int32} (hf : f_X3_isFull σ l0 = some r) : z_M l D cA bs yX3_isFull cX3_isFull 1 (some .boolean) 0 0 0 0 [.ref l0] σ (z_Qi D cA bs r σ) := by
  refine z_met (own := RX3) (lv := [(0, .ref l0)]) (by decide) rfl (Nat.le_of_ble_eq_true rfl) rfl (fun p e s m below meth c ls B hnm hW hl => ?_)
  have hx := B.1
  have hb := B.2.1
  have hown := B.2.2.2.1
  have hts := B.2.2.2.2.1
  unfold f_X3_isFull at hf
  refine lv_aload_n hx hb dX3_isFull_0 rfl (lv_at hl 0 rfl) ?_
  obtain ⟨hg1, hf⟩ := z_g hf
  refine z_getI B hW (Or.inl zf_X3_20) rfl hg1 dX3_isFull_1 ?_
  refine lv_bipush (v := (100 : Int32)) hx hb dX3_isFull_4 (by decide) ?_
  refine lv_icmp_lt (tgt := 13) hx hb dX3_isFull_6 (by decide) (fun hc6 => ?_) (fun hc6 => ?_)
  · replace hf := z_ip hc6 hf
    refine lv_iconst (v := (0 : Int32)) hx hb dX3_isFull_13 (by decide) ?_
    exact t_X3_isFull_14 B hf hW (lv_sub hl [] rfl) 
  · replace hf := z_in hc6 hf
    refine lv_iconst (v := (1 : Int32)) hx hb dX3_isFull_9 (by decide) ?_
    refine lv_goto (tgt := 14) hx hb dX3_isFull_10 (by decide) ?_
    exact t_X3_isFull_14 B hf hW (lv_sub hl [] rfl) 
set_option maxRecDepth 100000 in
def f_X3_has_17 (σ : zSt) (s0 : Int32) : Option (Int32) :=
(if z_bl s0 then (some s0) else none)
set_option maxRecDepth 20000 in
set_option maxHeartbeats 4000000 in
theorem t_X3_has_17 (B : z_B p s m args meth c D cA bs RX3 cX3_has 2 (some .boolean)) {r : Int32} {σ : zSt} {s0 : Int32} (hf : f_X3_has_17 σ s0 = some r) {H : Heap} {locs : List Loc} {ls : Array Slot} (hW : z_Ok D cA bs s σ H locs) (hl : lv_has ls 2 [])  : W p l e (zrm 0 0 0 0) s m args below meth c H locs 0 0 (MQ below (z_Qi D cA bs r σ) args s 0 0 (fun q => bs ≤ q)) (F0 m 17 ls [.int s0]) := by
  have hx := B.1
  have hb := B.2.1
  have hown := B.2.2.2.1
  have hts := B.2.2.2.2.1
  unfold f_X3_has_17 at hf
  obtain ⟨hg1, hf⟩ := z_g hf
  obtain rfl := z_e1 hf
  exact z_rz hg1 B hW dX3_has_17 (Nat.le_of_ble_eq_true rfl) (Nat.le_of_ble_eq_true rfl)
set_option maxRecDepth 100000 in
def f_X3_has_16 (σ : zSt) : Option (Int32) :=
(f_X3_has_17 σ (0 : Int32))
set_option maxRecDepth 20000 in
set_option maxHeartbeats 4000000 in
theorem t_X3_has_16 (B : z_B p s m args meth c D cA bs RX3 cX3_has 2 (some .boolean)) {r : Int32} {σ : zSt} (hf : f_X3_has_16 σ = some r) {H : Heap} {locs : List Loc} {ls : Array Slot} (hW : z_Ok D cA bs s σ H locs) (hl : lv_has ls 2 [])  : W p l e (zrm 0 0 0 0) s m args below meth c H locs 0 0 (MQ below (z_Qi D cA bs r σ) args s 0 0 (fun q => bs ≤ q)) (F0 m 16 ls []) := by
  have hx := B.1
  have hb := B.2.1
  have hown := B.2.2.2.1
  have hts := B.2.2.2.2.1
  unfold f_X3_has_16 at hf
  refine lv_iconst (v := (0 : Int32)) hx hb dX3_has_16 (by decide) ?_
  exact t_X3_has_17 B hf hW hl 
set_option maxRecDepth 100000 in
def f_X3_has (σ : zSt) (l0 : Nat) (l1 : Int32) : Option (Int32) :=
(if l1 < 0 then
(f_X3_has_16 σ)
else
(if z_ob σ l0 3 then (if (z_I σ l0 1) ≤ l1 then
(f_X3_has_16 σ)
else
(f_X3_has_17 σ (1 : Int32))) else none))
set_option maxRecDepth 20000 in
set_option maxHeartbeats 4000000 in
theorem K_X3_has {σ : zSt} {l0 : Nat} {l1 : Int32} {r : Int32} (hf : f_X3_has σ l0 l1 = some r) : z_M l D cA bs yX3_has cX3_has 2 (some .boolean) 0 0 0 0 [.ref l0, .int l1] σ (z_Qi D cA bs r σ) := by
  refine z_met (own := RX3) (lv := [(0, .ref l0), (1, .int l1)]) (by decide) rfl (Nat.le_of_ble_eq_true rfl) rfl (fun p e s m below meth c ls B hnm hW hl => ?_)
  have hx := B.1
  have hb := B.2.1
  have hown := B.2.2.2.1
  have hts := B.2.2.2.2.1
  unfold f_X3_has at hf
  refine lv_iload_n hx hb dX3_has_0 rfl (lv_at hl 1 rfl) ?_
  refine lv_if_lt (tgt := 16) hx hb dX3_has_1 (by decide) (fun hc1 => ?_) (fun hc1 => ?_)
  · replace hf := z_ip hc1 hf
    exact t_X3_has_16 B hf hW (lv_sub hl [] rfl) 
  · replace hf := z_in hc1 hf
    refine lv_iload_n hx hb dX3_has_4 rfl (lv_at hl 1 rfl) ?_
    refine lv_aload_n hx hb dX3_has_5 rfl (lv_at hl 0 rfl) ?_
    obtain ⟨hg1, hf⟩ := z_g hf
    refine z_getI B hW (Or.inl zf_X3_20) rfl hg1 dX3_has_6 ?_
    refine lv_icmp_ge (tgt := 16) hx hb dX3_has_9 (by decide) (fun hc9 => ?_) (fun hc9 => ?_)
    · replace hf := z_ip hc9 hf
      exact t_X3_has_16 B hf hW (lv_sub hl [] rfl) 
    · replace hf := z_in hc9 hf
      refine lv_iconst (v := (1 : Int32)) hx hb dX3_has_12 (by decide) ?_
      refine lv_goto (tgt := 17) hx hb dX3_has_13 (by decide) ?_
      exact t_X3_has_17 B hf hW (lv_sub hl [] rfl) 
set_option maxRecDepth 100000 in
def f_X3_isUrgent_26 (σ : zSt) (s0 : Int32) : Option (Int32) :=
(if z_bl s0 then (some s0) else none)
set_option maxRecDepth 20000 in
set_option maxHeartbeats 4000000 in
theorem t_X3_isUrgent_26 (B : z_B p s m args meth c D cA bs RX3 cX3_isUrgent 2 (some .boolean)) {r : Int32} {σ : zSt} {s0 : Int32} (hf : f_X3_isUrgent_26 σ s0 = some r) {H : Heap} {locs : List Loc} {ls : Array Slot} (hW : z_Ok D cA bs s σ H locs) (hl : lv_has ls 2 [])  : W p l e (zrm 1 0 0 23) s m args below meth c H locs 0 0 (MQ below (z_Qi D cA bs r σ) args s 0 0 (fun q => bs ≤ q)) (F0 m 26 ls [.int s0]) := by
  have hx := B.1
  have hb := B.2.1
  have hown := B.2.2.2.1
  have hts := B.2.2.2.2.1
  unfold f_X3_isUrgent_26 at hf
  obtain ⟨hg1, hf⟩ := z_g hf
  obtain rfl := z_e1 hf
  exact z_rz hg1 B hW dX3_isUrgent_26 (Nat.le_of_ble_eq_true rfl) (Nat.le_of_ble_eq_true rfl)
set_option maxRecDepth 100000 in
def f_X3_isUrgent_25 (σ : zSt) : Option (Int32) :=
(f_X3_isUrgent_26 σ (0 : Int32))
set_option maxRecDepth 20000 in
set_option maxHeartbeats 4000000 in
theorem t_X3_isUrgent_25 (B : z_B p s m args meth c D cA bs RX3 cX3_isUrgent 2 (some .boolean)) {r : Int32} {σ : zSt} (hf : f_X3_isUrgent_25 σ = some r) {H : Heap} {locs : List Loc} {ls : Array Slot} (hW : z_Ok D cA bs s σ H locs) (hl : lv_has ls 2 [])  : W p l e (zrm 1 0 0 23) s m args below meth c H locs 0 0 (MQ below (z_Qi D cA bs r σ) args s 0 0 (fun q => bs ≤ q)) (F0 m 25 ls []) := by
  have hx := B.1
  have hb := B.2.1
  have hown := B.2.2.2.1
  have hts := B.2.2.2.2.1
  unfold f_X3_isUrgent_25 at hf
  refine lv_iconst (v := (0 : Int32)) hx hb dX3_isUrgent_25 (by decide) ?_
  exact t_X3_isUrgent_26 B hf hW hl 
set_option maxRecDepth 100000 in
def f_X3_isUrgent (σ : zSt) (l0 : Nat) (l1 : Int32) : Option (Int32) :=
(if z_ob σ l0 3 then (zb (f_X3_has σ l0 l1) (fun r3 => (if r3 = 0 then
(f_X3_isUrgent_25 σ)
else
(zc (z_R σ l0 0) none (fun q4 => (if z_ob σ q4 7 then (zb (f_X7_at σ q4 l1 (1 : Int32)) (fun r8 => (if r8 < (5 : Int32) then
(f_X3_isUrgent_25 σ)
else
(f_X3_isUrgent_26 σ (1 : Int32))))) else none)))))) else none)
set_option maxRecDepth 20000 in
set_option maxHeartbeats 4000000 in
theorem K_X3_isUrgent {σ : zSt} {l0 : Nat} {l1 : Int32} {r : Int32} (hf : f_X3_isUrgent σ l0 l1 = some r) : z_M l D cA bs yX3_isUrgent cX3_isUrgent 2 (some .boolean) 1 23 0 0 [.ref l0, .int l1] σ (z_Qi D cA bs r σ) := by
  refine z_met (own := RX3) (lv := [(0, .ref l0), (1, .int l1)]) (by decide) rfl (Nat.le_of_ble_eq_true rfl) rfl (fun p e s m below meth c ls B hnm hW hl => ?_)
  have hx := B.1
  have hb := B.2.1
  have hown := B.2.2.2.1
  have hts := B.2.2.2.2.1
  unfold f_X3_isUrgent at hf
  refine lv_aload_n hx hb dX3_isUrgent_0 rfl (lv_at hl 0 rfl) ?_
  refine lv_iload_n hx hb dX3_isUrgent_1 rfl (lv_at hl 1 rfl) ?_
  obtain ⟨hg1, hf⟩ := z_g hf
  obtain ⟨r3, hq2, hf⟩ := z_b hf
  refine z_ci hW (z_runV (As := [.int l1]) (rest := []) B hW zv_X3_28 (K_X3_has hq2) hg1 rfl rfl rfl (Nat.le_of_ble_eq_true rfl) hl.1 ⟨Nat.le_of_ble_eq_true rfl, Nat.le_of_ble_eq_true rfl⟩ dX3_isUrgent_2 ⟨Nat.le_of_ble_eq_true rfl, Nat.le_of_ble_eq_true rfl⟩) (fun H locs hW => ?_)
  refine lv_if_eq (tgt := 25) hx hb dX3_isUrgent_5 (by decide) (fun hc5 => ?_) (fun hc5 => ?_)
  · replace hf := z_ip hc5 hf
    exact t_X3_isUrgent_25 B hf hW (lv_sub hl [] rfl) 
  · replace hf := z_in hc5 hf
    refine lv_aload_n hx hb dX3_isUrgent_8 rfl (lv_at hl 0 rfl) ?_
    obtain ⟨q4, hv5, hf⟩ := z_nn hf
    refine z_getN B hW (Or.inr zf_X3_16) rfl hg1 hv5 dX3_isUrgent_9 ?_
    refine lv_iload_n hx hb dX3_isUrgent_12 rfl (lv_at hl 1 rfl) ?_
    refine lv_iconst (v := (1 : Int32)) hx hb dX3_isUrgent_13 (by decide) ?_
    obtain ⟨hg6, hf⟩ := z_g hf
    obtain ⟨r8, hq7, hf⟩ := z_b hf
    refine z_ci hW (z_runV (As := [.int l1, .int (1 : Int32)]) (rest := []) B hW zv_X3_24 (K_X7_at hq7) hg6 rfl rfl rfl (Nat.le_of_ble_eq_true rfl) hl.1 ⟨Nat.le_of_ble_eq_true rfl, Nat.le_of_ble_eq_true rfl⟩ dX3_isUrgent_14 ⟨Nat.le_of_ble_eq_true rfl, Nat.le_of_ble_eq_true rfl⟩) (fun H locs hW => ?_)
    refine lv_iconst (v := (5 : Int32)) hx hb dX3_isUrgent_17 (by decide) ?_
    refine lv_icmp_lt (tgt := 25) hx hb dX3_isUrgent_18 (by decide) (fun hc18 => ?_) (fun hc18 => ?_)
    · replace hf := z_ip hc18 hf
      exact t_X3_isUrgent_25 B hf hW (lv_sub hl [] rfl) 
    · replace hf := z_in hc18 hf
      refine lv_iconst (v := (1 : Int32)) hx hb dX3_isUrgent_21 (by decide) ?_
      refine lv_goto (tgt := 26) hx hb dX3_isUrgent_22 (by decide) ?_
      exact t_X3_isUrgent_26 B hf hW (lv_sub hl [] rfl) 
set_option maxRecDepth 100000 in
def f_X3_enqueue_96 (σ : zSt) (l1 : Nat) : Option (zSt) :=
(if z_ob σ l1 6 then (zl (z_pI σ l1 6 ((z_I σ l1 6) + (1 : Int32))) (fun σ2 => (some σ2))) else none)
set_option maxRecDepth 20000 in
set_option maxHeartbeats 4000000 in
theorem t_X3_enqueue_96 (B : z_B p s m args meth c D cA bs RX3 cX3_enqueue 7 none)  {σ' : zSt} {σ : zSt} {l1 : Nat} (hf : f_X3_enqueue_96 σ l1 = some σ') {H : Heap} {locs : List Loc} {ls : Array Slot} (hW : z_Ok D cA bs s σ H locs) (hl : lv_has ls 7 [(1, .ref l1)])  : W p l e (zrm 1 0 0 24) s m args below meth c H locs 0 0 (MQ below (z_Qv D cA bs σ') args s 0 0 (fun q => bs ≤ q)) (F0 m 96 ls []) := by
  have hx := B.1
  have hb := B.2.1
  have hown := B.2.2.2.1
  have hts := B.2.2.2.2.1
  unfold f_X3_enqueue_96 at hf
  refine lv_aload_n hx hb dX3_enqueue_96 rfl (lv_at hl 0 rfl) ?_
  refine lv_dup hx hb dX3_enqueue_97 rfl ?_
  obtain ⟨hg1, hf⟩ := z_g hf
  refine z_getI B hW (Or.inl zf_X3_52) rfl hg1 dX3_enqueue_98 ?_
  refine lv_iconst (v := (1 : Int32)) hx hb dX3_enqueue_101 (by decide) ?_
  refine lv_iadd hx hb dX3_enqueue_102 ?_
  obtain ⟨σ2, hs3, hf⟩ := z_l hf
  refine z_putI B hW zf_X3_52 hg1 rfl hs3 dX3_enqueue_103 (fun H locs hW => ?_)
  obtain rfl := z_e1 hf
  exact z_rv B hW dX3_enqueue_106 (Nat.le_of_ble_eq_true rfl) (Nat.le_of_ble_eq_true rfl)
set_option maxRecDepth 100000 in
def f_X3_enqueue_60 (σ : zSt) (l0 : Nat) (l1 : Nat) (l2 : Int32) (l4 : Int32) (l5 : Int32) : Option (zSt) :=
(if z_ob σ l0 3 then (zc (z_R σ l0 0) none (fun q2 => (if z_ob σ q2 7 then (zb (f_X7_put σ q2 l2 (5 : Int32) l5) (fun σ6 => (if l4 = (-1 : Int32) then
(if z_ob σ6 l1 6 then (zl (z_pI σ6 l1 5 l2) (fun σ14 => (f_X3_enqueue_96 σ14 l1))) else none)
else
(if z_ob σ6 l0 3 then (zc (z_R σ6 l0 0) none (fun q8 => (if z_ob σ6 q8 7 then (zb (f_X7_put σ6 q8 l4 (5 : Int32) l2) (fun σ12 => (f_X3_enqueue_96 σ12 l1))) else none))) else none)))) else none))) else none)
set_option maxRecDepth 20000 in
set_option maxHeartbeats 4000000 in
theorem t_X3_enqueue_60 (B : z_B p s m args meth c D cA bs RX3 cX3_enqueue 7 none)  {σ' : zSt} {σ : zSt} {l0 : Nat} {l1 : Nat} {l2 : Int32} {l4 : Int32} {l5 : Int32} (hf : f_X3_enqueue_60 σ l0 l1 l2 l4 l5 = some σ') {H : Heap} {locs : List Loc} {ls : Array Slot} (hW : z_Ok D cA bs s σ H locs) (hl : lv_has ls 7 [(0, .ref l0), (1, .ref l1), (2, .int l2), (4, .int l4), (5, .int l5)])  : W p l e (zrm 1 0 0 24) s m args below meth c H locs 0 0 (MQ below (z_Qv D cA bs σ') args s 0 0 (fun q => bs ≤ q)) (F0 m 60 ls []) := by
  have hx := B.1
  have hb := B.2.1
  have hown := B.2.2.2.1
  have hts := B.2.2.2.2.1
  unfold f_X3_enqueue_60 at hf
  refine lv_aload_n hx hb dX3_enqueue_60 rfl (lv_at hl 0 rfl) ?_
  obtain ⟨hg1, hf⟩ := z_g hf
  obtain ⟨q2, hv3, hf⟩ := z_nn hf
  refine z_getN B hW (Or.inr zf_X3_16) rfl hg1 hv3 dX3_enqueue_61 ?_
  refine lv_iload_n hx hb dX3_enqueue_64 rfl (lv_at hl 2 rfl) ?_
  refine lv_iconst (v := (5 : Int32)) hx hb dX3_enqueue_65 (by decide) ?_
  refine lv_iload hx hb dX3_enqueue_66 (lv_at hl 4 rfl) ?_
  obtain ⟨hg4, hf⟩ := z_g hf
  obtain ⟨σ6, hq5, hf⟩ := z_b hf
  refine z_cv hW (z_runV (As := [.int l2, .int (5 : Int32), .int l5]) (rest := []) B hW zv_X3_36 (K_X7_put hq5) hg4 rfl rfl rfl (Nat.le_of_ble_eq_true rfl) hl.1 ⟨Nat.le_of_ble_eq_true rfl, Nat.le_of_ble_eq_true rfl⟩ dX3_enqueue_68 ⟨Nat.le_of_ble_eq_true rfl, Nat.le_of_ble_eq_true rfl⟩) (fun H locs hW => ?_)
  refine lv_iload hx hb dX3_enqueue_71 (lv_at hl 3 rfl) ?_
  refine lv_iconst (v := (-1 : Int32)) hx hb dX3_enqueue_73 (by decide) ?_
  refine lv_icmp_ne (tgt := 85) hx hb dX3_enqueue_74 (by decide) (fun hc74 => ?_) (fun hc74 => ?_)
  · replace hf := z_in hc74 hf
    refine lv_aload_n hx hb dX3_enqueue_85 rfl (lv_at hl 0 rfl) ?_
    obtain ⟨hg7, hf⟩ := z_g hf
    obtain ⟨q8, hv9, hf⟩ := z_nn hf
    refine z_getN B hW (Or.inr zf_X3_16) rfl hg7 hv9 dX3_enqueue_86 ?_
    refine lv_iload hx hb dX3_enqueue_89 (lv_at hl 3 rfl) ?_
    refine lv_iconst (v := (5 : Int32)) hx hb dX3_enqueue_91 (by decide) ?_
    refine lv_iload_n hx hb dX3_enqueue_92 rfl (lv_at hl 2 rfl) ?_
    obtain ⟨hg10, hf⟩ := z_g hf
    obtain ⟨σ12, hq11, hf⟩ := z_b hf
    refine z_cv hW (z_runV (As := [.int l4, .int (5 : Int32), .int l2]) (rest := []) B hW zv_X3_36 (K_X7_put hq11) hg10 rfl rfl rfl (Nat.le_of_ble_eq_true rfl) hl.1 ⟨Nat.le_of_ble_eq_true rfl, Nat.le_of_ble_eq_true rfl⟩ dX3_enqueue_93 ⟨Nat.le_of_ble_eq_true rfl, Nat.le_of_ble_eq_true rfl⟩) (fun H locs hW => ?_)
    exact t_X3_enqueue_96 B hf hW (lv_sub hl [1] rfl) 
  · replace hf := z_ip hc74 hf
    refine lv_aload_n hx hb dX3_enqueue_77 rfl (lv_at hl 1 rfl) ?_
    refine lv_iload_n hx hb dX3_enqueue_78 rfl (lv_at hl 2 rfl) ?_
    obtain ⟨hg13, hf⟩ := z_g hf
    obtain ⟨σ14, hs15, hf⟩ := z_l hf
    refine z_putI B hW zf_X3_49 hg13 rfl hs15 dX3_enqueue_79 (fun H locs hW => ?_)
    refine lv_goto (tgt := 96) hx hb dX3_enqueue_82 (by decide) ?_
    exact t_X3_enqueue_96 B hf hW (lv_sub hl [1] rfl) 
set_option maxRecDepth 100000 in
def b_X3_enqueue_12 (σ : zSt) (l0 : Nat) (l1 : Nat) (l2 : Int32) (l3 : Int32) (l4 : Int32) (l5 : Int32) (l6 : Int32) : Option ((Int32 × Int32 × Int32) ⊕ (zSt)) :=
(if z_ob σ l1 6 then (if (z_I σ l1 6) ≤ l6 then
(zex (f_X3_enqueue_60 σ l0 l1 l2 l4 l5))
else
(if z_ob σ l0 3 then (zc (z_R σ l0 0) none (fun q4 => (if z_ob σ q4 7 then (zb (f_X7_at σ q4 l5 (1 : Int32)) (fun r8 => (if l3 ≤ r8 then
(zc (z_R σ l0 0) none (fun q9 => (if z_ob σ q9 7 then (zb (f_X7_at σ q9 l5 (5 : Int32)) (fun r13 => (some (.inl (l5, r13, (l6 + (1 : Int32))))))) else none)))
else
(zex (f_X3_enqueue_60 σ l0 l1 l2 l4 l5))))) else none))) else none)) else none)
set_option maxRecDepth 100000 in
def f_X3_enqueue_12 (σ : zSt) (l0 : Nat) (l1 : Nat) (l2 : Int32) (l3 : Int32) (l4 : Int32) (l5 : Int32) (l6 : Int32) : Option (zSt) := zloop (fun (t : Int32 × Int32 × Int32) => b_X3_enqueue_12 σ l0 l1 l2 l3 t.1 t.2.1 t.2.2) zN (l4, l5, l6)
set_option maxRecDepth 20000 in
set_option maxHeartbeats 4000000 in
theorem tb_X3_enqueue_12 (B : z_B p s m args meth c D cA bs RX3 cX3_enqueue 7 none)  {σ' : zSt} {o1 : (Int32 × Int32 × Int32) ⊕ (zSt)} {σ : zSt} {l0 : Nat} {l1 : Nat} {l2 : Int32} {l3 : Int32} {l4 : Int32} {l5 : Int32} {l6 : Int32} (hf : b_X3_enqueue_12 σ l0 l1 l2 l3 l4 l5 l6 = some o1) {H : Heap} {locs : List Loc} {ls : Array Slot} (hW : z_Ok D cA bs s σ H locs) (hl : lv_has ls 7 [(0, .ref l0), (1, .ref l1), (2, .int l2), (3, .int l3), (4, .int l4), (5, .int l5), (6, .int l6)]) (hk1 : ∀ (l4 : Int32) (l5 : Int32) (l6 : Int32), o1 = .inl (l4, l5, l6) → ∀ {H : Heap} {locs : List Loc} {ls : Array Slot}, z_Ok D cA bs s σ H locs → lv_has ls 7 [(0, .ref l0), (1, .ref l1), (2, .int l2), (3, .int l3), (4, .int l4), (5, .int l5), (6, .int l6)] → W p l e (zrm 1 0 0 24) s m args below meth c H locs 0 0 (MQ below (z_Qv D cA bs σ') args s 0 0 (fun q => bs ≤ q)) (F0 m 12 ls [])) (hr1 : ∀ x, o1 = .inr x → x = σ') : W p l e (zrm 1 0 0 24) s m args below meth c H locs 0 0 (MQ below (z_Qv D cA bs σ') args s 0 0 (fun q => bs ≤ q)) (F0 m 12 ls []) := by
  have hx := B.1
  have hb := B.2.1
  have hown := B.2.2.2.1
  have hts := B.2.2.2.2.1
  unfold b_X3_enqueue_12 at hf
  refine lv_iload hx hb dX3_enqueue_12 (lv_at hl 6 rfl) ?_
  refine lv_aload_n hx hb dX3_enqueue_14 rfl (lv_at hl 1 rfl) ?_
  obtain ⟨hg1, hf⟩ := z_g hf
  refine z_getI B hW (Or.inl zf_X3_52) rfl hg1 dX3_enqueue_15 ?_
  refine lv_icmp_ge (tgt := 60) hx hb dX3_enqueue_18 (by decide) (fun hc18 => ?_) (fun hc18 => ?_)
  · replace hf := z_ip hc18 hf
    obtain ⟨w1, hf, ho2⟩ := z_x hf
    obtain rfl := hr1 _ ho2
    exact t_X3_enqueue_60 B hf hW (lv_sub hl [0, 1, 2, 4, 5] rfl) 
  · replace hf := z_in hc18 hf
    refine lv_aload_n hx hb dX3_enqueue_21 rfl (lv_at hl 0 rfl) ?_
    obtain ⟨hg3, hf⟩ := z_g hf
    obtain ⟨q4, hv5, hf⟩ := z_nn hf
    refine z_getN B hW (Or.inr zf_X3_16) rfl hg3 hv5 dX3_enqueue_22 ?_
    refine lv_iload hx hb dX3_enqueue_25 (lv_at hl 5 rfl) ?_
    refine lv_iconst (v := (1 : Int32)) hx hb dX3_enqueue_27 (by decide) ?_
    obtain ⟨hg6, hf⟩ := z_g hf
    obtain ⟨r8, hq7, hf⟩ := z_b hf
    refine z_ci hW (z_runV (As := [.int l5, .int (1 : Int32)]) (rest := []) B hW zv_X3_24 (K_X7_at hq7) hg6 rfl rfl rfl (Nat.le_of_ble_eq_true rfl) hl.1 ⟨Nat.le_of_ble_eq_true rfl, Nat.le_of_ble_eq_true rfl⟩ dX3_enqueue_28 ⟨Nat.le_of_ble_eq_true rfl, Nat.le_of_ble_eq_true rfl⟩) (fun H locs hW => ?_)
    refine lv_iload_n hx hb dX3_enqueue_31 rfl (lv_at hl 3 rfl) ?_
    refine lv_icmp_ge (tgt := 38) hx hb dX3_enqueue_32 (by decide) (fun hc32 => ?_) (fun hc32 => ?_)
    · replace hf := z_ip hc32 hf
      refine lv_iload hx hb dX3_enqueue_38 (lv_at hl 5 rfl) ?_
      refine lv_istore (lv' := [(4, .int l5), (0, .ref l0), (1, .ref l1), (2, .int l2), (3, .int l3), (5, .int l5), (6, .int l6)]) hx hb dX3_enqueue_40 hl (by decide) rfl (fun ls hl => ?_)
      refine lv_aload_n hx hb dX3_enqueue_42 rfl (lv_at hl 1 rfl) ?_
      obtain ⟨q9, hv10, hf⟩ := z_nn hf
      refine z_getN B hW (Or.inr zf_X3_16) rfl hg3 hv10 dX3_enqueue_43 ?_
      refine lv_iload hx hb dX3_enqueue_46 (lv_at hl 5 rfl) ?_
      refine lv_iconst (v := (5 : Int32)) hx hb dX3_enqueue_48 (by decide) ?_
      obtain ⟨hg11, hf⟩ := z_g hf
      obtain ⟨r13, hq12, hf⟩ := z_b hf
      refine z_ci hW (z_runV (As := [.int l5, .int (5 : Int32)]) (rest := []) B hW zv_X3_24 (K_X7_at hq12) hg11 rfl rfl rfl (Nat.le_of_ble_eq_true rfl) hl.1 ⟨Nat.le_of_ble_eq_true rfl, Nat.le_of_ble_eq_true rfl⟩ dX3_enqueue_49 ⟨Nat.le_of_ble_eq_true rfl, Nat.le_of_ble_eq_true rfl⟩) (fun H locs hW => ?_)
      refine lv_istore (lv' := [(5, .int r13), (4, .int l5), (0, .ref l0), (1, .ref l1), (2, .int l2), (3, .int l3), (6, .int l6)]) hx hb dX3_enqueue_52 hl (by decide) rfl (fun ls hl => ?_)
      refine lv_iinc (v := (l6 + (1 : Int32))) (lv' := [(6, .int (l6 + (1 : Int32))), (5, .int r13), (4, .int l5), (0, .ref l0), (1, .ref l1), (2, .int l2), (3, .int l3)]) hx hb dX3_enqueue_54 hl (k := 6) rfl rfl (by decide) rfl (fun ls hl => ?_)
      refine lv_goto (tgt := 12) hx hb dX3_enqueue_57 (by decide) ?_
      exact hk1 _ _ _ (Option.some.inj hf).symm hW (lv_sub hl [3, 4, 5, 6, 2, 1, 0] rfl)
    · replace hf := z_in hc32 hf
      obtain ⟨w1, hf, ho14⟩ := z_x hf
      obtain rfl := hr1 _ ho14
      refine lv_goto (tgt := 60) hx hb dX3_enqueue_35 (by decide) ?_
      exact t_X3_enqueue_60 B hf hW (lv_sub hl [0, 1, 2, 4, 5] rfl) 
set_option maxRecDepth 20000 in
set_option maxHeartbeats 4000000 in
theorem t_X3_enqueue_12 (B : z_B p s m args meth c D cA bs RX3 cX3_enqueue 7 none)  {σ' : zSt} {σ : zSt} {l0 : Nat} {l1 : Nat} {l2 : Int32} {l3 : Int32}  : ∀ (n : Nat) {l4 : Int32} {l5 : Int32} {l6 : Int32}, zloop (fun (t : Int32 × Int32 × Int32) => b_X3_enqueue_12 σ l0 l1 l2 l3 t.1 t.2.1 t.2.2) n (l4, l5, l6) = some σ' → ∀ {H : Heap} {locs : List Loc} {ls : Array Slot}, z_Ok D cA bs s σ H locs → lv_has ls 7 [(0, .ref l0), (1, .ref l1), (2, .int l2), (3, .int l3), (4, .int l4), (5, .int l5), (6, .int l6)] → W p l e (zrm 1 0 0 24) s m args below meth c H locs 0 0 (MQ below (z_Qv D cA bs σ') args s 0 0 (fun q => bs ≤ q)) (F0 m 12 ls []) := by
  intro n
  induction n with
  | zero => intro l4 l5 l6 hf; cases hf
  | succ n ih =>
    intro l4 l5 l6 hf H locs ls hW hl
    obtain ⟨o1, hb1, hf⟩ := z_lp hf
    refine tb_X3_enqueue_12 B hb1 hW hl  (fun l4 l5 l6 he H locs ls hW hl => ?_) (fun x he => ?_)
    · rcases hf with ⟨t, ht, hf⟩ | hf
      · rw [he] at ht
        cases ht
        exact ih hf hW hl
      · rw [he] at hf
        cases hf
    · rcases hf with ⟨t, ht, hf⟩ | hf
      · rw [he] at ht
        cases ht
      · rw [he] at hf
        exact Sum.inr.inj hf
set_option maxRecDepth 100000 in
def f_X3_enqueue (σ : zSt) (l0 : Nat) (l1 : Nat) (l2 : Int32) (l3 : Int32) : Option (zSt) :=
(if z_ob σ l1 6 then (zl (z_I σ l1 5) (fun x2 => (f_X3_enqueue_12 σ l0 l1 l2 l3 (-1 : Int32) x2 (0 : Int32)))) else none)
set_option maxRecDepth 20000 in
set_option maxHeartbeats 4000000 in
theorem K_X3_enqueue {σ : zSt} {l0 : Nat} {l1 : Nat} {l2 : Int32} {l3 : Int32}  {σ' : zSt} (hf : f_X3_enqueue σ l0 l1 l2 l3 = some σ') : z_M l D cA bs yX3_enqueue cX3_enqueue 7 none 1 24 0 0 [.ref l0, .ref l1, .int l2, .int l3] σ (z_Qv D cA bs σ') := by
  refine z_met (own := RX3) (lv := [(0, .ref l0), (1, .ref l1), (2, .int l2), (3, .int l3)]) (by decide) rfl (Nat.le_of_ble_eq_true rfl) rfl (fun p e s m below meth c ls B hnm hW hl => ?_)
  have hx := B.1
  have hb := B.2.1
  have hown := B.2.2.2.1
  have hts := B.2.2.2.2.1
  unfold f_X3_enqueue at hf
  refine lv_iconst (v := (-1 : Int32)) hx hb dX3_enqueue_0 (by decide) ?_
  refine lv_istore (lv' := [(4, .int (-1 : Int32)), (0, .ref l0), (1, .ref l1), (2, .int l2), (3, .int l3)]) hx hb dX3_enqueue_1 hl (by decide) rfl (fun ls hl => ?_)
  refine lv_aload_n hx hb dX3_enqueue_3 rfl (lv_at hl 2 rfl) ?_
  obtain ⟨hg1, hf⟩ := z_g hf
  refine z_getI B hW (Or.inl zf_X3_49) rfl hg1 dX3_enqueue_4 ?_
  obtain ⟨x2, hx3, hf⟩ := z_l hf
  rw [hx3]
  refine lv_istore (lv' := [(5, .int x2), (4, .int (-1 : Int32)), (0, .ref l0), (1, .ref l1), (2, .int l2), (3, .int l3)]) hx hb dX3_enqueue_7 hl (by decide) rfl (fun ls hl => ?_)
  refine lv_iconst (v := (0 : Int32)) hx hb dX3_enqueue_9 (by decide) ?_
  refine lv_istore (lv' := [(6, .int (0 : Int32)), (5, .int x2), (4, .int (-1 : Int32)), (0, .ref l0), (1, .ref l1), (2, .int l2), (3, .int l3)]) hx hb dX3_enqueue_10 hl (by decide) rfl (fun ls hl => ?_)
  unfold f_X3_enqueue_12 at hf
  exact t_X3_enqueue_12 B  zN hf hW (lv_sub hl [3, 4, 5, 6, 2, 1, 0] rfl)
set_option maxRecDepth 100000 in
def f_X3_add (σ : zSt) (l0 : Nat) (l1 : Nat) (l2 : Int32) (l3 : Int32) (l4 : Int32) : Option (Int32 × zSt) :=
(if z_ob σ l0 3 then (zl (z_I σ l0 1) (fun x2 => (zl (z_pI σ l0 1 ((z_I σ l0 1) + (1 : Int32))) (fun σ4 => (if z_ob σ4 l0 3 then (zc (z_R σ4 l0 0) none (fun q7 => (if z_ob σ4 q7 7 then (zb (f_X7_put σ4 q7 x2 (0 : Int32) l2) (fun σ11 => (if z_ob σ11 l0 3 then (zc (z_R σ11 l0 0) none (fun q13 => (if z_ob σ11 q13 7 then (zb (f_X7_put σ11 q13 x2 (1 : Int32) l3) (fun σ17 => (if z_ob σ17 l0 3 then (zc (z_R σ17 l0 0) none (fun q19 => (if z_ob σ17 l1 6 then (if z_ob σ17 q19 7 then (zb (f_X7_put σ17 q19 x2 (2 : Int32) (z_I σ17 l1 0)) (fun σ24 => (if z_ob σ24 l0 3 then (zc (z_R σ24 l0 0) none (fun q26 => (if z_ob σ24 q26 7 then (zb (f_X7_put σ24 q26 x2 (3 : Int32) l4) (fun σ30 => (if z_ob σ30 l0 3 then (zc (z_R σ30 l0 0) none (fun q32 => (if z_ob σ30 q32 7 then (zb (f_X7_put σ30 q32 x2 (4 : Int32) (-1 : Int32)) (fun σ36 => (if z_ob σ36 l0 3 then (zb (f_X3_enqueue σ36 l0 l1 x2 l3) (fun σ39 => (some (x2, σ39)))) else none))) else none))) else none))) else none))) else none))) else none) else none))) else none))) else none))) else none))) else none))) else none))))) else none)
set_option maxRecDepth 20000 in
set_option maxHeartbeats 4000000 in
theorem K_X3_add {σ : zSt} {l0 : Nat} {l1 : Nat} {l2 : Int32} {l3 : Int32} {l4 : Int32} {r : Int32} {σ' : zSt} (hf : f_X3_add σ l0 l1 l2 l3 l4 = some (r, σ')) : z_M l D cA bs yX3_add cX3_add 6 (some .int) 2 50 0 0 [.ref l0, .ref l1, .int l2, .int l3, .int l4] σ (z_Qi D cA bs r σ') := by
  refine z_met (own := RX3) (lv := [(0, .ref l0), (1, .ref l1), (2, .int l2), (3, .int l3), (4, .int l4)]) (by decide) rfl (Nat.le_of_ble_eq_true rfl) rfl (fun p e s m below meth c ls B hnm hW hl => ?_)
  have hx := B.1
  have hb := B.2.1
  have hown := B.2.2.2.1
  have hts := B.2.2.2.2.1
  unfold f_X3_add at hf
  refine lv_aload_n hx hb dX3_add_0 rfl (lv_at hl 0 rfl) ?_
  obtain ⟨hg1, hf⟩ := z_g hf
  refine z_getI B hW (Or.inl zf_X3_20) rfl hg1 dX3_add_1 ?_
  obtain ⟨x2, hx3, hf⟩ := z_l hf
  rw [hx3]
  refine lv_istore (lv' := [(5, .int x2), (0, .ref l0), (1, .ref l1), (2, .int l2), (3, .int l3), (4, .int l4)]) hx hb dX3_add_4 hl (by decide) rfl (fun ls hl => ?_)
  refine lv_aload_n hx hb dX3_add_6 rfl (lv_at hl 1 rfl) ?_
  refine lv_dup hx hb dX3_add_7 rfl ?_
  refine z_getI B hW (Or.inl zf_X3_20) rfl hg1 dX3_add_8 ?_
  refine lv_iconst (v := (1 : Int32)) hx hb dX3_add_11 (by decide) ?_
  refine lv_iadd hx hb dX3_add_12 ?_
  obtain ⟨σ4, hs5, hf⟩ := z_l hf
  refine z_putI B hW zf_X3_20 hg1 rfl hs5 dX3_add_13 (fun H locs hW => ?_)
  refine lv_aload_n hx hb dX3_add_16 rfl (lv_at hl 1 rfl) ?_
  obtain ⟨hg6, hf⟩ := z_g hf
  obtain ⟨q7, hv8, hf⟩ := z_nn hf
  refine z_getN B hW (Or.inr zf_X3_16) rfl hg6 hv8 dX3_add_17 ?_
  refine lv_iload hx hb dX3_add_20 (lv_at hl 0 rfl) ?_
  refine lv_iconst (v := (0 : Int32)) hx hb dX3_add_22 (by decide) ?_
  refine lv_iload_n hx hb dX3_add_23 rfl (lv_at hl 3 rfl) ?_
  obtain ⟨hg9, hf⟩ := z_g hf
  obtain ⟨σ11, hq10, hf⟩ := z_b hf
  refine z_cv hW (z_runV (As := [.int x2, .int (0 : Int32), .int l2]) (rest := []) B hW zv_X3_36 (K_X7_put hq10) hg9 rfl rfl rfl (Nat.le_of_ble_eq_true rfl) hl.1 ⟨Nat.le_of_ble_eq_true rfl, Nat.le_of_ble_eq_true rfl⟩ dX3_add_24 ⟨Nat.le_of_ble_eq_true rfl, Nat.le_of_ble_eq_true rfl⟩) (fun H locs hW => ?_)
  refine lv_aload_n hx hb dX3_add_27 rfl (lv_at hl 1 rfl) ?_
  obtain ⟨hg12, hf⟩ := z_g hf
  obtain ⟨q13, hv14, hf⟩ := z_nn hf
  refine z_getN B hW (Or.inr zf_X3_16) rfl hg12 hv14 dX3_add_28 ?_
  refine lv_iload hx hb dX3_add_31 (lv_at hl 0 rfl) ?_
  refine lv_iconst (v := (1 : Int32)) hx hb dX3_add_33 (by decide) ?_
  refine lv_iload_n hx hb dX3_add_34 rfl (lv_at hl 4 rfl) ?_
  obtain ⟨hg15, hf⟩ := z_g hf
  obtain ⟨σ17, hq16, hf⟩ := z_b hf
  refine z_cv hW (z_runV (As := [.int x2, .int (1 : Int32), .int l3]) (rest := []) B hW zv_X3_36 (K_X7_put hq16) hg15 rfl rfl rfl (Nat.le_of_ble_eq_true rfl) hl.1 ⟨Nat.le_of_ble_eq_true rfl, Nat.le_of_ble_eq_true rfl⟩ dX3_add_35 ⟨Nat.le_of_ble_eq_true rfl, Nat.le_of_ble_eq_true rfl⟩) (fun H locs hW => ?_)
  refine lv_aload_n hx hb dX3_add_38 rfl (lv_at hl 1 rfl) ?_
  obtain ⟨hg18, hf⟩ := z_g hf
  obtain ⟨q19, hv20, hf⟩ := z_nn hf
  refine z_getN B hW (Or.inr zf_X3_16) rfl hg18 hv20 dX3_add_39 ?_
  refine lv_iload hx hb dX3_add_42 (lv_at hl 0 rfl) ?_
  refine lv_iconst (v := (2 : Int32)) hx hb dX3_add_44 (by decide) ?_
  refine lv_aload_n hx hb dX3_add_45 rfl (lv_at hl 2 rfl) ?_
  obtain ⟨hg21, hf⟩ := z_g hf
  refine z_getI B hW (Or.inl zf_X3_40) rfl hg21 dX3_add_46 ?_
  obtain ⟨hg22, hf⟩ := z_g hf
  obtain ⟨σ24, hq23, hf⟩ := z_b hf
  refine z_cv hW (z_runV (As := [.int x2, .int (2 : Int32), .int (z_I σ17 l1 0)]) (rest := []) B hW zv_X3_36 (K_X7_put hq23) hg22 rfl rfl rfl (Nat.le_of_ble_eq_true rfl) hl.1 ⟨Nat.le_of_ble_eq_true rfl, Nat.le_of_ble_eq_true rfl⟩ dX3_add_49 ⟨Nat.le_of_ble_eq_true rfl, Nat.le_of_ble_eq_true rfl⟩) (fun H locs hW => ?_)
  refine lv_aload_n hx hb dX3_add_52 rfl (lv_at hl 1 rfl) ?_
  obtain ⟨hg25, hf⟩ := z_g hf
  obtain ⟨q26, hv27, hf⟩ := z_nn hf
  refine z_getN B hW (Or.inr zf_X3_16) rfl hg25 hv27 dX3_add_53 ?_
  refine lv_iload hx hb dX3_add_56 (lv_at hl 0 rfl) ?_
  refine lv_iconst (v := (3 : Int32)) hx hb dX3_add_58 (by decide) ?_
  refine lv_iload hx hb dX3_add_59 (lv_at hl 5 rfl) ?_
  obtain ⟨hg28, hf⟩ := z_g hf
  obtain ⟨σ30, hq29, hf⟩ := z_b hf
  refine z_cv hW (z_runV (As := [.int x2, .int (3 : Int32), .int l4]) (rest := []) B hW zv_X3_36 (K_X7_put hq29) hg28 rfl rfl rfl (Nat.le_of_ble_eq_true rfl) hl.1 ⟨Nat.le_of_ble_eq_true rfl, Nat.le_of_ble_eq_true rfl⟩ dX3_add_61 ⟨Nat.le_of_ble_eq_true rfl, Nat.le_of_ble_eq_true rfl⟩) (fun H locs hW => ?_)
  refine lv_aload_n hx hb dX3_add_64 rfl (lv_at hl 1 rfl) ?_
  obtain ⟨hg31, hf⟩ := z_g hf
  obtain ⟨q32, hv33, hf⟩ := z_nn hf
  refine z_getN B hW (Or.inr zf_X3_16) rfl hg31 hv33 dX3_add_65 ?_
  refine lv_iload hx hb dX3_add_68 (lv_at hl 0 rfl) ?_
  refine lv_iconst (v := (4 : Int32)) hx hb dX3_add_70 (by decide) ?_
  refine lv_iconst (v := (-1 : Int32)) hx hb dX3_add_71 (by decide) ?_
  obtain ⟨hg34, hf⟩ := z_g hf
  obtain ⟨σ36, hq35, hf⟩ := z_b hf
  refine z_cv hW (z_runV (As := [.int x2, .int (4 : Int32), .int (-1 : Int32)]) (rest := []) B hW zv_X3_36 (K_X7_put hq35) hg34 rfl rfl rfl (Nat.le_of_ble_eq_true rfl) hl.1 ⟨Nat.le_of_ble_eq_true rfl, Nat.le_of_ble_eq_true rfl⟩ dX3_add_72 ⟨Nat.le_of_ble_eq_true rfl, Nat.le_of_ble_eq_true rfl⟩) (fun H locs hW => ?_)
  refine lv_aload_n hx hb dX3_add_75 rfl (lv_at hl 1 rfl) ?_
  refine lv_aload_n hx hb dX3_add_76 rfl (lv_at hl 2 rfl) ?_
  refine lv_iload hx hb dX3_add_77 (lv_at hl 0 rfl) ?_
  refine lv_iload_n hx hb dX3_add_79 rfl (lv_at hl 4 rfl) ?_
  obtain ⟨hg37, hf⟩ := z_g hf
  obtain ⟨σ39, hq38, hf⟩ := z_b hf
  refine z_cv hW (z_runV (As := [.ref l1, .int x2, .int l3]) (rest := []) B hW zv_X3_45 (K_X3_enqueue hq38) hg37 rfl rfl rfl (Nat.le_of_ble_eq_true rfl) hl.1 ⟨Nat.le_of_ble_eq_true rfl, Nat.le_of_ble_eq_true rfl⟩ dX3_add_80 ⟨Nat.le_of_ble_eq_true rfl, Nat.le_of_ble_eq_true rfl⟩) (fun H locs hW => ?_)
  refine lv_iload hx hb dX3_add_83 (lv_at hl 0 rfl) ?_
  obtain ⟨rfl, rfl⟩ := z_e2 hf
  exact z_ri B hW dX3_add_85 (Nat.le_of_ble_eq_true rfl) (Nat.le_of_ble_eq_true rfl)
end GEN
