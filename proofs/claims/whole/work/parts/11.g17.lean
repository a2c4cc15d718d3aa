section GEN
variable {p : Program} {l : Launch} {e : Env} {s : State} {m : MethodId} {args : Array Value} {below : List Frame} {meth : Method} {c : Code} {D : va_G} {cA : Nat → ClassId} {bs : Nat}
set_option maxRecDepth 100000 in
def f_X10_passes_174 (σ : zSt) (l0 : Nat) (l1 : Int32) (l3 : Int32) : Option (zSt) :=
(if z_ob σ l0 9 then (zc (z_R σ l0 0) none (fun q2 => (zb (f_X10_at σ l1 (3 : Int32)) (fun r5 => (if z_ar σ q2 0 then (if z_ix r5 (z_ln σ q2) then (zl (z_pI σ q2 r5.toNatClampNeg l3) (fun σ8 => (if z_ob σ8 l0 9 then (zc (z_R σ8 l0 0) none (fun q11 => (if z_ar σ8 q11 0 then (if z_ix (4 : Int32) (z_ln σ8 q11) then (zl (z_pI σ8 q11 (4 : Int32).toNatClampNeg l3) (fun σ15 => (some σ15))) else none) else none))) else none))) else none) else none))))) else none)
set_option maxRecDepth 20000 in
set_option maxHeartbeats 4000000 in
theorem t_X10_passes_174 (B : z_B p s m args meth c D cA bs RX10 cX10_passes 5 none)  {σ' : zSt} {σ : zSt} {l0 : Nat} {l1 : Int32} {l3 : Int32} (hf : f_X10_passes_174 σ l0 l1 l3 = some σ') {H : Heap} {locs : List Loc} {ls : Array Slot} (hW : z_Ok D cA bs s σ H locs) (hl : lv_has ls 5 [(0, .ref l0), (1, .int l1), (3, .int l3)])  : W p l e (zrm 3 0 0 64) s m args below meth c H locs 0 0 (MQ below (z_Qv D cA bs σ') args s 0 0 (fun q => bs ≤ q)) (F0 m 174 ls []) := by
  have hx := B.1
  have hb := B.2.1
  have hown := B.2.2.2.1
  have hts := B.2.2.2.2.1
  unfold f_X10_passes_174 at hf
  refine lv_aload_n hx hb dX10_passes_174 rfl (lv_at hl 0 rfl) ?_
  obtain ⟨hg1, hf⟩ := z_g hf
  obtain ⟨q2, hv3, hf⟩ := z_nn hf
  refine z_getN B hW (Or.inr zf_X10_7) rfl hg1 hv3 dX10_passes_175 ?_
  refine lv_iload_n hx hb dX10_passes_178 rfl (lv_at hl 1 rfl) ?_
  refine lv_iconst (v := (3 : Int32)) hx hb dX10_passes_179 (by decide) ?_
  obtain ⟨r5, hq4, hf⟩ := z_b hf
  refine z_ci hW (z_runS (As := [.int l1, .int (3 : Int32)]) (rest := [.ref q2]) B hW zv_X10_29 (K_X10_at hq4) rfl rfl (Nat.le_of_ble_eq_true rfl) hl.1 ⟨Nat.le_of_ble_eq_true rfl, Nat.le_of_ble_eq_true rfl⟩ dX10_passes_180 ⟨Nat.le_of_ble_eq_true rfl, Nat.le_of_ble_eq_true rfl⟩) (fun H locs hW => ?_)
  refine lv_iload_n hx hb dX10_passes_183 rfl (lv_at hl 2 rfl) ?_
  obtain ⟨hg6, hf⟩ := z_g hf
  obtain ⟨hg7, hf⟩ := z_g hf
  obtain ⟨σ8, hs9, hf⟩ := z_l hf
  refine z_ast B hW hg6 hg7 hs9 dX10_passes_184 (fun H locs hW => ?_)
  refine lv_aload_n hx hb dX10_passes_185 rfl (lv_at hl 0 rfl) ?_
  obtain ⟨hg10, hf⟩ := z_g hf
  obtain ⟨q11, hv12, hf⟩ := z_nn hf
  refine z_getN B hW (Or.inr zf_X10_7) rfl hg10 hv12 dX10_passes_186 ?_
  refine lv_iconst (v := (4 : Int32)) hx hb dX10_passes_189 (by decide) ?_
  refine lv_iload_n hx hb dX10_passes_190 rfl (lv_at hl 2 rfl) ?_
  obtain ⟨hg13, hf⟩ := z_g hf
  obtain ⟨hg14, hf⟩ := z_g hf
  obtain ⟨σ15, hs16, hf⟩ := z_l hf
  refine z_ast B hW hg13 hg14 hs16 dX10_passes_191 (fun H locs hW => ?_)
  obtain rfl := z_e1 hf
  exact z_rv B hW dX10_passes_192 (Nat.le_of_ble_eq_true rfl) (Nat.le_of_ble_eq_true rfl)
set_option maxRecDepth 100000 in
def f_X10_passes_142 (σ : zSt) (l0 : Nat) (l1 : Int32) (l3 : Int32) (s0 : Int32) : Option ((zSt × Int32 × Int32) ⊕ (zSt)) :=
(if s0 = 0 then
(if z_ob σ l0 9 then (zc (z_R σ l0 0) none (fun q2 => (if z_ar σ q2 0 then (if z_ix (3 : Int32) (z_ln σ q2) then (zc (z_R σ l0 0) none (fun q6 => (if z_ar σ q6 0 then (if z_ix (1 : Int32) (z_ln σ q6) then (zl (z_pI σ q2 (3 : Int32).toNatClampNeg ((z_I σ q2 (3 : Int32).toNatClampNeg) + (z_I σ q6 (1 : Int32).toNatClampNeg))) (fun σ10 => (zl ((l3 + (1 : Int32)) - (l3 + (1 : Int32)) / (32 : Int32) * (32 : Int32)) (fun x12 => (some (.inl (σ10, x12, s0))))))) else none) else none))) else none) else none))) else none)
else
(some (.inl (σ, l3, s0))))
set_option maxRecDepth 20000 in
set_option maxHeartbeats 4000000 in
theorem t_X10_passes_142 (B : z_B p s m args meth c D cA bs RX10 cX10_passes 5 none)  {σ' : zSt} {o1 : (zSt × Int32 × Int32) ⊕ (zSt)} {σ : zSt} {l0 : Nat} {l1 : Int32} {l3 : Int32} {s0 : Int32} (hf : f_X10_passes_142 σ l0 l1 l3 s0 = some o1) {H : Heap} {locs : List Loc} {ls : Array Slot} (hW : z_Ok D cA bs s σ H locs) (hl : lv_has ls 5 [(0, .ref l0), (1, .int l1), (3, .int l3)]) (hk1 : ∀ (σ : zSt) (l3 : Int32) (l4 : Int32), o1 = .inl (σ, l3, l4) → ∀ {H : Heap} {locs : List Loc} {ls : Array Slot}, z_Ok D cA bs s σ H locs → lv_has ls 5 [(0, .ref l0), (1, .int l1), (3, .int l3), (4, .int l4)] → W p l e (zrm 3 0 0 64) s m args below meth c H locs 0 0 (MQ below (z_Qv D cA bs σ') args s 0 0 (fun q => bs ≤ q)) (F0 m 111 ls [])) (hr1 : ∀ x, o1 = .inr x → x = σ') : W p l e (zrm 3 0 0 64) s m args below meth c H locs 0 0 (MQ below (z_Qv D cA bs σ') args s 0 0 (fun q => bs ≤ q)) (F0 m 142 ls [.int s0]) := by
  have hx := B.1
  have hb := B.2.1
  have hown := B.2.2.2.1
  have hts := B.2.2.2.2.1
  unfold f_X10_passes_142 at hf
  refine lv_istore (lv' := [(4, .int s0), (0, .ref l0), (1, .int l1), (3, .int l3)]) hx hb dX10_passes_142 hl (by decide) rfl (fun ls hl => ?_)
  refine lv_iload hx hb dX10_passes_144 (lv_at hl 0 rfl) ?_
  refine lv_if_ne (tgt := 111) hx hb dX10_passes_146 (by decide) (fun hc146 => ?_) (fun hc146 => ?_)
  · replace hf := z_in hc146 hf
    exact hk1 _ _ _ (Option.some.inj hf).symm hW (lv_sub hl [1, 2, 3, 0] rfl)
  · replace hf := z_ip hc146 hf
    refine lv_aload_n hx hb dX10_passes_149 rfl (lv_at hl 1 rfl) ?_
    obtain ⟨hg1, hf⟩ := z_g hf
    obtain ⟨q2, hv3, hf⟩ := z_nn hf
    refine z_getN B hW (Or.inr zf_X10_7) rfl hg1 hv3 dX10_passes_150 ?_
    refine lv_iconst (v := (3 : Int32)) hx hb dX10_passes_153 (by decide) ?_
    refine lv_dup2_11 hx hb dX10_passes_154 rfl rfl ?_
    obtain ⟨hg4, hf⟩ := z_g hf
    obtain ⟨hg5, hf⟩ := z_g hf
    refine z_ald B hW hg4 hg5 dX10_passes_155 ?_
    refine lv_aload_n hx hb dX10_passes_156 rfl (lv_at hl 1 rfl) ?_
    obtain ⟨q6, hv7, hf⟩ := z_nn hf
    refine z_getN B hW (Or.inr zf_X10_7) rfl hg1 hv7 dX10_passes_157 ?_
    refine lv_iconst (v := (1 : Int32)) hx hb dX10_passes_160 (by decide) ?_
    obtain ⟨hg8, hf⟩ := z_g hf
    obtain ⟨hg9, hf⟩ := z_g hf
    refine z_ald B hW hg8 hg9 dX10_passes_161 ?_
    refine lv_iadd hx hb dX10_passes_162 ?_
    obtain ⟨σ10, hs11, hf⟩ := z_l hf
    refine z_ast B hW hg4 hg5 hs11 dX10_passes_163 (fun H locs hW => ?_)
    refine lv_iload_n hx hb dX10_passes_164 rfl (lv_at hl 3 rfl) ?_
    refine lv_iconst (v := (1 : Int32)) hx hb dX10_passes_165 (by decide) ?_
    refine lv_iadd hx hb dX10_passes_166 ?_
    refine lv_bipush (v := (32 : Int32)) hx hb dX10_passes_167 (by decide) ?_
    refine lv_irem hx hb dX10_passes_169 (by decide) ?_
    obtain ⟨x12, hx13, hf⟩ := z_l hf
    rw [hx13]
    refine lv_istore_n (lv' := [(3, .int x12), (4, .int s0), (0, .ref l0), (1, .int l1)]) hx hb dX10_passes_170 rfl hl (by decide) rfl (fun ls hl => ?_)
    refine lv_goto (tgt := 111) hx hb dX10_passes_171 (by decide) ?_
    exact hk1 _ _ _ (Option.some.inj hf).symm hW (lv_sub hl [2, 3, 0, 1] rfl)
set_option maxRecDepth 100000 in
def f_X10_passes_141 (σ : zSt) (l0 : Nat) (l1 : Int32) (l3 : Int32) : Option ((zSt × Int32 × Int32) ⊕ (zSt)) :=
(f_X10_passes_142 σ l0 l1 l3 (0 : Int32))
set_option maxRecDepth 20000 in
set_option maxHeartbeats 4000000 in
theorem t_X10_passes_141 (B : z_B p s m args meth c D cA bs RX10 cX10_passes 5 none)  {σ' : zSt} {o1 : (zSt × Int32 × Int32) ⊕ (zSt)} {σ : zSt} {l0 : Nat} {l1 : Int32} {l3 : Int32} (hf : f_X10_passes_141 σ l0 l1 l3 = some o1) {H : Heap} {locs : List Loc} {ls : Array Slot} (hW : z_Ok D cA bs s σ H locs) (hl : lv_has ls 5 [(0, .ref l0), (1, .int l1), (3, .int l3)]) (hk1 : ∀ (σ : zSt) (l3 : Int32) (l4 : Int32), o1 = .inl (σ, l3, l4) → ∀ {H : Heap} {locs : List Loc} {ls : Array Slot}, z_Ok D cA bs s σ H locs → lv_has ls 5 [(0, .ref l0), (1, .int l1), (3, .int l3), (4, .int l4)] → W p l e (zrm 3 0 0 64) s m args below meth c H locs 0 0 (MQ below (z_Qv D cA bs σ') args s 0 0 (fun q => bs ≤ q)) (F0 m 111 ls [])) (hr1 : ∀ x, o1 = .inr x → x = σ') : W p l e (zrm 3 0 0 64) s m args below meth c H locs 0 0 (MQ below (z_Qv D cA bs σ') args s 0 0 (fun q => bs ≤ q)) (F0 m 141 ls []) := by
  have hx := B.1
  have hb := B.2.1
  have hown := B.2.2.2.1
  have hts := B.2.2.2.2.1
  unfold f_X10_passes_141 at hf
  refine lv_iconst (v := (0 : Int32)) hx hb dX10_passes_141 (by decide) ?_
  exact t_X10_passes_142 B hf hW hl hk1 hr1
set_option maxRecDepth 100000 in
def b_X10_passes_111 (l0 : Nat) (l1 : Int32) (σ : zSt) (l3 : Int32) (l4 : Int32) : Option ((zSt × Int32 × Int32) ⊕ (zSt)) :=
(if l3 = l1 then
(zex (f_X10_passes_174 σ l0 l1 l3))
else
(if l4 = 0 then
(if z_ob σ l0 9 then (zb2 (f_X10_takes σ l0 (1 : Int32)) (fun r5 σ6 => (if r5 = 0 then
(if z_ob σ6 l0 9 then (zb (f_X10_isInRing σ6 l0 l3) (fun r9 => (if r9 = 0 then
(f_X10_passes_141 σ6 l0 l1 l3)
else
(f_X10_passes_142 σ6 l0 l1 l3 (1 : Int32))))) else none)
else
(f_X10_passes_141 σ6 l0 l1 l3)))) else none)
else
(zex (f_X10_passes_174 σ l0 l1 l3))))
set_option maxRecDepth 100000 in
def f_X10_passes_111 (l0 : Nat) (l1 : Int32) (σ : zSt) (l3 : Int32) (l4 : Int32) : Option (zSt) := zloop (fun (t : zSt × Int32 × Int32) => b_X10_passes_111 l0 l1 t.1 t.2.1 t.2.2) zN (σ, l3, l4)
set_option maxRecDepth 20000 in
set_option maxHeartbeats 4000000 in
theorem tb_X10_passes_111 (B : z_B p s m args meth c D cA bs RX10 cX10_passes 5 none)  {σ' : zSt} {o1 : (zSt × Int32 × Int32) ⊕ (zSt)} {l0 : Nat} {l1 : Int32} {σ : zSt} {l3 : Int32} {l4 : Int32} (hf : b_X10_passes_111 l0 l1 σ l3 l4 = some o1) {H : Heap} {locs : List Loc} {ls : Array Slot} (hW : z_Ok D cA bs s σ H locs) (hl : lv_has ls 5 [(0, .ref l0), (1, .int l1), (3, .int l3), (4, .int l4)]) (hk1 : ∀ (σ : zSt) (l3 : Int32) (l4 : Int32), o1 = .inl (σ, l3, l4) → ∀ {H : Heap} {locs : List Loc} {ls : Array Slot}, z_Ok D cA bs s σ H locs → lv_has ls 5 [(0, .ref l0), (1, .int l1), (3, .int l3), (4, .int l4)] → W p l e (zrm 3 0 0 64) s m args below meth c H locs 0 0 (MQ below (z_Qv D cA bs σ') args s 0 0 (fun q => bs ≤ q)) (F0 m 111 ls [])) (hr1 : ∀ x, o1 = .inr x → x = σ') : W p l e (zrm 3 0 0 64) s m args below meth c H locs 0 0 (MQ below (z_Qv D cA bs σ') args s 0 0 (fun q => bs ≤ q)) (F0 m 111 ls []) := by
  have hx := B.1
  have hb := B.2.1
  have hown := B.2.2.2.1
  have hts := B.2.2.2.2.1
  unfold b_X10_passes_111 at hf
  refine lv_iload_n hx hb dX10_passes_111 rfl (lv_at hl 2 rfl) ?_
  refine lv_iload_n hx hb dX10_passes_112 rfl (lv_at hl 1 rfl) ?_
  refine lv_icmp_eq (tgt := 174) hx hb dX10_passes_113 (by decide) (fun hc113 => ?_) (fun hc113 => ?_)
  · replace hf := z_ip hc113 hf
    obtain ⟨w1, hf, ho1⟩ := z_x hf
    obtain rfl := hr1 _ ho1
    exact t_X10_passes_174 B hf hW (lv_sub hl [0, 1, 2] rfl) 
  · replace hf := z_in hc113 hf
    refine lv_iload hx hb dX10_passes_116 (lv_at hl 3 rfl) ?_
    refine lv_if_ne (tgt := 174) hx hb dX10_passes_118 (by decide) (fun hc118 => ?_) (fun hc118 => ?_)
    · replace hf := z_in hc118 hf
      obtain ⟨w1, hf, ho2⟩ := z_x hf
      obtain rfl := hr1 _ ho2
      exact t_X10_passes_174 B hf hW (lv_sub hl [0, 1, 2] rfl) 
    · replace hf := z_ip hc118 hf
      refine lv_aload_n hx hb dX10_passes_121 rfl (lv_at hl 0 rfl) ?_
      refine lv_iconst (v := (1 : Int32)) hx hb dX10_passes_122 (by decide) ?_
      obtain ⟨hg3, hf⟩ := z_g hf
      obtain ⟨r5, σ6, hq4, hf⟩ := z_b2 hf
      refine z_ci hW (z_runV (As := [.int (1 : Int32)]) (rest := []) B hW zv_X10_89 (K_X10_takes hq4) hg3 rfl rfl rfl (Nat.le_of_ble_eq_true rfl) hl.1 ⟨Nat.le_of_ble_eq_true rfl, Nat.le_of_ble_eq_true rfl⟩ dX10_passes_123 ⟨Nat.le_of_ble_eq_true rfl, Nat.le_of_ble_eq_true rfl⟩) (fun H locs hW => ?_)
      refine lv_if_ne (tgt := 141) hx hb dX10_passes_126 (by decide) (fun hc126 => ?_) (fun hc126 => ?_)
      · replace hf := z_in hc126 hf
        exact t_X10_passes_141 B hf hW (lv_sub hl [0, 1, 2] rfl) hk1 hr1
      · replace hf := z_ip hc126 hf
        refine lv_aload_n hx hb dX10_passes_129 rfl (lv_at hl 0 rfl) ?_
        refine lv_iload_n hx hb dX10_passes_130 rfl (lv_at hl 2 rfl) ?_
        obtain ⟨hg7, hf⟩ := z_g hf
        obtain ⟨r9, hq8, hf⟩ := z_b hf
        refine z_ci hW (z_runV (As := [.int l3]) (rest := []) B hW zv_X10_83 (K_X10_isInRing hq8) hg7 rfl rfl rfl (Nat.le_of_ble_eq_true rfl) hl.1 ⟨Nat.le_of_ble_eq_true rfl, Nat.le_of_ble_eq_true rfl⟩ dX10_passes_131 ⟨Nat.le_of_ble_eq_true rfl, Nat.le_of_ble_eq_true rfl⟩) (fun H locs hW => ?_)
        refine lv_if_eq (tgt := 141) hx hb dX10_passes_134 (by decide) (fun hc134 => ?_) (fun hc134 => ?_)
        · replace hf := z_ip hc134 hf
          exact t_X10_passes_141 B hf hW (lv_sub hl [0, 1, 2] rfl) hk1 hr1
        · replace hf := z_in hc134 hf
          refine lv_iconst (v := (1 : Int32)) hx hb dX10_passes_137 (by decide) ?_
          refine lv_goto (tgt := 142) hx hb dX10_passes_138 (by decide) ?_
          exact t_X10_passes_142 B hf hW (lv_sub hl [0, 1, 2] rfl) hk1 hr1
set_option maxRecDepth 20000 in
set_option maxHeartbeats 4000000 in
theorem t_X10_passes_111 (B : z_B p s m args meth c D cA bs RX10 cX10_passes 5 none)  {σ' : zSt} {l0 : Nat} {l1 : Int32}  : ∀ (n : Nat) {σ : zSt} {l3 : Int32} {l4 : Int32}, zloop (fun (t : zSt × Int32 × Int32) => b_X10_passes_111 l0 l1 t.1 t.2.1 t.2.2) n (σ, l3, l4) = some σ' → ∀ {H : Heap} {locs : List Loc} {ls : Array Slot}, z_Ok D cA bs s σ H locs → lv_has ls 5 [(0, .ref l0), (1, .int l1), (3, .int l3), (4, .int l4)] → W p l e (zrm 3 0 0 64) s m args below meth c H locs 0 0 (MQ below (z_Qv D cA bs σ') args s 0 0 (fun q => bs ≤ q)) (F0 m 111 ls []) := by
  intro n
  induction n with
  | zero => intro σ l3 l4 hf; cases hf
  | succ n ih =>
    intro σ l3 l4 hf H locs ls hW hl
    obtain ⟨o1, hb1, hf⟩ := z_lp hf
    refine tb_X10_passes_111 B hb1 hW hl  (fun σ l3 l4 he H locs ls hW hl => ?_) (fun x he => ?_)
    · rcases hf with ⟨t, ht, hf⟩ | hf
      · rw [he] at ht
        cases ht
        exact ih hf hW hl
      · rw [he] at hf
        cases hf
    · rcases hf with ⟨t, ht, hf⟩ | hf
      · rw [he] at ht
        cases ht
      · rw [he] at hf
        exact Sum.inr.inj hf
set_option maxRecDepth 100000 in
def f_X10_passes_101 (σ : zSt) (l0 : Nat) (l1 : Int32) (l2 : Int32) : Option (zSt) :=
(zl ((l2 + (1 : Int32)) - (l2 + (1 : Int32)) / (32 : Int32) * (32 : Int32)) (fun x1 => (f_X10_passes_111 l0 l1 σ x1 (0 : Int32))))
set_option maxRecDepth 20000 in
set_option maxHeartbeats 4000000 in
theorem t_X10_passes_101 (B : z_B p s m args meth c D cA bs RX10 cX10_passes 5 none)  {σ' : zSt} {σ : zSt} {l0 : Nat} {l1 : Int32} {l2 : Int32} (hf : f_X10_passes_101 σ l0 l1 l2 = some σ') {H : Heap} {locs : List Loc} {ls : Array Slot} (hW : z_Ok D cA bs s σ H locs) (hl : lv_has ls 5 [(0, .ref l0), (1, .int l1), (2, .int l2)])  : W p l e (zrm 3 0 0 64) s m args below meth c H locs 0 0 (MQ below (z_Qv D cA bs σ') args s 0 0 (fun q => bs ≤ q)) (F0 m 101 ls []) := by
  have hx := B.1
  have hb := B.2.1
  have hown := B.2.2.2.1
  have hts := B.2.2.2.2.1
  unfold f_X10_passes_101 at hf
  refine lv_iload_n hx hb dX10_passes_101 rfl (lv_at hl 2 rfl) ?_
  refine lv_iconst (v := (1 : Int32)) hx hb dX10_passes_102 (by decide) ?_
  refine lv_iadd hx hb dX10_passes_103 ?_
  refine lv_bipush (v := (32 : Int32)) hx hb dX10_passes_104 (by decide) ?_
  refine lv_irem hx hb dX10_passes_106 (by decide) ?_
  obtain ⟨x1, hx2, hf⟩ := z_l hf
  rw [hx2]
  refine lv_istore_n (lv' := [(3, .int x1), (0, .ref l0), (1, .int l1), (2, .int l2)]) hx hb dX10_passes_107 rfl hl (by decide) rfl (fun ls hl => ?_)
  refine lv_iconst (v := (0 : Int32)) hx hb dX10_passes_108 (by decide) ?_
  refine lv_istore (lv' := [(4, .int (0 : Int32)), (3, .int x1), (0, .ref l0), (1, .int l1), (2, .int l2)]) hx hb dX10_passes_109 hl (by decide) rfl (fun ls hl => ?_)
  unfold f_X10_passes_111 at hf
  exact t_X10_passes_111 B  zN hf hW (lv_sub hl [2, 3, 1, 0] rfl)
set_option maxRecDepth 100000 in
def f_X10_passes_38 (σ : zSt) (l0 : Nat) (l1 : Int32) (l2 : Int32) : Option ((zSt × Int32) ⊕ (zSt)) :=
(if z_ob σ l0 9 then (zc (z_R σ l0 0) none (fun q2 => (if z_ar σ q2 0 then (if z_ix (3 : Int32) (z_ln σ q2) then (zc (z_R σ l0 0) none (fun q6 => (if z_ar σ q6 0 then (if z_ix (1 : Int32) (z_ln σ q6) then (zl (z_pI σ q2 (3 : Int32).toNatClampNeg ((z_I σ q2 (3 : Int32).toNatClampNeg) + (z_I σ q6 (1 : Int32).toNatClampNeg))) (fun σ10 => (some (.inl (σ10, (l2 + (1 : Int32))))))) else none) else none))) else none) else none))) else none)
set_option maxRecDepth 20000 in
set_option maxHeartbeats 4000000 in
theorem t_X10_passes_38 (B : z_B p s m args meth c D cA bs RX10 cX10_passes 5 none)  {σ' : zSt} {o1 : (zSt × Int32) ⊕ (zSt)} {σ : zSt} {l0 : Nat} {l1 : Int32} {l2 : Int32} (hf : f_X10_passes_38 σ l0 l1 l2 = some o1) {H : Heap} {locs : List Loc} {ls : Array Slot} (hW : z_Ok D cA bs s σ H locs) (hl : lv_has ls 5 [(0, .ref l0), (1, .int l1), (2, .int l2)]) (hk1 : ∀ (σ : zSt) (l2 : Int32), o1 = .inl (σ, l2) → ∀ {H : Heap} {locs : List Loc} {ls : Array Slot}, z_Ok D cA bs s σ H locs → lv_has ls 5 [(0, .ref l0), (1, .int l1), (2, .int l2)] → W p l e (zrm 3 0 0 64) s m args below meth c H locs 0 0 (MQ below (z_Qv D cA bs σ') args s 0 0 (fun q => bs ≤ q)) (F0 m 2 ls [])) (hr1 : ∀ x, o1 = .inr x → x = σ') : W p l e (zrm 3 0 0 64) s m args below meth c H locs 0 0 (MQ below (z_Qv D cA bs σ') args s 0 0 (fun q => bs ≤ q)) (F0 m 38 ls []) := by
  have hx := B.1
  have hb := B.2.1
  have hown := B.2.2.2.1
  have hts := B.2.2.2.2.1
  unfold f_X10_passes_38 at hf
  refine lv_aload_n hx hb dX10_passes_38 rfl (lv_at hl 0 rfl) ?_
  obtain ⟨hg1, hf⟩ := z_g hf
  obtain ⟨q2, hv3, hf⟩ := z_nn hf
  refine z_getN B hW (Or.inr zf_X10_7) rfl hg1 hv3 dX10_passes_39 ?_
  refine lv_iconst (v := (3 : Int32)) hx hb dX10_passes_42 (by decide) ?_
  refine lv_dup2_11 hx hb dX10_passes_43 rfl rfl ?_
  obtain ⟨hg4, hf⟩ := z_g hf
  obtain ⟨hg5, hf⟩ := z_g hf
  refine z_ald B hW hg4 hg5 dX10_passes_44 ?_
  refine lv_aload_n hx hb dX10_passes_45 rfl (lv_at hl 0 rfl) ?_
  obtain ⟨q6, hv7, hf⟩ := z_nn hf
  refine z_getN B hW (Or.inr zf_X10_7) rfl hg1 hv7 dX10_passes_46 ?_
  refine lv_iconst (v := (1 : Int32)) hx hb dX10_passes_49 (by decide) ?_
  obtain ⟨hg8, hf⟩ := z_g hf
  obtain ⟨hg9, hf⟩ := z_g hf
  refine z_ald B hW hg8 hg9 dX10_passes_50 ?_
  refine lv_iadd hx hb dX10_passes_51 ?_
  obtain ⟨σ10, hs11, hf⟩ := z_l hf
  refine z_ast B hW hg4 hg5 hs11 dX10_passes_52 (fun H locs hW => ?_)
  refine lv_iinc (v := (l2 + (1 : Int32))) (lv' := [(2, .int (l2 + (1 : Int32))), (0, .ref l0), (1, .int l1)]) hx hb dX10_passes_53 hl (k := 2) rfl rfl (by decide) rfl (fun ls hl => ?_)
  refine lv_goto (tgt := 2) hx hb dX10_passes_56 (by decide) ?_
  exact hk1 _ _ (Option.some.inj hf).symm hW (lv_sub hl [1, 2, 0] rfl)
set_option maxRecDepth 100000 in
def b_X10_passes_2 (l0 : Nat) (l1 : Int32) (σ : zSt) (l2 : Int32) : Option ((zSt × Int32) ⊕ (zSt)) :=
(if (3 : Int32) ≤ l2 then
(zex (if z_ob σ l0 9 then (zb (f_X10_of σ l0 l1 (3 : Int32)) (fun r3 => (if r3 = l1 then
(f_X10_passes_101 σ l0 l1 r3)
else
(zb (f_X10_isInRing σ l0 r3) (fun r5 => (if r5 = 0 then
(f_X10_passes_101 σ l0 l1 r3)
else
(zc (z_R σ l0 0) none (fun q6 => (zb (f_X10_at σ r3 (2 : Int32)) (fun r9 => (if z_ar σ q6 0 then (if z_ix r9 (z_ln σ q6) then (zl (z_pI σ q6 r9.toNatClampNeg (0 : Int32)) (fun σ12 => (if z_ob σ12 l0 9 then (zc (z_R σ12 l0 0) none (fun q15 => (if z_ar σ12 q15 0 then (if z_ix (14 : Int32) (z_ln σ12 q15) then (zl (z_pI σ12 q15 (14 : Int32).toNatClampNeg ((z_I σ12 q15 (14 : Int32).toNatClampNeg) + (1 : Int32))) (fun σ19 => (f_X10_passes_101 σ19 l0 l1 r3))) else none) else none))) else none))) else none) else none))))))))))) else none))
else
(if z_ob σ l0 9 then (zb (f_X10_of σ l0 l1 (3 : Int32)) (fun r24 => (zb2 (f_X10_takes σ l0 (1 : Int32)) (fun r26 σ27 => (if r26 = 0 then
(if z_ob σ27 l0 9 then (zb (f_X10_isInRing σ27 l0 r24) (fun r30 => (if r30 = 0 then
(f_X10_passes_38 σ27 l0 l1 l2)
else
(zex (zc (z_R σ27 l0 0) none (fun q31 => (if z_ar σ27 q31 0 then (if z_ix (4 : Int32) (z_ln σ27 q31) then (zl (z_pI σ27 q31 (4 : Int32).toNatClampNeg r24) (fun σ35 => (some σ35))) else none) else none))))))) else none)
else
(f_X10_passes_38 σ27 l0 l1 l2)))))) else none))
set_option maxRecDepth 100000 in
def f_X10_passes_2 (l0 : Nat) (l1 : Int32) (σ : zSt) (l2 : Int32) : Option (zSt) := zloop (fun (t : zSt × Int32) => b_X10_passes_2 l0 l1 t.1 t.2) zN (σ, l2)
set_option maxRecDepth 20000 in
set_option maxHeartbeats 4000000 in
theorem tb_X10_passes_2 (B : z_B p s m args meth c D cA bs RX10 cX10_passes 5 none)  {σ' : zSt} {o1 : (zSt × Int32) ⊕ (zSt)} {l0 : Nat} {l1 : Int32} {σ : zSt} {l2 : Int32} (hf : b_X10_passes_2 l0 l1 σ l2 = some o1) {H : Heap} {locs : List Loc} {ls : Array Slot} (hW : z_Ok D cA bs s σ H locs) (hl : lv_has ls 5 [(0, .ref l0), (1, .int l1), (2, .int l2)]) (hk1 : ∀ (σ : zSt) (l2 : Int32), o1 = .inl (σ, l2) → ∀ {H : Heap} {locs : List Loc} {ls : Array Slot}, z_Ok D cA bs s σ H locs → lv_has ls 5 [(0, .ref l0), (1, .int l1), (2, .int l2)] → W p l e (zrm 3 0 0 64) s m args below meth c H locs 0 0 (MQ below (z_Qv D cA bs σ') args s 0 0 (fun q => bs ≤ q)) (F0 m 2 ls [])) (hr1 : ∀ x, o1 = .inr x → x = σ') : W p l e (zrm 3 0 0 64) s m args below meth c H locs 0 0 (MQ below (z_Qv D cA bs σ') args s 0 0 (fun q => bs ≤ q)) (F0 m 2 ls []) := by
  have hx := B.1
  have hb := B.2.1
  have hown := B.2.2.2.1
  have hts := B.2.2.2.2.1
  unfold b_X10_passes_2 at hf
  refine lv_iload_n hx hb dX10_passes_2 rfl (lv_at hl 2 rfl) ?_
  refine lv_iconst (v := (3 : Int32)) hx hb dX10_passes_3 (by decide) ?_
  refine lv_icmp_ge (tgt := 59) hx hb dX10_passes_4 (by decide) (fun hc4 => ?_) (fun hc4 => ?_)
  · replace hf := z_ip hc4 hf
    obtain ⟨w1, hf, ho21⟩ := z_x hf
    obtain rfl := hr1 _ ho21
    refine lv_aload_n hx hb dX10_passes_59 rfl (lv_at hl 0 rfl) ?_
    refine lv_iload_n hx hb dX10_passes_60 rfl (lv_at hl 1 rfl) ?_
    refine lv_iconst (v := (3 : Int32)) hx hb dX10_passes_61 (by decide) ?_
    obtain ⟨hg1, hf⟩ := z_g hf
    obtain ⟨r3, hq2, hf⟩ := z_b hf
    refine z_ci hW (z_runV (As := [.int l1, .int (3 : Int32)]) (rest := []) B hW zv_X10_39 (K_X10_of hq2) hg1 rfl rfl rfl (Nat.le_of_ble_eq_true rfl) hl.1 ⟨Nat.le_of_ble_eq_true rfl, Nat.le_of_ble_eq_true rfl⟩ dX10_passes_62 ⟨Nat.le_of_ble_eq_true rfl, Nat.le_of_ble_eq_true rfl⟩) (fun H locs hW => ?_)
    refine lv_istore_n (lv' := [(2, .int r3), (0, .ref l0), (1, .int l1)]) hx hb dX10_passes_65 rfl hl (by decide) rfl (fun ls hl => ?_)
    refine lv_iload_n hx hb dX10_passes_66 rfl (lv_at hl 0 rfl) ?_
    refine lv_iload_n hx hb dX10_passes_67 rfl (lv_at hl 2 rfl) ?_
    refine lv_icmp_eq (tgt := 101) hx hb dX10_passes_68 (by decide) (fun hc68 => ?_) (fun hc68 => ?_)
    · replace hf := z_ip hc68 hf
      exact t_X10_passes_101 B hf hW (lv_sub hl [1, 2, 0] rfl) 
    · replace hf := z_in hc68 hf
      refine lv_aload_n hx hb dX10_passes_71 rfl (lv_at hl 1 rfl) ?_
      refine lv_iload_n hx hb dX10_passes_72 rfl (lv_at hl 0 rfl) ?_
      obtain ⟨r5, hq4, hf⟩ := z_b hf
      refine z_ci hW (z_runV (As := [.int r3]) (rest := []) B hW zv_X10_83 (K_X10_isInRing hq4) hg1 rfl rfl rfl (Nat.le_of_ble_eq_true rfl) hl.1 ⟨Nat.le_of_ble_eq_true rfl, Nat.le_of_ble_eq_true rfl⟩ dX10_passes_73 ⟨Nat.le_of_ble_eq_true rfl, Nat.le_of_ble_eq_true rfl⟩) (fun H locs hW => ?_)
      refine lv_if_eq (tgt := 101) hx hb dX10_passes_76 (by decide) (fun hc76 => ?_) (fun hc76 => ?_)
      · replace hf := z_ip hc76 hf
        exact t_X10_passes_101 B hf hW (lv_sub hl [1, 2, 0] rfl) 
      · replace hf := z_in hc76 hf
        refine lv_aload_n hx hb dX10_passes_79 rfl (lv_at hl 1 rfl) ?_
        obtain ⟨q6, hv7, hf⟩ := z_nn hf
        refine z_getN B hW (Or.inr zf_X10_7) rfl hg1 hv7 dX10_passes_80 ?_
        refine lv_iload_n hx hb dX10_passes_83 rfl (lv_at hl 0 rfl) ?_
        refine lv_iconst (v := (2 : Int32)) hx hb dX10_passes_84 (by decide) ?_
        obtain ⟨r9, hq8, hf⟩ := z_b hf
        refine z_ci hW (z_runS (As := [.int r3, .int (2 : Int32)]) (rest := [.ref q6]) B hW zv_X10_29 (K_X10_at hq8) rfl rfl (Nat.le_of_ble_eq_true rfl) hl.1 ⟨Nat.le_of_ble_eq_true rfl, Nat.le_of_ble_eq_true rfl⟩ dX10_passes_85 ⟨Nat.le_of_ble_eq_true rfl, Nat.le_of_ble_eq_true rfl⟩) (fun H locs hW => ?_)
        refine lv_iconst (v := (0 : Int32)) hx hb dX10_passes_88 (by decide) ?_
        obtain ⟨hg10, hf⟩ := z_g hf
        obtain ⟨hg11, hf⟩ := z_g hf
        obtain ⟨σ12, hs13, hf⟩ := z_l hf
        refine z_ast B hW hg10 hg11 hs13 dX10_passes_89 (fun H locs hW => ?_)
        refine lv_aload_n hx hb dX10_passes_90 rfl (lv_at hl 1 rfl) ?_
        obtain ⟨hg14, hf⟩ := z_g hf
        obtain ⟨q15, hv16, hf⟩ := z_nn hf
        refine z_getN B hW (Or.inr zf_X10_7) rfl hg14 hv16 dX10_passes_91 ?_
        refine lv_bipush (v := (14 : Int32)) hx hb dX10_passes_94 (by decide) ?_
        refine lv_dup2_11 hx hb dX10_passes_96 rfl rfl ?_
        obtain ⟨hg17, hf⟩ := z_g hf
        obtain ⟨hg18, hf⟩ := z_g hf
        refine z_ald B hW hg17 hg18 dX10_passes_97 ?_
        refine lv_iconst (v := (1 : Int32)) hx hb dX10_passes_98 (by decide) ?_
        refine lv_iadd hx hb dX10_passes_99 ?_
        obtain ⟨σ19, hs20, hf⟩ := z_l hf
        refine z_ast B hW hg17 hg18 hs20 dX10_passes_100 (fun H locs hW => ?_)
        exact t_X10_passes_101 B hf hW (lv_sub hl [1, 2, 0] rfl) 
  · replace hf := z_in hc4 hf
    refine lv_aload_n hx hb dX10_passes_7 rfl (lv_at hl 0 rfl) ?_
    refine lv_iload_n hx hb dX10_passes_8 rfl (lv_at hl 1 rfl) ?_
    refine lv_iconst (v := (3 : Int32)) hx hb dX10_passes_9 (by decide) ?_
    obtain ⟨hg22, hf⟩ := z_g hf
    obtain ⟨r24, hq23, hf⟩ := z_b hf
    refine z_ci hW (z_runV (As := [.int l1, .int (3 : Int32)]) (rest := []) B hW zv_X10_39 (K_X10_of hq23) hg22 rfl rfl rfl (Nat.le_of_ble_eq_true rfl) hl.1 ⟨Nat.le_of_ble_eq_true rfl, Nat.le_of_ble_eq_true rfl⟩ dX10_passes_10 ⟨Nat.le_of_ble_eq_true rfl, Nat.le_of_ble_eq_true rfl⟩) (fun H locs hW => ?_)
    refine lv_istore_n (lv' := [(3, .int r24), (0, .ref l0), (1, .int l1), (2, .int l2)]) hx hb dX10_passes_13 rfl hl (by decide) rfl (fun ls hl => ?_)
    refine lv_aload_n hx hb dX10_passes_14 rfl (lv_at hl 1 rfl) ?_
    refine lv_iconst (v := (1 : Int32)) hx hb dX10_passes_15 (by decide) ?_
    obtain ⟨r26, σ27, hq25, hf⟩ := z_b2 hf
    refine z_ci hW (z_runV (As := [.int (1 : Int32)]) (rest := []) B hW zv_X10_89 (K_X10_takes hq25) hg22 rfl rfl rfl (Nat.le_of_ble_eq_true rfl) hl.1 ⟨Nat.le_of_ble_eq_true rfl, Nat.le_of_ble_eq_true rfl⟩ dX10_passes_16 ⟨Nat.le_of_ble_eq_true rfl, Nat.le_of_ble_eq_true rfl⟩) (fun H locs hW => ?_)
    refine lv_if_ne (tgt := 38) hx hb dX10_passes_19 (by decide) (fun hc19 => ?_) (fun hc19 => ?_)
    · replace hf := z_in hc19 hf
      exact t_X10_passes_38 B hf hW (lv_sub hl [1, 2, 3] rfl) hk1 hr1
    · replace hf := z_ip hc19 hf
      refine lv_aload_n hx hb dX10_passes_22 rfl (lv_at hl 1 rfl) ?_
      refine lv_iload_n hx hb dX10_passes_23 rfl (lv_at hl 0 rfl) ?_
      obtain ⟨hg28, hf⟩ := z_g hf
      obtain ⟨r30, hq29, hf⟩ := z_b hf
      refine z_ci hW (z_runV (As := [.int r24]) (rest := []) B hW zv_X10_83 (K_X10_isInRing hq29) hg28 rfl rfl rfl (Nat.le_of_ble_eq_true rfl) hl.1 ⟨Nat.le_of_ble_eq_true rfl, Nat.le_of_ble_eq_true rfl⟩ dX10_passes_24 ⟨Nat.le_of_ble_eq_true rfl, Nat.le_of_ble_eq_true rfl⟩) (fun H locs hW => ?_)
      refine lv_if_eq (tgt := 38) hx hb dX10_passes_27 (by decide) (fun hc27 => ?_) (fun hc27 => ?_)
      · replace hf := z_ip hc27 hf
        exact t_X10_passes_38 B hf hW (lv_sub hl [1, 2, 3] rfl) hk1 hr1
      · replace hf := z_in hc27 hf
        obtain ⟨w1, hf, ho37⟩ := z_x hf
        obtain rfl := hr1 _ ho37
        refine lv_aload_n hx hb dX10_passes_30 rfl (lv_at hl 1 rfl) ?_
        obtain ⟨q31, hv32, hf⟩ := z_nn hf
        refine z_getN B hW (Or.inr zf_X10_7) rfl hg28 hv32 dX10_passes_31 ?_
        refine lv_iconst (v := (4 : Int32)) hx hb dX10_passes_34 (by decide) ?_
        refine lv_iload_n hx hb dX10_passes_35 rfl (lv_at hl 0 rfl) ?_
        obtain ⟨hg33, hf⟩ := z_g hf
        obtain ⟨hg34, hf⟩ := z_g hf
        obtain ⟨σ35, hs36, hf⟩ := z_l hf
        refine z_ast B hW hg33 hg34 hs36 dX10_passes_36 (fun H locs hW => ?_)
        obtain rfl := z_e1 hf
        exact z_rv B hW dX10_passes_37 (Nat.le_of_ble_eq_true rfl) (Nat.le_of_ble_eq_true rfl)
set_option maxRecDepth 20000 in
set_option maxHeartbeats 4000000 in
theorem t_X10_passes_2 (B : z_B p s m args meth c D cA bs RX10 cX10_passes 5 none)  {σ' : zSt} {l0 : Nat} {l1 : Int32}  : ∀ (n : Nat) {σ : zSt} {l2 : Int32}, zloop (fun (t : zSt × Int32) => b_X10_passes_2 l0 l1 t.1 t.2) n (σ, l2) = some σ' → ∀ {H : Heap} {locs : List Loc} {ls : Array Slot}, z_Ok D cA bs s σ H locs → lv_has ls 5 [(0, .ref l0), (1, .int l1), (2, .int l2)] → W p l e (zrm 3 0 0 64) s m args below meth c H locs 0 0 (MQ below (z_Qv D cA bs σ') args s 0 0 (fun q => bs ≤ q)) (F0 m 2 ls []) := by
  intro n
  induction n with
  | zero => intro σ l2 hf; cases hf
  | succ n ih =>
    intro σ l2 hf H locs ls hW hl
    obtain ⟨o1, hb1, hf⟩ := z_lp hf
    refine tb_X10_passes_2 B hb1 hW hl  (fun σ l2 he H locs ls hW hl => ?_) (fun x he => ?_)
    · rcases hf with ⟨t, ht, hf⟩ | hf
      · rw [he] at ht
        cases ht
        exact ih hf hW hl
      · rw [he] at hf
        cases hf
    · rcases hf with ⟨t, ht, hf⟩ | hf
      · rw [he] at ht
        cases ht
      · rw [he] at hf
        exact Sum.inr.inj hf
set_option maxRecDepth 100000 in
def f_X10_passes (σ : zSt) (l0 : Nat) (l1 : Int32) : Option (zSt) :=
(f_X10_passes_2 l0 l1 σ (0 : Int32))
set_option maxRecDepth 20000 in
set_option maxHeartbeats 4000000 in
theorem K_X10_passes {σ : zSt} {l0 : Nat} {l1 : Int32}  {σ' : zSt} (hf : f_X10_passes σ l0 l1 = some σ') : z_M l D cA bs yX10_passes cX10_passes 5 none 3 64 0 0 [.ref l0, .int l1] σ (z_Qv D cA bs σ') := by
  refine z_met (own := RX10) (lv := [(0, .ref l0), (1, .int l1)]) (by decide) rfl (Nat.le_of_ble_eq_true rfl) rfl (fun p e s m below meth c ls B hnm hW hl => ?_)
  have hx := B.1
  have hb := B.2.1
  have hown := B.2.2.2.1
  have hts := B.2.2.2.2.1
  unfold f_X10_passes at hf
  refine lv_iconst (v := (0 : Int32)) hx hb dX10_passes_0 (by decide) ?_
  refine lv_istore_n (lv' := [(2, .int (0 : Int32)), (0, .ref l0), (1, .int l1)]) hx hb dX10_passes_1 rfl hl (by decide) rfl (fun ls hl => ?_)
  unfold f_X10_passes_2 at hf
  exact t_X10_passes_2 B  zN hf hW (lv_sub hl [1, 2, 0] rfl)
set_option maxRecDepth 100000 in
def f_X10_logs_58 (σ : zSt) (l0 : Nat) (l1 : Int32) (l2 : Int32) (l3 : Int32) (l4 : Int32) : Option (zSt) :=
(if z_ob σ l0 9 then (zc (z_R σ l0 0) none (fun q2 => (if z_ar σ q2 0 then (if z_ix (7 : Int32) (z_ln σ q2) then (zl ((782 : Int32) + ((4 : Int32) * (z_I σ q2 (7 : Int32).toNatClampNeg))) (fun x6 => (zc (z_R σ l0 0) none (fun q8 => (if z_ar σ q8 0 then (if z_ix x6 (z_ln σ q8) then (zl (z_pI σ q8 x6.toNatClampNeg l1) (fun σ12 => (if z_ob σ12 l0 9 then (zc (z_R σ12 l0 0) none (fun q15 => (if z_ar σ12 q15 0 then (if z_ix (x6 + (1 : Int32)) (z_ln σ12 q15) then (zl (z_pI σ12 q15 (x6 + (1 : Int32)).toNatClampNeg l2) (fun σ19 => (if z_ob σ19 l0 9 then (zc (z_R σ19 l0 0) none (fun q22 => (if z_ar σ19 q22 0 then (if z_ix (x6 + (2 : Int32)) (z_ln σ19 q22) then (zl (z_pI σ19 q22 (x6 + (2 : Int32)).toNatClampNeg l3) (fun σ26 => (if z_ob σ26 l0 9 then (zc (z_R σ26 l0 0) none (fun q29 => (if z_ar σ26 q29 0 then (if z_ix (x6 + (3 : Int32)) (z_ln σ26 q29) then (zl (z_pI σ26 q29 (x6 + (3 : Int32)).toNatClampNeg l4) (fun σ33 => (if z_ob σ33 l0 9 then (zc (z_R σ33 l0 0) none (fun q36 => (if z_ar σ33 q36 0 then (if z_ix (7 : Int32) (z_ln σ33 q36) then (zl (z_pI σ33 q36 (7 : Int32).toNatClampNeg ((z_I σ33 q36 (7 : Int32).toNatClampNeg) + (1 : Int32))) (fun σ40 => (some σ40))) else none) else none))) else none))) else none) else none))) else none))) else none) else none))) else none))) else none) else none))) else none))) else none) else none))))) else none) else none))) else none)
set_option maxRecDepth 20000 in
set_option maxHeartbeats 4000000 in
theorem t_X10_logs_58 (B : z_B p s m args meth c D cA bs RX10 cX10_logs 6 none)  {σ' : zSt} {σ : zSt} {l0 : Nat} {l1 : Int32} {l2 : Int32} {l3 : Int32} {l4 : Int32} (hf : f_X10_logs_58 σ l0 l1 l2 l3 l4 = some σ') {H : Heap} {locs : List Loc} {ls : Array Slot} (hW : z_Ok D cA bs s σ H locs) (hl : lv_has ls 6 [(0, .ref l0), (1, .int l1), (2, .int l2), (3, .int l3), (4, .int l4)])  : W p l e (zrm 0 0 0 0) s m args below meth c H locs 0 0 (MQ below (z_Qv D cA bs σ') args s 0 0 (fun q => bs ≤ q)) (F0 m 58 ls []) := by
  have hx := B.1
  have hb := B.2.1
  have hown := B.2.2.2.1
  have hts := B.2.2.2.2.1
  unfold f_X10_logs_58 at hf
  refine lv_sipush (v := (782 : Int32)) hx hb dX10_logs_58 (by decide) ?_
  refine lv_iconst (v := (4 : Int32)) hx hb dX10_logs_61 (by decide) ?_
  refine lv_aload_n hx hb dX10_logs_62 rfl (lv_at hl 0 rfl) ?_
  obtain ⟨hg1, hf⟩ := z_g hf
  obtain ⟨q2, hv3, hf⟩ := z_nn hf
  refine z_getN B hW (Or.inr zf_X10_7) rfl hg1 hv3 dX10_logs_63 ?_
  refine lv_bipush (v := (7 : Int32)) hx hb dX10_logs_66 (by decide) ?_
  obtain ⟨hg4, hf⟩ := z_g hf
  obtain ⟨hg5, hf⟩ := z_g hf
  refine z_ald B hW hg4 hg5 dX10_logs_68 ?_
  refine lv_imul hx hb dX10_logs_69 ?_
  refine lv_iadd hx hb dX10_logs_70 ?_
  obtain ⟨x6, hx7, hf⟩ := z_l hf
  rw [hx7]
  refine lv_istore (lv' := [(5, .int x6), (0, .ref l0), (1, .int l1), (2, .int l2), (3, .int l3), (4, .int l4)]) hx hb dX10_logs_71 hl (by decide) rfl (fun ls hl => ?_)
  refine lv_aload_n hx hb dX10_logs_73 rfl (lv_at hl 1 rfl) ?_
  obtain ⟨q8, hv9, hf⟩ := z_nn hf
  refine z_getN B hW (Or.inr zf_X10_7) rfl hg1 hv9 dX10_logs_74 ?_
  refine lv_iload hx hb dX10_logs_77 (lv_at hl 0 rfl) ?_
  refine lv_iload_n hx hb dX10_logs_79 rfl (lv_at hl 2 rfl) ?_
  obtain ⟨hg10, hf⟩ := z_g hf
  obtain ⟨hg11, hf⟩ := z_g hf
  obtain ⟨σ12, hs13, hf⟩ := z_l hf
  refine z_ast B hW hg10 hg11 hs13 dX10_logs_80 (fun H locs hW => ?_)
  refine lv_aload_n hx hb dX10_logs_81 rfl (lv_at hl 1 rfl) ?_
  obtain ⟨hg14, hf⟩ := z_g hf
  obtain ⟨q15, hv16, hf⟩ := z_nn hf
  refine z_getN B hW (Or.inr zf_X10_7) rfl hg14 hv16 dX10_logs_82 ?_
  refine lv_iload hx hb dX10_logs_85 (lv_at hl 0 rfl) ?_
  refine lv_iconst (v := (1 : Int32)) hx hb dX10_logs_87 (by decide) ?_
  refine lv_iadd hx hb dX10_logs_88 ?_
  refine lv_iload_n hx hb dX10_logs_89 rfl (lv_at hl 3 rfl) ?_
  obtain ⟨hg17, hf⟩ := z_g hf
  obtain ⟨hg18, hf⟩ := z_g hf
  obtain ⟨σ19, hs20, hf⟩ := z_l hf
  refine z_ast B hW hg17 hg18 hs20 dX10_logs_90 (fun H locs hW => ?_)
  refine lv_aload_n hx hb dX10_logs_91 rfl (lv_at hl 1 rfl) ?_
  obtain ⟨hg21, hf⟩ := z_g hf
  obtain ⟨q22, hv23, hf⟩ := z_nn hf
  refine z_getN B hW (Or.inr zf_X10_7) rfl hg21 hv23 dX10_logs_92 ?_
  refine lv_iload hx hb dX10_logs_95 (lv_at hl 0 rfl) ?_
  refine lv_iconst (v := (2 : Int32)) hx hb dX10_logs_97 (by decide) ?_
  refine lv_iadd hx hb dX10_logs_98 ?_
  refine lv_iload_n hx hb dX10_logs_99 rfl (lv_at hl 4 rfl) ?_
  obtain ⟨hg24, hf⟩ := z_g hf
  obtain ⟨hg25, hf⟩ := z_g hf
  obtain ⟨σ26, hs27, hf⟩ := z_l hf
  refine z_ast B hW hg24 hg25 hs27 dX10_logs_100 (fun H locs hW => ?_)
  refine lv_aload_n hx hb dX10_logs_101 rfl (lv_at hl 1 rfl) ?_
  obtain ⟨hg28, hf⟩ := z_g hf
  obtain ⟨q29, hv30, hf⟩ := z_nn hf
  refine z_getN B hW (Or.inr zf_X10_7) rfl hg28 hv30 dX10_logs_102 ?_
  refine lv_iload hx hb dX10_logs_105 (lv_at hl 0 rfl) ?_
  refine lv_iconst (v := (3 : Int32)) hx hb dX10_logs_107 (by decide) ?_
  refine lv_iadd hx hb dX10_logs_108 ?_
  refine lv_iload hx hb dX10_logs_109 (lv_at hl 5 rfl) ?_
  obtain ⟨hg31, hf⟩ := z_g hf
  obtain ⟨hg32, hf⟩ := z_g hf
  obtain ⟨σ33, hs34, hf⟩ := z_l hf
  refine z_ast B hW hg31 hg32 hs34 dX10_logs_111 (fun H locs hW => ?_)
  refine lv_aload_n hx hb dX10_logs_112 rfl (lv_at hl 1 rfl) ?_
  obtain ⟨hg35, hf⟩ := z_g hf
  obtain ⟨q36, hv37, hf⟩ := z_nn hf
  refine z_getN B hW (Or.inr zf_X10_7) rfl hg35 hv37 dX10_logs_113 ?_
  refine lv_bipush (v := (7 : Int32)) hx hb dX10_logs_116 (by decide) ?_
  refine lv_dup2_11 hx hb dX10_logs_118 rfl rfl ?_
  obtain ⟨hg38, hf⟩ := z_g hf
  obtain ⟨hg39, hf⟩ := z_g hf
  refine z_ald B hW hg38 hg39 dX10_logs_119 ?_
  refine lv_iconst (v := (1 : Int32)) hx hb dX10_logs_120 (by decide) ?_
  refine lv_iadd hx hb dX10_logs_121 ?_
  obtain ⟨σ40, hs41, hf⟩ := z_l hf
  refine z_ast B hW hg38 hg39 hs41 dX10_logs_122 (fun H locs hW => ?_)
  obtain rfl := z_e1 hf
  exact z_rv B hW dX10_logs_123 (Nat.le_of_ble_eq_true rfl) (Nat.le_of_ble_eq_true rfl)
set_option maxRecDepth 100000 in
def b_X10_logs_17 (l0 : Nat) (l1 : Int32) (l2 : Int32) (l3 : Int32) (l4 : Int32) (σ : zSt) (l5 : Int32) : Option ((zSt × Int32) ⊕ (zSt)) :=
(if (938 : Int32) ≤ l5 then
(zex (if z_ob σ l0 9 then (zc (z_R σ l0 0) none (fun q2 => (if z_ar σ q2 0 then (if z_ix (7 : Int32) (z_ln σ q2) then (zl (z_pI σ q2 (7 : Int32).toNatClampNeg ((z_I σ q2 (7 : Int32).toNatClampNeg) - (1 : Int32))) (fun σ6 => (f_X10_logs_58 σ6 l0 l1 l2 l3 l4))) else none) else none))) else none))
else
(if z_ob σ l0 9 then (zc (z_R σ l0 0) none (fun q10 => (zc (z_R σ l0 0) none (fun q12 => (if z_ar σ q12 0 then (if z_ix (l5 + (4 : Int32)) (z_ln σ q12) then (if z_ar σ q10 0 then (if z_ix l5 (z_ln σ q10) then (zl (z_pI σ q10 l5.toNatClampNeg (z_I σ q12 (l5 + (4 : Int32)).toNatClampNeg)) (fun σ18 => (some (.inl (σ18, (l5 + (1 : Int32))))))) else none) else none) else none) else none))))) else none))
set_option maxRecDepth 100000 in
def f_X10_logs_17 (l0 : Nat) (l1 : Int32) (l2 : Int32) (l3 : Int32) (l4 : Int32) (σ : zSt) (l5 : Int32) : Option (zSt) := zloop (fun (t : zSt × Int32) => b_X10_logs_17 l0 l1 l2 l3 l4 t.1 t.2) zN (σ, l5)
set_option maxRecDepth 20000 in
set_option maxHeartbeats 4000000 in
theorem tb_X10_logs_17 (B : z_B p s m args meth c D cA bs RX10 cX10_logs 6 none)  {σ' : zSt} {o1 : (zSt × Int32) ⊕ (zSt)} {l0 : Nat} {l1 : Int32} {l2 : Int32} {l3 : Int32} {l4 : Int32} {σ : zSt} {l5 : Int32} (hf : b_X10_logs_17 l0 l1 l2 l3 l4 σ l5 = some o1) {H : Heap} {locs : List Loc} {ls : Array Slot} (hW : z_Ok D cA bs s σ H locs) (hl : lv_has ls 6 [(0, .ref l0), (1, .int l1), (2, .int l2), (3, .int l3), (4, .int l4), (5, .int l5)]) (hk1 : ∀ (σ : zSt) (l5 : Int32), o1 = .inl (σ, l5) → ∀ {H : Heap} {locs : List Loc} {ls : Array Slot}, z_Ok D cA bs s σ H locs → lv_has ls 6 [(0, .ref l0), (1, .int l1), (2, .int l2), (3, .int l3), (4, .int l4), (5, .int l5)] → W p l e (zrm 0 0 0 0) s m args below meth c H locs 0 0 (MQ below (z_Qv D cA bs σ') args s 0 0 (fun q => bs ≤ q)) (F0 m 17 ls [])) (hr1 : ∀ x, o1 = .inr x → x = σ') : W p l e (zrm 0 0 0 0) s m args below meth c H locs 0 0 (MQ below (z_Qv D cA bs σ') args s 0 0 (fun q => bs ≤ q)) (F0 m 17 ls []) := by
  have hx := B.1
  have hb := B.2.1
  have hown := B.2.2.2.1
  have hts := B.2.2.2.2.1
  unfold b_X10_logs_17 at hf
  refine lv_iload hx hb dX10_logs_17 (lv_at hl 5 rfl) ?_
  refine lv_sipush (v := (938 : Int32)) hx hb dX10_logs_19 (by decide) ?_
  refine lv_icmp_ge (tgt := 47) hx hb dX10_logs_22 (by decide) (fun hc22 => ?_) (fun hc22 => ?_)
  · replace hf := z_ip hc22 hf
    obtain ⟨w1, hf, ho8⟩ := z_x hf
    obtain rfl := hr1 _ ho8
    refine lv_aload_n hx hb dX10_logs_47 rfl (lv_at hl 0 rfl) ?_
    obtain ⟨hg1, hf⟩ := z_g hf
    obtain ⟨q2, hv3, hf⟩ := z_nn hf
    refine z_getN B hW (Or.inr zf_X10_7) rfl hg1 hv3 dX10_logs_48 ?_
    refine lv_bipush (v := (7 : Int32)) hx hb dX10_logs_51 (by decide) ?_
    refine lv_dup2_11 hx hb dX10_logs_53 rfl rfl ?_
    obtain ⟨hg4, hf⟩ := z_g hf
    obtain ⟨hg5, hf⟩ := z_g hf
    refine z_ald B hW hg4 hg5 dX10_logs_54 ?_
    refine lv_iconst (v := (1 : Int32)) hx hb dX10_logs_55 (by decide) ?_
    refine lv_isub hx hb dX10_logs_56 ?_
    obtain ⟨σ6, hs7, hf⟩ := z_l hf
    refine z_ast B hW hg4 hg5 hs7 dX10_logs_57 (fun H locs hW => ?_)
    exact t_X10_logs_58 B hf hW (lv_sub hl [0, 1, 2, 3, 4] rfl) 
  · replace hf := z_in hc22 hf
    refine lv_aload_n hx hb dX10_logs_25 rfl (lv_at hl 0 rfl) ?_
    obtain ⟨hg9, hf⟩ := z_g hf
    obtain ⟨q10, hv11, hf⟩ := z_nn hf
    refine z_getN B hW (Or.inr zf_X10_7) rfl hg9 hv11 dX10_logs_26 ?_
    refine lv_iload hx hb dX10_logs_29 (lv_at hl 5 rfl) ?_
    refine lv_aload_n hx hb dX10_logs_31 rfl (lv_at hl 0 rfl) ?_
    obtain ⟨q12, hv13, hf⟩ := z_nn hf
    refine z_getN B hW (Or.inr zf_X10_7) rfl hg9 hv13 dX10_logs_32 ?_
    refine lv_iload hx hb dX10_logs_35 (lv_at hl 5 rfl) ?_
    refine lv_iconst (v := (4 : Int32)) hx hb dX10_logs_37 (by decide) ?_
    refine lv_iadd hx hb dX10_logs_38 ?_
    obtain ⟨hg14, hf⟩ := z_g hf
    obtain ⟨hg15, hf⟩ := z_g hf
    refine z_ald B hW hg14 hg15 dX10_logs_39 ?_
    obtain ⟨hg16, hf⟩ := z_g hf
    obtain ⟨hg17, hf⟩ := z_g hf
    obtain ⟨σ18, hs19, hf⟩ := z_l hf
    refine z_ast B hW hg16 hg17 hs19 dX10_logs_40 (fun H locs hW => ?_)
    refine lv_iinc (v := (l5 + (1 : Int32))) (lv' := [(5, .int (l5 + (1 : Int32))), (0, .ref l0), (1, .int l1), (2, .int l2), (3, .int l3), (4, .int l4)]) hx hb dX10_logs_41 hl (k := 5) rfl rfl (by decide) rfl (fun ls hl => ?_)
    refine lv_goto (tgt := 17) hx hb dX10_logs_44 (by decide) ?_
    exact hk1 _ _ (Option.some.inj hf).symm hW (lv_sub hl [1, 2, 3, 4, 5, 0] rfl)
set_option maxRecDepth 20000 in
set_option maxHeartbeats 4000000 in
theorem t_X10_logs_17 (B : z_B p s m args meth c D cA bs RX10 cX10_logs 6 none)  {σ' : zSt} {l0 : Nat} {l1 : Int32} {l2 : Int32} {l3 : Int32} {l4 : Int32}  : ∀ (n : Nat) {σ : zSt} {l5 : Int32}, zloop (fun (t : zSt × Int32) => b_X10_logs_17 l0 l1 l2 l3 l4 t.1 t.2) n (σ, l5) = some σ' → ∀ {H : Heap} {locs : List Loc} {ls : Array Slot}, z_Ok D cA bs s σ H locs → lv_has ls 6 [(0, .ref l0), (1, .int l1), (2, .int l2), (3, .int l3), (4, .int l4), (5, .int l5)] → W p l e (zrm 0 0 0 0) s m args below meth c H locs 0 0 (MQ below (z_Qv D cA bs σ') args s 0 0 (fun q => bs ≤ q)) (F0 m 17 ls []) := by
  intro n
  induction n with
  | zero => intro σ l5 hf; cases hf
  | succ n ih =>
    intro σ l5 hf H locs ls hW hl
    obtain ⟨o1, hb1, hf⟩ := z_lp hf
    refine tb_X10_logs_17 B hb1 hW hl  (fun σ l5 he H locs ls hW hl => ?_) (fun x he => ?_)
    · rcases hf with ⟨t, ht, hf⟩ | hf
      · rw [he] at ht
        cases ht
        exact ih hf hW hl
      · rw [he] at hf
        cases hf
    · rcases hf with ⟨t, ht, hf⟩ | hf
      · rw [he] at ht
        cases ht
      · rw [he] at hf
        exact Sum.inr.inj hf
set_option maxRecDepth 100000 in
def f_X10_logs (σ : zSt) (l0 : Nat) (l1 : Int32) (l2 : Int32) (l3 : Int32) (l4 : Int32) : Option (zSt) :=
(if z_ob σ l0 9 then (zc (z_R σ l0 0) none (fun q2 => (if z_ar σ q2 0 then (if z_ix (7 : Int32) (z_ln σ q2) then (if (z_I σ q2 (7 : Int32).toNatClampNeg) = (40 : Int32) then
(f_X10_logs_17 l0 l1 l2 l3 l4 σ (782 : Int32))
else
(f_X10_logs_58 σ l0 l1 l2 l3 l4)) else none) else none))) else none)
set_option maxRecDepth 20000 in
set_option maxHeartbeats 4000000 in
theorem K_X10_logs {σ : zSt} {l0 : Nat} {l1 : Int32} {l2 : Int32} {l3 : Int32} {l4 : Int32}  {σ' : zSt} (hf : f_X10_logs σ l0 l1 l2 l3 l4 = some σ') : z_M l D cA bs yX10_logs cX10_logs 6 none 0 0 0 0 [.ref l0, .int l1, .int l2, .int l3, .int l4] σ (z_Qv D cA bs σ') := by
  refine z_met (own := RX10) (lv := [(0, .ref l0), (1, .int l1), (2, .int l2), (3, .int l3), (4, .int l4)]) (by decide) rfl (Nat.le_of_ble_eq_true rfl) rfl (fun p e s m below meth c ls B hnm hW hl => ?_)
  have hx := B.1
  have hb := B.2.1
  have hown := B.2.2.2.1
  have hts := B.2.2.2.2.1
  unfold f_X10_logs at hf
  refine lv_aload_n hx hb dX10_logs_0 rfl (lv_at hl 0 rfl) ?_
  obtain ⟨hg1, hf⟩ := z_g hf
  obtain ⟨q2, hv3, hf⟩ := z_nn hf
  refine z_getN B hW (Or.inr zf_X10_7) rfl hg1 hv3 dX10_logs_1 ?_
  refine lv_bipush (v := (7 : Int32)) hx hb dX10_logs_4 (by decide) ?_
  obtain ⟨hg4, hf⟩ := z_g hf
  obtain ⟨hg5, hf⟩ := z_g hf
  refine z_ald B hW hg4 hg5 dX10_logs_6 ?_
  refine lv_bipush (v := (40 : Int32)) hx hb dX10_logs_7 (by decide) ?_
  refine lv_icmp_ne (tgt := 58) hx hb dX10_logs_9 (by decide) (fun hc9 => ?_) (fun hc9 => ?_)
  · replace hf := z_in hc9 hf
    exact t_X10_logs_58 B hf hW hl 
  · replace hf := z_ip hc9 hf
    refine lv_sipush (v := (782 : Int32)) hx hb dX10_logs_12 (by decide) ?_
    refine lv_istore (lv' := [(5, .int (782 : Int32)), (0, .ref l0), (1, .int l1), (2, .int l2), (3, .int l3), (4, .int l4)]) hx hb dX10_logs_15 hl (by decide) rfl (fun ls hl => ?_)
    unfold f_X10_logs_17 at hf
    exact t_X10_logs_17 B  zN hf hW (lv_sub hl [1, 2, 3, 4, 5, 0] rfl)
end GEN
