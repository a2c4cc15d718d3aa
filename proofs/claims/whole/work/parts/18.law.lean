section GEN
variable {p : Program} {l : Launch} {e : Env} {s : State} {m : MethodId} {below : List Frame} {meth : Method} {c : Code} {D : va_G} {cA : Nat → ClassId} {bs b L : Nat} {xs : Nat → Int32}
set_option maxRecDepth 100000 in
def f_L_law_1539 (xs : Nat → Int32) (L : Nat) (σ : zSt) (l1 : Nat) (l2 : Nat) (l3 : Nat) (l4 : Int32) : Option ((zSt × Int32) ⊕ (Int32)) :=
(some (.inl (σ, (l4 + (4 : Int32)))))
set_option maxRecDepth 20000 in
set_option maxHeartbeats 4000000 in
theorem t_L_law_1539 (B : z_B p s m #[Value.ref b] meth c D cA bs RL cL_law 9 ret) {cl sl : Nat} (hst : l.stackTraces = false) (hX : z_X bs s) (HL : z_L s bs b L xs) (hcl : cl + 1 ≤ 601024 ∧ sl + 6 ≤ 7293034)  {o1 : (zSt × Int32) ⊕ (Int32)} {σ : zSt} {l1 : Nat} {l2 : Nat} {l3 : Nat} {l4 : Int32} (hf : f_L_law_1539 xs L σ l1 l2 l3 l4 = some o1) {H : Heap} {locs : List Loc} {ls : Array Slot} (hW : z_Ok D cA bs s σ H locs) (hl : lv_has ls 9 [(0, .ref b), (1, .ref l1), (2, .ref l2), (3, .ref l3), (4, .int l4)]) (hk1 : ∀ (σ : zSt), o1 = .inl (σ, l4 + (4 : Int32)) → ∀ {H : Heap} {locs : List Loc} {ls : Array Slot}, z_Ok D cA bs s σ H locs → lv_has ls 9 [(0, .ref b), (1, .ref l1), (2, .ref l2), (3, .ref l3), (4, .int (l4 + (4 : Int32)))] → W p l e room_1 s m #[Value.ref b] below meth c H locs (cl + 1) (sl + 6) (lw_Z below #[Value.ref b] s) (F0 m 23 ls [])) (hr1 : ∀ x, o1 = .inr x → x = (1 : Int32)) : W p l e room_1 s m #[Value.ref b] below meth c H locs (cl + 1) (sl + 6) (lw_Z below #[Value.ref b] s) (F0 m 1539 ls []) := by
  have hx := B.1
  have hb := B.2.1
  have hown := B.2.2.2.1
  have hts := B.2.2.2.2.1
  unfold f_L_law_1539 at hf
  refine lv_iinc (v := (l4 + (4 : Int32))) (lv' := [(4, .int (l4 + (4 : Int32))), (0, .ref b), (1, .ref l1), (2, .ref l2), (3, .ref l3)]) hx hb dL_law_1539 hl (k := 4) rfl rfl (by decide) rfl (fun ls hl => ?_)
  refine lv_goto (tgt := 23) hx hb dL_law_1542 (by decide) ?_
  refine W.widen (k := cl + 1) (n := sl + 6) (by omega) (by omega) ?_
  exact hk1 _ (Option.some.inj hf).symm hW (lv_sub hl [1, 2, 3, 4, 0] rfl)
set_option maxRecDepth 100000 in
def f_L_law_213 (xs : Nat → Int32) (L : Nat) (σ : zSt) (l1 : Nat) (l2 : Nat) (l3 : Nat) (l4 : Int32) : Option ((zSt × Int32) ⊕ (Int32)) :=
(f_L_law_1539 xs L σ l1 l2 l3 l4)
set_option maxRecDepth 20000 in
set_option maxHeartbeats 4000000 in
theorem t_L_law_213 (B : z_B p s m #[Value.ref b] meth c D cA bs RL cL_law 9 ret) {cl sl : Nat} (hst : l.stackTraces = false) (hX : z_X bs s) (HL : z_L s bs b L xs) (hcl : cl + 1 ≤ 601024 ∧ sl + 6 ≤ 7293034)  {o1 : (zSt × Int32) ⊕ (Int32)} {σ : zSt} {l1 : Nat} {l2 : Nat} {l3 : Nat} {l4 : Int32} (hf : f_L_law_213 xs L σ l1 l2 l3 l4 = some o1) {H : Heap} {locs : List Loc} {ls : Array Slot} (hW : z_Ok D cA bs s σ H locs) (hl : lv_has ls 9 [(0, .ref b), (1, .ref l1), (2, .ref l2), (3, .ref l3), (4, .int l4)]) (hk1 : ∀ (σ : zSt), o1 = .inl (σ, l4 + (4 : Int32)) → ∀ {H : Heap} {locs : List Loc} {ls : Array Slot}, z_Ok D cA bs s σ H locs → lv_has ls 9 [(0, .ref b), (1, .ref l1), (2, .ref l2), (3, .ref l3), (4, .int (l4 + (4 : Int32)))] → W p l e room_1 s m #[Value.ref b] below meth c H locs (cl + 1) (sl + 6) (lw_Z below #[Value.ref b] s) (F0 m 23 ls [])) (hr1 : ∀ x, o1 = .inr x → x = (1 : Int32)) : W p l e room_1 s m #[Value.ref b] below meth c H locs (cl + 1) (sl + 6) (lw_Z below #[Value.ref b] s) (F0 m 213 ls []) := by
  have hx := B.1
  have hb := B.2.1
  have hown := B.2.2.2.1
  have hts := B.2.2.2.2.1
  unfold f_L_law_213 at hf
  refine lv_goto (tgt := 1539) hx hb dL_law_213 (by decide) ?_
  exact t_L_law_1539 B hst hX HL hcl hf hW hl hk1 hr1
set_option maxRecDepth 100000 in
def f_L_law_160 (xs : Nat → Int32) (L : Nat) (σ : zSt) (l1 : Nat) (l2 : Nat) (l3 : Nat) (l4 : Int32) : Option ((zSt × Int32) ⊕ (Int32)) :=
(if z_ix (l4 + (1 : Int32)) L then (zb2 (f_L_addStation σ l1 (xs (l4 + (1 : Int32)).toNatClampNeg) l3) (fun r3 σ4 => (if z_ix (l4 + (1 : Int32)) L then (if z_ob σ4 l2 9 then (zb2 (f_X10_addStation σ4 l2 (xs (l4 + (1 : Int32)).toNatClampNeg)) (fun r8 σ9 => (if z_ob σ9 l2 9 then (zb (f_X10_thrown σ9 l2) (fun r12 => (if r12 = r3 then
(if r3 = 0 then
(if z_ar σ9 l3 2 then (if z_ix (0 : Int32) (z_ln σ9 l3) then (if (lg_cmp (z_J σ9 l3 (0 : Int32).toNatClampNeg) r8.toInt64) = 0 then
(f_L_law_213 xs L σ9 l1 l2 l3 l4)
else
(zex (some (0 : Int32)))) else none) else none)
else
(f_L_law_213 xs L σ9 l1 l2 l3 l4))
else
(zex (some (0 : Int32)))))) else none))) else none) else none))) else none)
set_option maxRecDepth 20000 in
set_option maxHeartbeats 4000000 in
theorem t_L_law_160 (B : z_B p s m #[Value.ref b] meth c D cA bs RL cL_law 9 ret) {cl sl : Nat} (hst : l.stackTraces = false) (hX : z_X bs s) (HL : z_L s bs b L xs) (hcl : cl + 1 ≤ 601024 ∧ sl + 6 ≤ 7293034)  {o1 : (zSt × Int32) ⊕ (Int32)} {σ : zSt} {l1 : Nat} {l2 : Nat} {l3 : Nat} {l4 : Int32} (hf : f_L_law_160 xs L σ l1 l2 l3 l4 = some o1) {H : Heap} {locs : List Loc} {ls : Array Slot} (hW : z_Ok D cA bs s σ H locs) (hl : lv_has ls 9 [(0, .ref b), (1, .ref l1), (2, .ref l2), (3, .ref l3), (4, .int l4)]) (hk1 : ∀ (σ : zSt), o1 = .inl (σ, l4 + (4 : Int32)) → ∀ {H : Heap} {locs : List Loc} {ls : Array Slot}, z_Ok D cA bs s σ H locs → lv_has ls 9 [(0, .ref b), (1, .ref l1), (2, .ref l2), (3, .ref l3), (4, .int (l4 + (4 : Int32)))] → W p l e room_1 s m #[Value.ref b] below meth c H locs (cl + 1) (sl + 6) (lw_Z below #[Value.ref b] s) (F0 m 23 ls [])) (hr1 : ∀ x, o1 = .inr x → x = (1 : Int32)) : W p l e room_1 s m #[Value.ref b] below meth c H locs (cl + 0) (sl + 0) (lw_Z below #[Value.ref b] s) (F0 m 160 ls []) := by
  have hx := B.1
  have hb := B.2.1
  have hown := B.2.2.2.1
  have hts := B.2.2.2.2.1
  unfold f_L_law_160 at hf
  refine lv_aload_n hx hb dL_law_160 rfl (lv_at hl 1 rfl) ?_
  refine lv_aload_n hx hb dL_law_161 rfl (lv_at hl 0 rfl) ?_
  refine lv_iload hx hb dL_law_162 (lv_at hl 4 rfl) ?_
  refine lv_iconst (v := (1 : Int32)) hx hb dL_law_164 (by decide) ?_
  refine lv_iadd hx hb dL_law_165 ?_
  obtain ⟨hg1, hf⟩ := z_g hf
  refine z_sld B hW HL hg1 dL_law_166 ?_
  refine lv_aload_n hx hb dL_law_167 rfl (lv_at hl 3 rfl) ?_
  obtain ⟨r3, σ4, hq2, hf⟩ := z_b2 hf
  refine z_ci hW (z_runSW (As := [.ref l1, .int (xs (l4 + (1 : Int32)).toNatClampNeg), .ref l3]) (rest := []) B hX hW zl_L_84 (K_L_addStation hst hq2) rfl rfl (Nat.le_of_ble_eq_true rfl) hl.1 ⟨Nat.le_of_ble_eq_true rfl, Nat.le_of_ble_eq_true rfl⟩ dL_law_168 ⟨by show (cl + 0) + 1 ≤ 601024; omega, by show (sl + 0) + 6 ≤ 7293034; omega⟩) (fun H locs hW => ?_)
  refine lv_istore (lv' := [(5, .int r3), (0, .ref b), (1, .ref l1), (2, .ref l2), (3, .ref l3), (4, .int l4)]) hx hb dL_law_171 hl (by decide) rfl (fun ls hl => ?_)
  refine lv_aload_n hx hb dL_law_173 rfl (lv_at hl 3 rfl) ?_
  refine lv_aload_n hx hb dL_law_174 rfl (lv_at hl 1 rfl) ?_
  refine lv_iload hx hb dL_law_175 (lv_at hl 5 rfl) ?_
  refine lv_iconst (v := (1 : Int32)) hx hb dL_law_177 (by decide) ?_
  refine lv_iadd hx hb dL_law_178 ?_
  obtain ⟨hg5, hf⟩ := z_g hf
  refine z_sld B hW HL hg5 dL_law_179 ?_
  obtain ⟨hg6, hf⟩ := z_g hf
  obtain ⟨r8, σ9, hq7, hf⟩ := z_b2 hf
  refine z_ci hW (z_runV (As := [.int (xs (l4 + (1 : Int32)).toNatClampNeg)]) (rest := []) B hW zv_L_89 (K_X10_addStation hq7) hg6 rfl rfl rfl (Nat.le_of_ble_eq_true rfl) hl.1 ⟨Nat.le_of_ble_eq_true rfl, Nat.le_of_ble_eq_true rfl⟩ dL_law_180 ⟨by show (cl + 1) + 0 ≤ 601024; omega, by show (sl + 6) + 0 ≤ 7293034; omega⟩) (fun H locs hW => ?_)
  refine lv_istore (lv' := [(6, .int r8), (5, .int r3), (0, .ref b), (1, .ref l1), (2, .ref l2), (3, .ref l3), (4, .int l4)]) hx hb dL_law_183 hl (by decide) rfl (fun ls hl => ?_)
  refine lv_aload_n hx hb dL_law_185 rfl (lv_at hl 4 rfl) ?_
  obtain ⟨hg10, hf⟩ := z_g hf
  obtain ⟨r12, hq11, hf⟩ := z_b hf
  refine z_ci hW (z_runV (As := []) (rest := []) B hW zv_L_90 (K_X10_thrown hq11) hg10 rfl rfl rfl (Nat.le_of_ble_eq_true rfl) hl.1 ⟨Nat.le_of_ble_eq_true rfl, Nat.le_of_ble_eq_true rfl⟩ dL_law_186 ⟨by show (cl + 1) + 0 ≤ 601024; omega, by show (sl + 6) + 0 ≤ 7293034; omega⟩) (fun H locs hW => ?_)
  refine lv_iload hx hb dL_law_189 (lv_at hl 1 rfl) ?_
  refine lv_icmp_eq (tgt := 196) hx hb dL_law_191 (by decide) (fun hc191 => ?_) (fun hc191 => ?_)
  · replace hf := z_ip hc191 hf
    refine lv_iload hx hb dL_law_196 (lv_at hl 1 rfl) ?_
    refine lv_if_ne (tgt := 213) hx hb dL_law_198 (by decide) (fun hc198 => ?_) (fun hc198 => ?_)
    · replace hf := z_in hc198 hf
      exact t_L_law_213 B hst hX HL hcl hf hW (lv_sub hl [2, 3, 4, 5, 6] rfl) hk1 hr1
    · replace hf := z_ip hc198 hf
      refine lv_aload_n hx hb dL_law_201 rfl (lv_at hl 5 rfl) ?_
      refine lv_iconst (v := (0 : Int32)) hx hb dL_law_202 (by decide) ?_
      obtain ⟨hg13, hf⟩ := z_g hf
      obtain ⟨hg14, hf⟩ := z_g hf
      refine z_lald B hW hg13 hg14 dL_law_203 ?_
      refine lv_iload hx hb dL_law_204 (lv_at hl 0 rfl) ?_
      refine lv_i2l (v := r8.toInt64) hx hb dL_law_206 rfl ?_
      refine W.lcmp hx hb dL_law_207 ?_
      refine lv_if_eq (tgt := 213) hx hb dL_law_208 (by decide) (fun hc208 => ?_) (fun hc208 => ?_)
      · replace hf := z_ip hc208 hf
        exact t_L_law_213 B hst hX HL hcl hf hW (lv_sub hl [2, 3, 4, 5, 6] rfl) hk1 hr1
      · replace hf := z_in hc208 hf
        obtain ⟨w1, hf, ho15⟩ := z_x hf
        obtain rfl := hr1 _ ho15
        refine lv_iconst (v := (0 : Int32)) hx hb dL_law_211 (by decide) ?_
        exact absurd (Option.some.inj hf) (by decide)
  · replace hf := z_in hc191 hf
    obtain ⟨w1, hf, ho16⟩ := z_x hf
    obtain rfl := hr1 _ ho16
    refine lv_iconst (v := (0 : Int32)) hx hb dL_law_194 (by decide) ?_
    exact absurd (Option.some.inj hf) (by decide)
set_option maxRecDepth 100000 in
def f_L_law_304 (xs : Nat → Int32) (L : Nat) (σ : zSt) (l1 : Nat) (l2 : Nat) (l3 : Nat) (l4 : Int32) : Option ((zSt × Int32) ⊕ (Int32)) :=
(f_L_law_1539 xs L σ l1 l2 l3 l4)
set_option maxRecDepth 20000 in
set_option maxHeartbeats 4000000 in
theorem t_L_law_304 (B : z_B p s m #[Value.ref b] meth c D cA bs RL cL_law 9 ret) {cl sl : Nat} (hst : l.stackTraces = false) (hX : z_X bs s) (HL : z_L s bs b L xs) (hcl : cl + 1 ≤ 601024 ∧ sl + 6 ≤ 7293034)  {o1 : (zSt × Int32) ⊕ (Int32)} {σ : zSt} {l1 : Nat} {l2 : Nat} {l3 : Nat} {l4 : Int32} (hf : f_L_law_304 xs L σ l1 l2 l3 l4 = some o1) {H : Heap} {locs : List Loc} {ls : Array Slot} (hW : z_Ok D cA bs s σ H locs) (hl : lv_has ls 9 [(0, .ref b), (1, .ref l1), (2, .ref l2), (3, .ref l3), (4, .int l4)]) (hk1 : ∀ (σ : zSt), o1 = .inl (σ, l4 + (4 : Int32)) → ∀ {H : Heap} {locs : List Loc} {ls : Array Slot}, z_Ok D cA bs s σ H locs → lv_has ls 9 [(0, .ref b), (1, .ref l1), (2, .ref l2), (3, .ref l3), (4, .int (l4 + (4 : Int32)))] → W p l e room_1 s m #[Value.ref b] below meth c H locs (cl + 1) (sl + 6) (lw_Z below #[Value.ref b] s) (F0 m 23 ls [])) (hr1 : ∀ x, o1 = .inr x → x = (1 : Int32)) : W p l e room_1 s m #[Value.ref b] below meth c H locs (cl + 1) (sl + 6) (lw_Z below #[Value.ref b] s) (F0 m 304 ls []) := by
  have hx := B.1
  have hb := B.2.1
  have hown := B.2.2.2.1
  have hts := B.2.2.2.2.1
  unfold f_L_law_304 at hf
  refine lv_goto (tgt := 1539) hx hb dL_law_304 (by decide) ?_
  exact t_L_law_1539 B hst hX HL hcl hf hW hl hk1 hr1
set_option maxRecDepth 100000 in
def f_L_law_298 (xs : Nat → Int32) (L : Nat) (σ : zSt) (l1 : Nat) (l2 : Nat) (l3 : Nat) (l4 : Int32) (s0 : Int64) (s1 : Int64) : Option ((zSt × Int32) ⊕ (Int32)) :=
(if (lg_cmp s1 s0) = 0 then
(f_L_law_304 xs L σ l1 l2 l3 l4)
else
(zex (some (0 : Int32))))
set_option maxRecDepth 20000 in
set_option maxHeartbeats 4000000 in
theorem t_L_law_298 (B : z_B p s m #[Value.ref b] meth c D cA bs RL cL_law 9 ret) {cl sl : Nat} (hst : l.stackTraces = false) (hX : z_X bs s) (HL : z_L s bs b L xs) (hcl : cl + 1 ≤ 601024 ∧ sl + 6 ≤ 7293034)  {o1 : (zSt × Int32) ⊕ (Int32)} {σ : zSt} {l1 : Nat} {l2 : Nat} {l3 : Nat} {l4 : Int32} {s0 : Int64} {s1 : Int64} (hf : f_L_law_298 xs L σ l1 l2 l3 l4 s0 s1 = some o1) {H : Heap} {locs : List Loc} {ls : Array Slot} (hW : z_Ok D cA bs s σ H locs) (hl : lv_has ls 9 [(0, .ref b), (1, .ref l1), (2, .ref l2), (3, .ref l3), (4, .int l4)]) (hk1 : ∀ (σ : zSt), o1 = .inl (σ, l4 + (4 : Int32)) → ∀ {H : Heap} {locs : List Loc} {ls : Array Slot}, z_Ok D cA bs s σ H locs → lv_has ls 9 [(0, .ref b), (1, .ref l1), (2, .ref l2), (3, .ref l3), (4, .int (l4 + (4 : Int32)))] → W p l e room_1 s m #[Value.ref b] below meth c H locs (cl + 1) (sl + 6) (lw_Z below #[Value.ref b] s) (F0 m 23 ls [])) (hr1 : ∀ x, o1 = .inr x → x = (1 : Int32)) : W p l e room_1 s m #[Value.ref b] below meth c H locs (cl + 1) (sl + 6) (lw_Z below #[Value.ref b] s) (F0 m 298 ls [.long s0, .long s1]) := by
  have hx := B.1
  have hb := B.2.1
  have hown := B.2.2.2.1
  have hts := B.2.2.2.2.1
  unfold f_L_law_298 at hf
  refine W.lcmp hx hb dL_law_298 ?_
  refine lv_if_eq (tgt := 304) hx hb dL_law_299 (by decide) (fun hc299 => ?_) (fun hc299 => ?_)
  · replace hf := z_ip hc299 hf
    exact t_L_law_304 B hst hX HL hcl hf hW hl hk1 hr1
  · replace hf := z_in hc299 hf
    obtain ⟨w1, hf, ho1⟩ := z_x hf
    obtain rfl := hr1 _ ho1
    refine lv_iconst (v := (0 : Int32)) hx hb dL_law_302 (by decide) ?_
    exact absurd (Option.some.inj hf) (by decide)
set_option maxRecDepth 100000 in
def f_L_law_264 (xs : Nat → Int32) (L : Nat) (σ : zSt) (l1 : Nat) (l2 : Nat) (l3 : Nat) (l4 : Int32) (l5 : Int32) (s0 : Int32) (s1 : Int32) (s2 : Option Nat) : Option ((zSt × Int32) ⊕ (Int32)) :=
(zc s2 none (fun a1 => (if z_ob σ a1 9 then (zb2 (f_X10_setOn σ a1 s1 s0) (fun r5 σ6 => (if z_ob σ6 l2 9 then (zb (f_X10_thrown σ6 l2) (fun r9 => (if r9 = l5 then
(if l5 = 0 then
(if z_ar σ6 l3 2 then (if z_ix (0 : Int32) (z_ln σ6 l3) then (if r5 = 0 then
(f_L_law_298 xs L σ6 l1 l2 l3 l4 (0 : Int64) (z_J σ6 l3 (0 : Int32).toNatClampNeg))
else
(f_L_law_298 xs L σ6 l1 l2 l3 l4 (1 : Int64) (z_J σ6 l3 (0 : Int32).toNatClampNeg))) else none) else none)
else
(f_L_law_304 xs L σ6 l1 l2 l3 l4))
else
(zex (some (0 : Int32)))))) else none))) else none)))
set_option maxRecDepth 20000 in
set_option maxHeartbeats 4000000 in
theorem t_L_law_264 (B : z_B p s m #[Value.ref b] meth c D cA bs RL cL_law 9 ret) {cl sl : Nat} (hst : l.stackTraces = false) (hX : z_X bs s) (HL : z_L s bs b L xs) (hcl : cl + 1 ≤ 601024 ∧ sl + 6 ≤ 7293034)  {o1 : (zSt × Int32) ⊕ (Int32)} {σ : zSt} {l1 : Nat} {l2 : Nat} {l3 : Nat} {l4 : Int32} {l5 : Int32} {s0 : Int32} {s1 : Int32} {s2 : Option Nat} (hf : f_L_law_264 xs L σ l1 l2 l3 l4 l5 s0 s1 s2 = some o1) {H : Heap} {locs : List Loc} {ls : Array Slot} (hW : z_Ok D cA bs s σ H locs) (hl : lv_has ls 9 [(0, .ref b), (1, .ref l1), (2, .ref l2), (3, .ref l3), (4, .int l4), (5, .int l5)]) (hk1 : ∀ (σ : zSt), o1 = .inl (σ, l4 + (4 : Int32)) → ∀ {H : Heap} {locs : List Loc} {ls : Array Slot}, z_Ok D cA bs s σ H locs → lv_has ls 9 [(0, .ref b), (1, .ref l1), (2, .ref l2), (3, .ref l3), (4, .int (l4 + (4 : Int32)))] → W p l e room_1 s m #[Value.ref b] below meth c H locs (cl + 1) (sl + 6) (lw_Z below #[Value.ref b] s) (F0 m 23 ls [])) (hr1 : ∀ x, o1 = .inr x → x = (1 : Int32)) : W p l e room_1 s m #[Value.ref b] below meth c H locs (cl + 1) (sl + 6) (lw_Z below #[Value.ref b] s) (F0 m 264 ls [.int s0, .int s1, va_rf s2]) := by
  have hx := B.1
  have hb := B.2.1
  have hown := B.2.2.2.1
  have hts := B.2.2.2.2.1
  unfold f_L_law_264 at hf
  obtain ⟨a1, hn2, hf9⟩ := z_nn hf
  clear hf
  subst hn2
  have hf := hf9
  clear hf9
  obtain ⟨hg3, hf⟩ := z_g hf
  obtain ⟨r5, σ6, hq4, hf⟩ := z_b2 hf
  refine z_ci hW (z_runV (As := [.int s1, .int s0]) (rest := []) B hW zv_L_96 (K_X10_setOn hq4) hg3 rfl rfl rfl (Nat.le_of_ble_eq_true rfl) hl.1 ⟨Nat.le_of_ble_eq_true rfl, Nat.le_of_ble_eq_true rfl⟩ dL_law_264 ⟨by show (cl + 1) + 0 ≤ 601024; omega, by show (sl + 6) + 0 ≤ 7293034; omega⟩) (fun H locs hW => ?_)
  refine lv_istore (lv' := [(6, .int r5), (0, .ref b), (1, .ref l1), (2, .ref l2), (3, .ref l3), (4, .int l4), (5, .int l5)]) hx hb dL_law_267 hl (by decide) rfl (fun ls hl => ?_)
  refine lv_aload_n hx hb dL_law_269 rfl (lv_at hl 3 rfl) ?_
  obtain ⟨hg7, hf⟩ := z_g hf
  obtain ⟨r9, hq8, hf⟩ := z_b hf
  refine z_ci hW (z_runV (As := []) (rest := []) B hW zv_L_90 (K_X10_thrown hq8) hg7 rfl rfl rfl (Nat.le_of_ble_eq_true rfl) hl.1 ⟨Nat.le_of_ble_eq_true rfl, Nat.le_of_ble_eq_true rfl⟩ dL_law_270 ⟨by show (cl + 1) + 0 ≤ 601024; omega, by show (sl + 6) + 0 ≤ 7293034; omega⟩) (fun H locs hW => ?_)
  refine lv_iload hx hb dL_law_273 (lv_at hl 6 rfl) ?_
  refine lv_icmp_eq (tgt := 280) hx hb dL_law_275 (by decide) (fun hc275 => ?_) (fun hc275 => ?_)
  · replace hf := z_ip hc275 hf
    refine lv_iload hx hb dL_law_280 (lv_at hl 6 rfl) ?_
    refine lv_if_ne (tgt := 304) hx hb dL_law_282 (by decide) (fun hc282 => ?_) (fun hc282 => ?_)
    · replace hf := z_in hc282 hf
      exact t_L_law_304 B hst hX HL hcl hf hW (lv_sub hl [1, 2, 3, 4, 5] rfl) hk1 hr1
    · replace hf := z_ip hc282 hf
      refine lv_aload_n hx hb dL_law_285 rfl (lv_at hl 4 rfl) ?_
      refine lv_iconst (v := (0 : Int32)) hx hb dL_law_286 (by decide) ?_
      obtain ⟨hg10, hf⟩ := z_g hf
      obtain ⟨hg11, hf⟩ := z_g hf
      refine z_lald B hW hg10 hg11 dL_law_287 ?_
      refine lv_iload hx hb dL_law_288 (lv_at hl 0 rfl) ?_
      refine lv_if_eq (tgt := 297) hx hb dL_law_290 (by decide) (fun hc290 => ?_) (fun hc290 => ?_)
      · replace hf := z_ip hc290 hf
        refine lv_lconst (v := (0 : Int64)) hx hb dL_law_297 (by decide) ?_
        exact t_L_law_298 B hst hX HL hcl hf hW (lv_sub hl [1, 2, 3, 4, 5] rfl) hk1 hr1
      · replace hf := z_in hc290 hf
        refine lv_lconst (v := (1 : Int64)) hx hb dL_law_293 (by decide) ?_
        refine lv_goto (tgt := 298) hx hb dL_law_294 (by decide) ?_
        exact t_L_law_298 B hst hX HL hcl hf hW (lv_sub hl [1, 2, 3, 4, 5] rfl) hk1 hr1
  · replace hf := z_in hc275 hf
    obtain ⟨w1, hf, ho12⟩ := z_x hf
    obtain rfl := hr1 _ ho12
    refine lv_iconst (v := (0 : Int32)) hx hb dL_law_278 (by decide) ?_
    exact absurd (Option.some.inj hf) (by decide)
set_option maxRecDepth 100000 in
def f_L_law_237 (xs : Nat → Int32) (L : Nat) (σ : zSt) (l1 : Nat) (l2 : Nat) (l3 : Nat) (l4 : Int32) (s0 : Int32) (s1 : Int32) (s2 : Option Nat) : Option ((zSt × Int32) ⊕ (Int32)) :=
(zc s2 none (fun a1 => (zb2 (f_L_setOn σ a1 s1 s0 l3) (fun r4 σ5 => (if z_ix (l4 + (1 : Int32)) L then (if z_ix (l4 + (2 : Int32)) L then (if (xs (l4 + (2 : Int32)).toNatClampNeg) = 0 then
(f_L_law_264 xs L σ5 l1 l2 l3 l4 r4 (0 : Int32) (xs (l4 + (1 : Int32)).toNatClampNeg) (some l2))
else
(f_L_law_264 xs L σ5 l1 l2 l3 l4 r4 (1 : Int32) (xs (l4 + (1 : Int32)).toNatClampNeg) (some l2))) else none) else none)))))
set_option maxRecDepth 20000 in
set_option maxHeartbeats 4000000 in
theorem t_L_law_237 (B : z_B p s m #[Value.ref b] meth c D cA bs RL cL_law 9 ret) {cl sl : Nat} (hst : l.stackTraces = false) (hX : z_X bs s) (HL : z_L s bs b L xs) (hcl : cl + 1 ≤ 601024 ∧ sl + 6 ≤ 7293034)  {o1 : (zSt × Int32) ⊕ (Int32)} {σ : zSt} {l1 : Nat} {l2 : Nat} {l3 : Nat} {l4 : Int32} {s0 : Int32} {s1 : Int32} {s2 : Option Nat} (hf : f_L_law_237 xs L σ l1 l2 l3 l4 s0 s1 s2 = some o1) {H : Heap} {locs : List Loc} {ls : Array Slot} (hW : z_Ok D cA bs s σ H locs) (hl : lv_has ls 9 [(0, .ref b), (1, .ref l1), (2, .ref l2), (3, .ref l3), (4, .int l4)]) (hk1 : ∀ (σ : zSt), o1 = .inl (σ, l4 + (4 : Int32)) → ∀ {H : Heap} {locs : List Loc} {ls : Array Slot}, z_Ok D cA bs s σ H locs → lv_has ls 9 [(0, .ref b), (1, .ref l1), (2, .ref l2), (3, .ref l3), (4, .int (l4 + (4 : Int32)))] → W p l e room_1 s m #[Value.ref b] below meth c H locs (cl + 1) (sl + 6) (lw_Z below #[Value.ref b] s) (F0 m 23 ls [])) (hr1 : ∀ x, o1 = .inr x → x = (1 : Int32)) : W p l e room_1 s m #[Value.ref b] below meth c H locs (cl + 0) (sl + 0) (lw_Z below #[Value.ref b] s) (F0 m 237 ls [.int s0, .int s1, va_rf s2]) := by
  have hx := B.1
  have hb := B.2.1
  have hown := B.2.2.2.1
  have hts := B.2.2.2.2.1
  unfold f_L_law_237 at hf
  refine lv_aload_n hx hb dL_law_237 rfl (lv_at hl 3 rfl) ?_
  obtain ⟨a1, hn2, hf9⟩ := z_nn hf
  clear hf
  subst hn2
  have hf := hf9
  clear hf9
  obtain ⟨r4, σ5, hq3, hf⟩ := z_b2 hf
  refine z_ci hW (z_runSW (As := [.ref a1, .int s1, .int s0, .ref l3]) (rest := []) B hX hW zl_L_93 (K_L_setOn hst hq3) rfl rfl (Nat.le_of_ble_eq_true rfl) hl.1 ⟨Nat.le_of_ble_eq_true rfl, Nat.le_of_ble_eq_true rfl⟩ dL_law_238 ⟨by show (cl + 0) + 1 ≤ 601024; omega, by show (sl + 0) + 6 ≤ 7293034; omega⟩) (fun H locs hW => ?_)
  refine lv_istore (lv' := [(5, .int r4), (0, .ref b), (1, .ref l1), (2, .ref l2), (3, .ref l3), (4, .int l4)]) hx hb dL_law_241 hl (by decide) rfl (fun ls hl => ?_)
  refine lv_aload_n hx hb dL_law_243 rfl (lv_at hl 3 rfl) ?_
  refine lv_aload_n hx hb dL_law_244 rfl (lv_at hl 1 rfl) ?_
  refine lv_iload hx hb dL_law_245 (lv_at hl 5 rfl) ?_
  refine lv_iconst (v := (1 : Int32)) hx hb dL_law_247 (by decide) ?_
  refine lv_iadd hx hb dL_law_248 ?_
  obtain ⟨hg6, hf⟩ := z_g hf
  refine z_sld B hW HL hg6 dL_law_249 ?_
  refine lv_aload_n hx hb dL_law_250 rfl (lv_at hl 1 rfl) ?_
  refine lv_iload hx hb dL_law_251 (lv_at hl 5 rfl) ?_
  refine lv_iconst (v := (2 : Int32)) hx hb dL_law_253 (by decide) ?_
  refine lv_iadd hx hb dL_law_254 ?_
  obtain ⟨hg7, hf⟩ := z_g hf
  refine z_sld B hW HL hg7 dL_law_255 ?_
  refine lv_if_eq (tgt := 263) hx hb dL_law_256 (by decide) (fun hc256 => ?_) (fun hc256 => ?_)
  · replace hf := z_ip hc256 hf
    refine lv_iconst (v := (0 : Int32)) hx hb dL_law_263 (by decide) ?_
    exact t_L_law_264 B hst hX HL hcl hf hW (lv_sub hl [1, 2, 3, 4, 5, 0] rfl) hk1 hr1
  · replace hf := z_in hc256 hf
    refine lv_iconst (v := (1 : Int32)) hx hb dL_law_259 (by decide) ?_
    refine lv_goto (tgt := 264) hx hb dL_law_260 (by decide) ?_
    exact t_L_law_264 B hst hX HL hcl hf hW (lv_sub hl [1, 2, 3, 4, 5, 0] rfl) hk1 hr1
set_option maxRecDepth 100000 in
def f_L_law_216 (xs : Nat → Int32) (L : Nat) (σ : zSt) (l1 : Nat) (l2 : Nat) (l3 : Nat) (l4 : Int32) : Option ((zSt × Int32) ⊕ (Int32)) :=
(if z_ix (l4 + (1 : Int32)) L then (if z_ix (l4 + (2 : Int32)) L then (if (xs (l4 + (2 : Int32)).toNatClampNeg) = 0 then
(f_L_law_237 xs L σ l1 l2 l3 l4 (0 : Int32) (xs (l4 + (1 : Int32)).toNatClampNeg) (some l1))
else
(f_L_law_237 xs L σ l1 l2 l3 l4 (1 : Int32) (xs (l4 + (1 : Int32)).toNatClampNeg) (some l1))) else none) else none)
set_option maxRecDepth 20000 in
set_option maxHeartbeats 4000000 in
theorem t_L_law_216 (B : z_B p s m #[Value.ref b] meth c D cA bs RL cL_law 9 ret) {cl sl : Nat} (hst : l.stackTraces = false) (hX : z_X bs s) (HL : z_L s bs b L xs) (hcl : cl + 1 ≤ 601024 ∧ sl + 6 ≤ 7293034)  {o1 : (zSt × Int32) ⊕ (Int32)} {σ : zSt} {l1 : Nat} {l2 : Nat} {l3 : Nat} {l4 : Int32} (hf : f_L_law_216 xs L σ l1 l2 l3 l4 = some o1) {H : Heap} {locs : List Loc} {ls : Array Slot} (hW : z_Ok D cA bs s σ H locs) (hl : lv_has ls 9 [(0, .ref b), (1, .ref l1), (2, .ref l2), (3, .ref l3), (4, .int l4)]) (hk1 : ∀ (σ : zSt), o1 = .inl (σ, l4 + (4 : Int32)) → ∀ {H : Heap} {locs : List Loc} {ls : Array Slot}, z_Ok D cA bs s σ H locs → lv_has ls 9 [(0, .ref b), (1, .ref l1), (2, .ref l2), (3, .ref l3), (4, .int (l4 + (4 : Int32)))] → W p l e room_1 s m #[Value.ref b] below meth c H locs (cl + 1) (sl + 6) (lw_Z below #[Value.ref b] s) (F0 m 23 ls [])) (hr1 : ∀ x, o1 = .inr x → x = (1 : Int32)) : W p l e room_1 s m #[Value.ref b] below meth c H locs (cl + 0) (sl + 0) (lw_Z below #[Value.ref b] s) (F0 m 216 ls []) := by
  have hx := B.1
  have hb := B.2.1
  have hown := B.2.2.2.1
  have hts := B.2.2.2.2.1
  unfold f_L_law_216 at hf
  refine lv_aload_n hx hb dL_law_216 rfl (lv_at hl 1 rfl) ?_
  refine lv_aload_n hx hb dL_law_217 rfl (lv_at hl 0 rfl) ?_
  refine lv_iload hx hb dL_law_218 (lv_at hl 4 rfl) ?_
  refine lv_iconst (v := (1 : Int32)) hx hb dL_law_220 (by decide) ?_
  refine lv_iadd hx hb dL_law_221 ?_
  obtain ⟨hg1, hf⟩ := z_g hf
  refine z_sld B hW HL hg1 dL_law_222 ?_
  refine lv_aload_n hx hb dL_law_223 rfl (lv_at hl 0 rfl) ?_
  refine lv_iload hx hb dL_law_224 (lv_at hl 4 rfl) ?_
  refine lv_iconst (v := (2 : Int32)) hx hb dL_law_226 (by decide) ?_
  refine lv_iadd hx hb dL_law_227 ?_
  obtain ⟨hg2, hf⟩ := z_g hf
  refine z_sld B hW HL hg2 dL_law_228 ?_
  refine lv_if_eq (tgt := 236) hx hb dL_law_229 (by decide) (fun hc229 => ?_) (fun hc229 => ?_)
  · replace hf := z_ip hc229 hf
    refine lv_iconst (v := (0 : Int32)) hx hb dL_law_236 (by decide) ?_
    exact t_L_law_237 B hst hX HL hcl hf hW hl hk1 hr1
  · replace hf := z_in hc229 hf
    refine lv_iconst (v := (1 : Int32)) hx hb dL_law_232 (by decide) ?_
    refine lv_goto (tgt := 237) hx hb dL_law_233 (by decide) ?_
    exact t_L_law_237 B hst hX HL hcl hf hW hl hk1 hr1
set_option maxRecDepth 100000 in
def f_L_law_384 (xs : Nat → Int32) (L : Nat) (σ : zSt) (l1 : Nat) (l2 : Nat) (l3 : Nat) (l4 : Int32) : Option ((zSt × Int32) ⊕ (Int32)) :=
(f_L_law_1539 xs L σ l1 l2 l3 l4)
set_option maxRecDepth 20000 in
set_option maxHeartbeats 4000000 in
theorem t_L_law_384 (B : z_B p s m #[Value.ref b] meth c D cA bs RL cL_law 9 ret) {cl sl : Nat} (hst : l.stackTraces = false) (hX : z_X bs s) (HL : z_L s bs b L xs) (hcl : cl + 1 ≤ 601024 ∧ sl + 6 ≤ 7293034)  {o1 : (zSt × Int32) ⊕ (Int32)} {σ : zSt} {l1 : Nat} {l2 : Nat} {l3 : Nat} {l4 : Int32} (hf : f_L_law_384 xs L σ l1 l2 l3 l4 = some o1) {H : Heap} {locs : List Loc} {ls : Array Slot} (hW : z_Ok D cA bs s σ H locs) (hl : lv_has ls 9 [(0, .ref b), (1, .ref l1), (2, .ref l2), (3, .ref l3), (4, .int l4)]) (hk1 : ∀ (σ : zSt), o1 = .inl (σ, l4 + (4 : Int32)) → ∀ {H : Heap} {locs : List Loc} {ls : Array Slot}, z_Ok D cA bs s σ H locs → lv_has ls 9 [(0, .ref b), (1, .ref l1), (2, .ref l2), (3, .ref l3), (4, .int (l4 + (4 : Int32)))] → W p l e room_1 s m #[Value.ref b] below meth c H locs (cl + 1) (sl + 6) (lw_Z below #[Value.ref b] s) (F0 m 23 ls [])) (hr1 : ∀ x, o1 = .inr x → x = (1 : Int32)) : W p l e room_1 s m #[Value.ref b] below meth c H locs (cl + 1) (sl + 6) (lw_Z below #[Value.ref b] s) (F0 m 384 ls []) := by
  have hx := B.1
  have hb := B.2.1
  have hown := B.2.2.2.1
  have hts := B.2.2.2.2.1
  unfold f_L_law_384 at hf
  refine lv_goto (tgt := 1539) hx hb dL_law_384 (by decide) ?_
  exact t_L_law_1539 B hst hX HL hcl hf hW hl hk1 hr1
set_option maxRecDepth 100000 in
def f_L_law_307 (xs : Nat → Int32) (L : Nat) (σ : zSt) (l1 : Nat) (l2 : Nat) (l3 : Nat) (l4 : Int32) : Option ((zSt × Int32) ⊕ (Int32)) :=
(if z_ix (l4 + (1 : Int32)) L then (if z_ix (l4 + (2 : Int32)) L then (if z_ix (l4 + (3 : Int32)) L then (zb2 (f_L_setTimes σ l1 (xs (l4 + (1 : Int32)).toNatClampNeg) (xs (l4 + (2 : Int32)).toNatClampNeg) (xs (l4 + (3 : Int32)).toNatClampNeg) l3) (fun r5 σ6 => (if z_ix (l4 + (1 : Int32)) L then (if z_ix (l4 + (2 : Int32)) L then (if z_ix (l4 + (3 : Int32)) L then (if z_ob σ6 l2 9 then (zb2 (f_X10_setTimes σ6 l2 (xs (l4 + (1 : Int32)).toNatClampNeg) (xs (l4 + (2 : Int32)).toNatClampNeg) (xs (l4 + (3 : Int32)).toNatClampNeg)) (fun r12 σ13 => (if z_ob σ13 l2 9 then (zb (f_X10_thrown σ13 l2) (fun r16 => (if r16 = r5 then
(if r5 = 0 then
(if z_ar σ13 l3 2 then (if z_ix (0 : Int32) (z_ln σ13 l3) then (if (lg_cmp (z_J σ13 l3 (0 : Int32).toNatClampNeg) r12.toInt64) = 0 then
(f_L_law_384 xs L σ13 l1 l2 l3 l4)
else
(zex (some (0 : Int32)))) else none) else none)
else
(f_L_law_384 xs L σ13 l1 l2 l3 l4))
else
(zex (some (0 : Int32)))))) else none))) else none) else none) else none) else none))) else none) else none) else none)
set_option maxRecDepth 20000 in
set_option maxHeartbeats 4000000 in
theorem t_L_law_307 (B : z_B p s m #[Value.ref b] meth c D cA bs RL cL_law 9 ret) {cl sl : Nat} (hst : l.stackTraces = false) (hX : z_X bs s) (HL : z_L s bs b L xs) (hcl : cl + 1 ≤ 601024 ∧ sl + 6 ≤ 7293034)  {o1 : (zSt × Int32) ⊕ (Int32)} {σ : zSt} {l1 : Nat} {l2 : Nat} {l3 : Nat} {l4 : Int32} (hf : f_L_law_307 xs L σ l1 l2 l3 l4 = some o1) {H : Heap} {locs : List Loc} {ls : Array Slot} (hW : z_Ok D cA bs s σ H locs) (hl : lv_has ls 9 [(0, .ref b), (1, .ref l1), (2, .ref l2), (3, .ref l3), (4, .int l4)]) (hk1 : ∀ (σ : zSt), o1 = .inl (σ, l4 + (4 : Int32)) → ∀ {H : Heap} {locs : List Loc} {ls : Array Slot}, z_Ok D cA bs s σ H locs → lv_has ls 9 [(0, .ref b), (1, .ref l1), (2, .ref l2), (3, .ref l3), (4, .int (l4 + (4 : Int32)))] → W p l e room_1 s m #[Value.ref b] below meth c H locs (cl + 1) (sl + 6) (lw_Z below #[Value.ref b] s) (F0 m 23 ls [])) (hr1 : ∀ x, o1 = .inr x → x = (1 : Int32)) : W p l e room_1 s m #[Value.ref b] below meth c H locs (cl + 0) (sl + 0) (lw_Z below #[Value.ref b] s) (F0 m 307 ls []) := by
  have hx := B.1
  have hb := B.2.1
  have hown := B.2.2.2.1
  have hts := B.2.2.2.2.1
  unfold f_L_law_307 at hf
  refine lv_aload_n hx hb dL_law_307 rfl (lv_at hl 1 rfl) ?_
  refine lv_aload_n hx hb dL_law_308 rfl (lv_at hl 0 rfl) ?_
  refine lv_iload hx hb dL_law_309 (lv_at hl 4 rfl) ?_
  refine lv_iconst (v := (1 : Int32)) hx hb dL_law_311 (by decide) ?_
  refine lv_iadd hx hb dL_law_312 ?_
  obtain ⟨hg1, hf⟩ := z_g hf
  refine z_sld B hW HL hg1 dL_law_313 ?_
  refine lv_aload_n hx hb dL_law_314 rfl (lv_at hl 0 rfl) ?_
  refine lv_iload hx hb dL_law_315 (lv_at hl 4 rfl) ?_
  refine lv_iconst (v := (2 : Int32)) hx hb dL_law_317 (by decide) ?_
  refine lv_iadd hx hb dL_law_318 ?_
  obtain ⟨hg2, hf⟩ := z_g hf
  refine z_sld B hW HL hg2 dL_law_319 ?_
  refine lv_aload_n hx hb dL_law_320 rfl (lv_at hl 0 rfl) ?_
  refine lv_iload hx hb dL_law_321 (lv_at hl 4 rfl) ?_
  refine lv_iconst (v := (3 : Int32)) hx hb dL_law_323 (by decide) ?_
  refine lv_iadd hx hb dL_law_324 ?_
  obtain ⟨hg3, hf⟩ := z_g hf
  refine z_sld B hW HL hg3 dL_law_325 ?_
  refine lv_aload_n hx hb dL_law_326 rfl (lv_at hl 3 rfl) ?_
  obtain ⟨r5, σ6, hq4, hf⟩ := z_b2 hf
  refine z_ci hW (z_runSW (As := [.ref l1, .int (xs (l4 + (1 : Int32)).toNatClampNeg), .int (xs (l4 + (2 : Int32)).toNatClampNeg), .int (xs (l4 + (3 : Int32)).toNatClampNeg), .ref l3]) (rest := []) B hX hW zl_L_97 (K_L_setTimes hst hq4) rfl rfl (Nat.le_of_ble_eq_true rfl) hl.1 ⟨Nat.le_of_ble_eq_true rfl, Nat.le_of_ble_eq_true rfl⟩ dL_law_327 ⟨by show (cl + 0) + 1 ≤ 601024; omega, by show (sl + 0) + 6 ≤ 7293034; omega⟩) (fun H locs hW => ?_)
  refine lv_istore (lv' := [(5, .int r5), (0, .ref b), (1, .ref l1), (2, .ref l2), (3, .ref l3), (4, .int l4)]) hx hb dL_law_330 hl (by decide) rfl (fun ls hl => ?_)
  refine lv_aload_n hx hb dL_law_332 rfl (lv_at hl 3 rfl) ?_
  refine lv_aload_n hx hb dL_law_333 rfl (lv_at hl 1 rfl) ?_
  refine lv_iload hx hb dL_law_334 (lv_at hl 5 rfl) ?_
  refine lv_iconst (v := (1 : Int32)) hx hb dL_law_336 (by decide) ?_
  refine lv_iadd hx hb dL_law_337 ?_
  obtain ⟨hg7, hf⟩ := z_g hf
  refine z_sld B hW HL hg7 dL_law_338 ?_
  refine lv_aload_n hx hb dL_law_339 rfl (lv_at hl 1 rfl) ?_
  refine lv_iload hx hb dL_law_340 (lv_at hl 5 rfl) ?_
  refine lv_iconst (v := (2 : Int32)) hx hb dL_law_342 (by decide) ?_
  refine lv_iadd hx hb dL_law_343 ?_
  obtain ⟨hg8, hf⟩ := z_g hf
  refine z_sld B hW HL hg8 dL_law_344 ?_
  refine lv_aload_n hx hb dL_law_345 rfl (lv_at hl 1 rfl) ?_
  refine lv_iload hx hb dL_law_346 (lv_at hl 5 rfl) ?_
  refine lv_iconst (v := (3 : Int32)) hx hb dL_law_348 (by decide) ?_
  refine lv_iadd hx hb dL_law_349 ?_
  obtain ⟨hg9, hf⟩ := z_g hf
  refine z_sld B hW HL hg9 dL_law_350 ?_
  obtain ⟨hg10, hf⟩ := z_g hf
  obtain ⟨r12, σ13, hq11, hf⟩ := z_b2 hf
  refine z_ci hW (z_runV (As := [.int (xs (l4 + (1 : Int32)).toNatClampNeg), .int (xs (l4 + (2 : Int32)).toNatClampNeg), .int (xs (l4 + (3 : Int32)).toNatClampNeg)]) (rest := []) B hW zv_L_100 (K_X10_setTimes hq11) hg10 rfl rfl rfl (Nat.le_of_ble_eq_true rfl) hl.1 ⟨Nat.le_of_ble_eq_true rfl, Nat.le_of_ble_eq_true rfl⟩ dL_law_351 ⟨by show (cl + 1) + 0 ≤ 601024; omega, by show (sl + 6) + 0 ≤ 7293034; omega⟩) (fun H locs hW => ?_)
  refine lv_istore (lv' := [(6, .int r12), (5, .int r5), (0, .ref b), (1, .ref l1), (2, .ref l2), (3, .ref l3), (4, .int l4)]) hx hb dL_law_354 hl (by decide) rfl (fun ls hl => ?_)
  refine lv_aload_n hx hb dL_law_356 rfl (lv_at hl 4 rfl) ?_
  obtain ⟨hg14, hf⟩ := z_g hf
  obtain ⟨r16, hq15, hf⟩ := z_b hf
  refine z_ci hW (z_runV (As := []) (rest := []) B hW zv_L_90 (K_X10_thrown hq15) hg14 rfl rfl rfl (Nat.le_of_ble_eq_true rfl) hl.1 ⟨Nat.le_of_ble_eq_true rfl, Nat.le_of_ble_eq_true rfl⟩ dL_law_357 ⟨by show (cl + 1) + 0 ≤ 601024; omega, by show (sl + 6) + 0 ≤ 7293034; omega⟩) (fun H locs hW => ?_)
  refine lv_iload hx hb dL_law_360 (lv_at hl 1 rfl) ?_
  refine lv_icmp_eq (tgt := 367) hx hb dL_law_362 (by decide) (fun hc362 => ?_) (fun hc362 => ?_)
  · replace hf := z_ip hc362 hf
    refine lv_iload hx hb dL_law_367 (lv_at hl 1 rfl) ?_
    refine lv_if_ne (tgt := 384) hx hb dL_law_369 (by decide) (fun hc369 => ?_) (fun hc369 => ?_)
    · replace hf := z_in hc369 hf
      exact t_L_law_384 B hst hX HL hcl hf hW (lv_sub hl [2, 3, 4, 5, 6] rfl) hk1 hr1
    · replace hf := z_ip hc369 hf
      refine lv_aload_n hx hb dL_law_372 rfl (lv_at hl 5 rfl) ?_
      refine lv_iconst (v := (0 : Int32)) hx hb dL_law_373 (by decide) ?_
      obtain ⟨hg17, hf⟩ := z_g hf
      obtain ⟨hg18, hf⟩ := z_g hf
      refine z_lald B hW hg17 hg18 dL_law_374 ?_
      refine lv_iload hx hb dL_law_375 (lv_at hl 0 rfl) ?_
      refine lv_i2l (v := r12.toInt64) hx hb dL_law_377 rfl ?_
      refine W.lcmp hx hb dL_law_378 ?_
      refine lv_if_eq (tgt := 384) hx hb dL_law_379 (by decide) (fun hc379 => ?_) (fun hc379 => ?_)
      · replace hf := z_ip hc379 hf
        exact t_L_law_384 B hst hX HL hcl hf hW (lv_sub hl [2, 3, 4, 5, 6] rfl) hk1 hr1
      · replace hf := z_in hc379 hf
        obtain ⟨w1, hf, ho19⟩ := z_x hf
        obtain rfl := hr1 _ ho19
        refine lv_iconst (v := (0 : Int32)) hx hb dL_law_382 (by decide) ?_
        exact absurd (Option.some.inj hf) (by decide)
  · replace hf := z_in hc362 hf
    obtain ⟨w1, hf, ho20⟩ := z_x hf
    obtain rfl := hr1 _ ho20
    refine lv_iconst (v := (0 : Int32)) hx hb dL_law_365 (by decide) ?_
    exact absurd (Option.some.inj hf) (by decide)
set_option maxRecDepth 100000 in
def f_L_law_464 (xs : Nat → Int32) (L : Nat) (σ : zSt) (l1 : Nat) (l2 : Nat) (l3 : Nat) (l4 : Int32) : Option ((zSt × Int32) ⊕ (Int32)) :=
(f_L_law_1539 xs L σ l1 l2 l3 l4)
set_option maxRecDepth 20000 in
set_option maxHeartbeats 4000000 in
theorem t_L_law_464 (B : z_B p s m #[Value.ref b] meth c D cA bs RL cL_law 9 ret) {cl sl : Nat} (hst : l.stackTraces = false) (hX : z_X bs s) (HL : z_L s bs b L xs) (hcl : cl + 1 ≤ 601024 ∧ sl + 6 ≤ 7293034)  {o1 : (zSt × Int32) ⊕ (Int32)} {σ : zSt} {l1 : Nat} {l2 : Nat} {l3 : Nat} {l4 : Int32} (hf : f_L_law_464 xs L σ l1 l2 l3 l4 = some o1) {H : Heap} {locs : List Loc} {ls : Array Slot} (hW : z_Ok D cA bs s σ H locs) (hl : lv_has ls 9 [(0, .ref b), (1, .ref l1), (2, .ref l2), (3, .ref l3), (4, .int l4)]) (hk1 : ∀ (σ : zSt), o1 = .inl (σ, l4 + (4 : Int32)) → ∀ {H : Heap} {locs : List Loc} {ls : Array Slot}, z_Ok D cA bs s σ H locs → lv_has ls 9 [(0, .ref b), (1, .ref l1), (2, .ref l2), (3, .ref l3), (4, .int (l4 + (4 : Int32)))] → W p l e room_1 s m #[Value.ref b] below meth c H locs (cl + 1) (sl + 6) (lw_Z below #[Value.ref b] s) (F0 m 23 ls [])) (hr1 : ∀ x, o1 = .inr x → x = (1 : Int32)) : W p l e room_1 s m #[Value.ref b] below meth c H locs (cl + 1) (sl + 6) (lw_Z below #[Value.ref b] s) (F0 m 464 ls []) := by
  have hx := B.1
  have hb := B.2.1
  have hown := B.2.2.2.1
  have hts := B.2.2.2.2.1
  unfold f_L_law_464 at hf
  refine lv_goto (tgt := 1539) hx hb dL_law_464 (by decide) ?_
  exact t_L_law_1539 B hst hX HL hcl hf hW hl hk1 hr1
set_option maxRecDepth 100000 in
def f_L_law_387 (xs : Nat → Int32) (L : Nat) (σ : zSt) (l1 : Nat) (l2 : Nat) (l3 : Nat) (l4 : Int32) : Option ((zSt × Int32) ⊕ (Int32)) :=
(if z_ix (l4 + (1 : Int32)) L then (if z_ix (l4 + (2 : Int32)) L then (if z_ix (l4 + (3 : Int32)) L then (zb2 (f_L_give σ l1 (xs (l4 + (1 : Int32)).toNatClampNeg) (xs (l4 + (2 : Int32)).toNatClampNeg) (xs (l4 + (3 : Int32)).toNatClampNeg) l3) (fun r5 σ6 => (if z_ix (l4 + (1 : Int32)) L then (if z_ix (l4 + (2 : Int32)) L then (if z_ix (l4 + (3 : Int32)) L then (if z_ob σ6 l2 9 then (zb2 (f_X10_give σ6 l2 (xs (l4 + (1 : Int32)).toNatClampNeg) (xs (l4 + (2 : Int32)).toNatClampNeg) (xs (l4 + (3 : Int32)).toNatClampNeg)) (fun r12 σ13 => (if z_ob σ13 l2 9 then (zb (f_X10_thrown σ13 l2) (fun r16 => (if r16 = r5 then
(if r5 = 0 then
(if z_ar σ13 l3 2 then (if z_ix (0 : Int32) (z_ln σ13 l3) then (if (lg_cmp (z_J σ13 l3 (0 : Int32).toNatClampNeg) r12.toInt64) = 0 then
(f_L_law_464 xs L σ13 l1 l2 l3 l4)
else
(zex (some (0 : Int32)))) else none) else none)
else
(f_L_law_464 xs L σ13 l1 l2 l3 l4))
else
(zex (some (0 : Int32)))))) else none))) else none) else none) else none) else none))) else none) else none) else none)
set_option maxRecDepth 20000 in
set_option maxHeartbeats 4000000 in
theorem t_L_law_387 (B : z_B p s m #[Value.ref b] meth c D cA bs RL cL_law 9 ret) {cl sl : Nat} (hst : l.stackTraces = false) (hX : z_X bs s) (HL : z_L s bs b L xs) (hcl : cl + 1 ≤ 601024 ∧ sl + 6 ≤ 7293034)  {o1 : (zSt × Int32) ⊕ (Int32)} {σ : zSt} {l1 : Nat} {l2 : Nat} {l3 : Nat} {l4 : Int32} (hf : f_L_law_387 xs L σ l1 l2 l3 l4 = some o1) {H : Heap} {locs : List Loc} {ls : Array Slot} (hW : z_Ok D cA bs s σ H locs) (hl : lv_has ls 9 [(0, .ref b), (1, .ref l1), (2, .ref l2), (3, .ref l3), (4, .int l4)]) (hk1 : ∀ (σ : zSt), o1 = .inl (σ, l4 + (4 : Int32)) → ∀ {H : Heap} {locs : List Loc} {ls : Array Slot}, z_Ok D cA bs s σ H locs → lv_has ls 9 [(0, .ref b), (1, .ref l1), (2, .ref l2), (3, .ref l3), (4, .int (l4 + (4 : Int32)))] → W p l e room_1 s m #[Value.ref b] below meth c H locs (cl + 1) (sl + 6) (lw_Z below #[Value.ref b] s) (F0 m 23 ls [])) (hr1 : ∀ x, o1 = .inr x → x = (1 : Int32)) : W p l e room_1 s m #[Value.ref b] below meth c H locs (cl + 0) (sl + 0) (lw_Z below #[Value.ref b] s) (F0 m 387 ls []) := by
  have hx := B.1
  have hb := B.2.1
  have hown := B.2.2.2.1
  have hts := B.2.2.2.2.1
  unfold f_L_law_387 at hf
  refine lv_aload_n hx hb dL_law_387 rfl (lv_at hl 1 rfl) ?_
  refine lv_aload_n hx hb dL_law_388 rfl (lv_at hl 0 rfl) ?_
  refine lv_iload hx hb dL_law_389 (lv_at hl 4 rfl) ?_
  refine lv_iconst (v := (1 : Int32)) hx hb dL_law_391 (by decide) ?_
  refine lv_iadd hx hb dL_law_392 ?_
  obtain ⟨hg1, hf⟩ := z_g hf
  refine z_sld B hW HL hg1 dL_law_393 ?_
  refine lv_aload_n hx hb dL_law_394 rfl (lv_at hl 0 rfl) ?_
  refine lv_iload hx hb dL_law_395 (lv_at hl 4 rfl) ?_
  refine lv_iconst (v := (2 : Int32)) hx hb dL_law_397 (by decide) ?_
  refine lv_iadd hx hb dL_law_398 ?_
  obtain ⟨hg2, hf⟩ := z_g hf
  refine z_sld B hW HL hg2 dL_law_399 ?_
  refine lv_aload_n hx hb dL_law_400 rfl (lv_at hl 0 rfl) ?_
  refine lv_iload hx hb dL_law_401 (lv_at hl 4 rfl) ?_
  refine lv_iconst (v := (3 : Int32)) hx hb dL_law_403 (by decide) ?_
  refine lv_iadd hx hb dL_law_404 ?_
  obtain ⟨hg3, hf⟩ := z_g hf
  refine z_sld B hW HL hg3 dL_law_405 ?_
  refine lv_aload_n hx hb dL_law_406 rfl (lv_at hl 3 rfl) ?_
  obtain ⟨r5, σ6, hq4, hf⟩ := z_b2 hf
  refine z_ci hW (z_runSW (As := [.ref l1, .int (xs (l4 + (1 : Int32)).toNatClampNeg), .int (xs (l4 + (2 : Int32)).toNatClampNeg), .int (xs (l4 + (3 : Int32)).toNatClampNeg), .ref l3]) (rest := []) B hX hW zl_L_101 (K_L_give hst hq4) rfl rfl (Nat.le_of_ble_eq_true rfl) hl.1 ⟨Nat.le_of_ble_eq_true rfl, Nat.le_of_ble_eq_true rfl⟩ dL_law_407 ⟨by show (cl + 0) + 1 ≤ 601024; omega, by show (sl + 0) + 6 ≤ 7293034; omega⟩) (fun H locs hW => ?_)
  refine lv_istore (lv' := [(5, .int r5), (0, .ref b), (1, .ref l1), (2, .ref l2), (3, .ref l3), (4, .int l4)]) hx hb dL_law_410 hl (by decide) rfl (fun ls hl => ?_)
  refine lv_aload_n hx hb dL_law_412 rfl (lv_at hl 3 rfl) ?_
  refine lv_aload_n hx hb dL_law_413 rfl (lv_at hl 1 rfl) ?_
  refine lv_iload hx hb dL_law_414 (lv_at hl 5 rfl) ?_
  refine lv_iconst (v := (1 : Int32)) hx hb dL_law_416 (by decide) ?_
  refine lv_iadd hx hb dL_law_417 ?_
  obtain ⟨hg7, hf⟩ := z_g hf
  refine z_sld B hW HL hg7 dL_law_418 ?_
  refine lv_aload_n hx hb dL_law_419 rfl (lv_at hl 1 rfl) ?_
  refine lv_iload hx hb dL_law_420 (lv_at hl 5 rfl) ?_
  refine lv_iconst (v := (2 : Int32)) hx hb dL_law_422 (by decide) ?_
  refine lv_iadd hx hb dL_law_423 ?_
  obtain ⟨hg8, hf⟩ := z_g hf
  refine z_sld B hW HL hg8 dL_law_424 ?_
  refine lv_aload_n hx hb dL_law_425 rfl (lv_at hl 1 rfl) ?_
  refine lv_iload hx hb dL_law_426 (lv_at hl 5 rfl) ?_
  refine lv_iconst (v := (3 : Int32)) hx hb dL_law_428 (by decide) ?_
  refine lv_iadd hx hb dL_law_429 ?_
  obtain ⟨hg9, hf⟩ := z_g hf
  refine z_sld B hW HL hg9 dL_law_430 ?_
  obtain ⟨hg10, hf⟩ := z_g hf
  obtain ⟨r12, σ13, hq11, hf⟩ := z_b2 hf
  refine z_ci hW (z_runV (As := [.int (xs (l4 + (1 : Int32)).toNatClampNeg), .int (xs (l4 + (2 : Int32)).toNatClampNeg), .int (xs (l4 + (3 : Int32)).toNatClampNeg)]) (rest := []) B hW zv_L_103 (K_X10_give hq11) hg10 rfl rfl rfl (Nat.le_of_ble_eq_true rfl) hl.1 ⟨Nat.le_of_ble_eq_true rfl, Nat.le_of_ble_eq_true rfl⟩ dL_law_431 ⟨by show (cl + 1) + 0 ≤ 601024; omega, by show (sl + 6) + 0 ≤ 7293034; omega⟩) (fun H locs hW => ?_)
  refine lv_istore (lv' := [(6, .int r12), (5, .int r5), (0, .ref b), (1, .ref l1), (2, .ref l2), (3, .ref l3), (4, .int l4)]) hx hb dL_law_434 hl (by decide) rfl (fun ls hl => ?_)
  refine lv_aload_n hx hb dL_law_436 rfl (lv_at hl 4 rfl) ?_
  obtain ⟨hg14, hf⟩ := z_g hf
  obtain ⟨r16, hq15, hf⟩ := z_b hf
  refine z_ci hW (z_runV (As := []) (rest := []) B hW zv_L_90 (K_X10_thrown hq15) hg14 rfl rfl rfl (Nat.le_of_ble_eq_true rfl) hl.1 ⟨Nat.le_of_ble_eq_true rfl, Nat.le_of_ble_eq_true rfl⟩ dL_law_437 ⟨by show (cl + 1) + 0 ≤ 601024; omega, by show (sl + 6) + 0 ≤ 7293034; omega⟩) (fun H locs hW => ?_)
  refine lv_iload hx hb dL_law_440 (lv_at hl 1 rfl) ?_
  refine lv_icmp_eq (tgt := 447) hx hb dL_law_442 (by decide) (fun hc442 => ?_) (fun hc442 => ?_)
  · replace hf := z_ip hc442 hf
    refine lv_iload hx hb dL_law_447 (lv_at hl 1 rfl) ?_
    refine lv_if_ne (tgt := 464) hx hb dL_law_449 (by decide) (fun hc449 => ?_) (fun hc449 => ?_)
    · replace hf := z_in hc449 hf
      exact t_L_law_464 B hst hX HL hcl hf hW (lv_sub hl [2, 3, 4, 5, 6] rfl) hk1 hr1
    · replace hf := z_ip hc449 hf
      refine lv_aload_n hx hb dL_law_452 rfl (lv_at hl 5 rfl) ?_
      refine lv_iconst (v := (0 : Int32)) hx hb dL_law_453 (by decide) ?_
      obtain ⟨hg17, hf⟩ := z_g hf
      obtain ⟨hg18, hf⟩ := z_g hf
      refine z_lald B hW hg17 hg18 dL_law_454 ?_
      refine lv_iload hx hb dL_law_455 (lv_at hl 0 rfl) ?_
      refine lv_i2l (v := r12.toInt64) hx hb dL_law_457 rfl ?_
      refine W.lcmp hx hb dL_law_458 ?_
      refine lv_if_eq (tgt := 464) hx hb dL_law_459 (by decide) (fun hc459 => ?_) (fun hc459 => ?_)
      · replace hf := z_ip hc459 hf
        exact t_L_law_464 B hst hX HL hcl hf hW (lv_sub hl [2, 3, 4, 5, 6] rfl) hk1 hr1
      · replace hf := z_in hc459 hf
        obtain ⟨w1, hf, ho19⟩ := z_x hf
        obtain rfl := hr1 _ ho19
        refine lv_iconst (v := (0 : Int32)) hx hb dL_law_462 (by decide) ?_
        exact absurd (Option.some.inj hf) (by decide)
  · replace hf := z_in hc442 hf
    obtain ⟨w1, hf, ho20⟩ := z_x hf
    obtain rfl := hr1 _ ho20
    refine lv_iconst (v := (0 : Int32)) hx hb dL_law_445 (by decide) ?_
    exact absurd (Option.some.inj hf) (by decide)
set_option maxRecDepth 100000 in
def f_L_law_532 (xs : Nat → Int32) (L : Nat) (σ : zSt) (l1 : Nat) (l2 : Nat) (l3 : Nat) (l4 : Int32) : Option ((zSt × Int32) ⊕ (Int32)) :=
(f_L_law_1539 xs L σ l1 l2 l3 l4)
set_option maxRecDepth 20000 in
set_option maxHeartbeats 4000000 in
theorem t_L_law_532 (B : z_B p s m #[Value.ref b] meth c D cA bs RL cL_law 9 ret) {cl sl : Nat} (hst : l.stackTraces = false) (hX : z_X bs s) (HL : z_L s bs b L xs) (hcl : cl + 1 ≤ 601024 ∧ sl + 6 ≤ 7293034)  {o1 : (zSt × Int32) ⊕ (Int32)} {σ : zSt} {l1 : Nat} {l2 : Nat} {l3 : Nat} {l4 : Int32} (hf : f_L_law_532 xs L σ l1 l2 l3 l4 = some o1) {H : Heap} {locs : List Loc} {ls : Array Slot} (hW : z_Ok D cA bs s σ H locs) (hl : lv_has ls 9 [(0, .ref b), (1, .ref l1), (2, .ref l2), (3, .ref l3), (4, .int l4)]) (hk1 : ∀ (σ : zSt), o1 = .inl (σ, l4 + (4 : Int32)) → ∀ {H : Heap} {locs : List Loc} {ls : Array Slot}, z_Ok D cA bs s σ H locs → lv_has ls 9 [(0, .ref b), (1, .ref l1), (2, .ref l2), (3, .ref l3), (4, .int (l4 + (4 : Int32)))] → W p l e room_1 s m #[Value.ref b] below meth c H locs (cl + 1) (sl + 6) (lw_Z below #[Value.ref b] s) (F0 m 23 ls [])) (hr1 : ∀ x, o1 = .inr x → x = (1 : Int32)) : W p l e room_1 s m #[Value.ref b] below meth c H locs (cl + 1) (sl + 6) (lw_Z below #[Value.ref b] s) (F0 m 532 ls []) := by
  have hx := B.1
  have hb := B.2.1
  have hown := B.2.2.2.1
  have hts := B.2.2.2.2.1
  unfold f_L_law_532 at hf
  refine lv_goto (tgt := 1539) hx hb dL_law_532 (by decide) ?_
  exact t_L_law_1539 B hst hX HL hcl hf hW hl hk1 hr1
set_option maxRecDepth 100000 in
def f_L_law_467 (xs : Nat → Int32) (L : Nat) (σ : zSt) (l1 : Nat) (l2 : Nat) (l3 : Nat) (l4 : Int32) : Option ((zSt × Int32) ⊕ (Int32)) :=
(if z_ix (l4 + (1 : Int32)) L then (if z_ix (l4 + (2 : Int32)) L then (zb2 (f_L_addNoise σ l1 (xs (l4 + (1 : Int32)).toNatClampNeg) (xs (l4 + (2 : Int32)).toNatClampNeg) l3) (fun r4 σ5 => (if z_ix (l4 + (1 : Int32)) L then (if z_ix (l4 + (2 : Int32)) L then (if z_ob σ5 l2 9 then (zb2 (f_X10_addNoise σ5 l2 (xs (l4 + (1 : Int32)).toNatClampNeg) (xs (l4 + (2 : Int32)).toNatClampNeg)) (fun r10 σ11 => (if z_ob σ11 l2 9 then (zb (f_X10_thrown σ11 l2) (fun r14 => (if r14 = r4 then
(if r4 = 0 then
(if z_ar σ11 l3 2 then (if z_ix (0 : Int32) (z_ln σ11 l3) then (if (lg_cmp (z_J σ11 l3 (0 : Int32).toNatClampNeg) r10.toInt64) = 0 then
(f_L_law_532 xs L σ11 l1 l2 l3 l4)
else
(zex (some (0 : Int32)))) else none) else none)
else
(f_L_law_532 xs L σ11 l1 l2 l3 l4))
else
(zex (some (0 : Int32)))))) else none))) else none) else none) else none))) else none) else none)
set_option maxRecDepth 20000 in
set_option maxHeartbeats 4000000 in
theorem t_L_law_467 (B : z_B p s m #[Value.ref b] meth c D cA bs RL cL_law 9 ret) {cl sl : Nat} (hst : l.stackTraces = false) (hX : z_X bs s) (HL : z_L s bs b L xs) (hcl : cl + 1 ≤ 601024 ∧ sl + 6 ≤ 7293034)  {o1 : (zSt × Int32) ⊕ (Int32)} {σ : zSt} {l1 : Nat} {l2 : Nat} {l3 : Nat} {l4 : Int32} (hf : f_L_law_467 xs L σ l1 l2 l3 l4 = some o1) {H : Heap} {locs : List Loc} {ls : Array Slot} (hW : z_Ok D cA bs s σ H locs) (hl : lv_has ls 9 [(0, .ref b), (1, .ref l1), (2, .ref l2), (3, .ref l3), (4, .int l4)]) (hk1 : ∀ (σ : zSt), o1 = .inl (σ, l4 + (4 : Int32)) → ∀ {H : Heap} {locs : List Loc} {ls : Array Slot}, z_Ok D cA bs s σ H locs → lv_has ls 9 [(0, .ref b), (1, .ref l1), (2, .ref l2), (3, .ref l3), (4, .int (l4 + (4 : Int32)))] → W p l e room_1 s m #[Value.ref b] below meth c H locs (cl + 1) (sl + 6) (lw_Z below #[Value.ref b] s) (F0 m 23 ls [])) (hr1 : ∀ x, o1 = .inr x → x = (1 : Int32)) : W p l e room_1 s m #[Value.ref b] below meth c H locs (cl + 0) (sl + 0) (lw_Z below #[Value.ref b] s) (F0 m 467 ls []) := by
  have hx := B.1
  have hb := B.2.1
  have hown := B.2.2.2.1
  have hts := B.2.2.2.2.1
  unfold f_L_law_467 at hf
  refine lv_aload_n hx hb dL_law_467 rfl (lv_at hl 1 rfl) ?_
  refine lv_aload_n hx hb dL_law_468 rfl (lv_at hl 0 rfl) ?_
  refine lv_iload hx hb dL_law_469 (lv_at hl 4 rfl) ?_
  refine lv_iconst (v := (1 : Int32)) hx hb dL_law_471 (by decide) ?_
  refine lv_iadd hx hb dL_law_472 ?_
  obtain ⟨hg1, hf⟩ := z_g hf
  refine z_sld B hW HL hg1 dL_law_473 ?_
  refine lv_aload_n hx hb dL_law_474 rfl (lv_at hl 0 rfl) ?_
  refine lv_iload hx hb dL_law_475 (lv_at hl 4 rfl) ?_
  refine lv_iconst (v := (2 : Int32)) hx hb dL_law_477 (by decide) ?_
  refine lv_iadd hx hb dL_law_478 ?_
  obtain ⟨hg2, hf⟩ := z_g hf
  refine z_sld B hW HL hg2 dL_law_479 ?_
  refine lv_aload_n hx hb dL_law_480 rfl (lv_at hl 3 rfl) ?_
  obtain ⟨r4, σ5, hq3, hf⟩ := z_b2 hf
  refine z_ci hW (z_runSW (As := [.ref l1, .int (xs (l4 + (1 : Int32)).toNatClampNeg), .int (xs (l4 + (2 : Int32)).toNatClampNeg), .ref l3]) (rest := []) B hX hW zl_L_104 (K_L_addNoise hst hq3) rfl rfl (Nat.le_of_ble_eq_true rfl) hl.1 ⟨Nat.le_of_ble_eq_true rfl, Nat.le_of_ble_eq_true rfl⟩ dL_law_481 ⟨by show (cl + 0) + 1 ≤ 601024; omega, by show (sl + 0) + 6 ≤ 7293034; omega⟩) (fun H locs hW => ?_)
  refine lv_istore (lv' := [(5, .int r4), (0, .ref b), (1, .ref l1), (2, .ref l2), (3, .ref l3), (4, .int l4)]) hx hb dL_law_484 hl (by decide) rfl (fun ls hl => ?_)
  refine lv_aload_n hx hb dL_law_486 rfl (lv_at hl 3 rfl) ?_
  refine lv_aload_n hx hb dL_law_487 rfl (lv_at hl 1 rfl) ?_
  refine lv_iload hx hb dL_law_488 (lv_at hl 5 rfl) ?_
  refine lv_iconst (v := (1 : Int32)) hx hb dL_law_490 (by decide) ?_
  refine lv_iadd hx hb dL_law_491 ?_
  obtain ⟨hg6, hf⟩ := z_g hf
  refine z_sld B hW HL hg6 dL_law_492 ?_
  refine lv_aload_n hx hb dL_law_493 rfl (lv_at hl 1 rfl) ?_
  refine lv_iload hx hb dL_law_494 (lv_at hl 5 rfl) ?_
  refine lv_iconst (v := (2 : Int32)) hx hb dL_law_496 (by decide) ?_
  refine lv_iadd hx hb dL_law_497 ?_
  obtain ⟨hg7, hf⟩ := z_g hf
  refine z_sld B hW HL hg7 dL_law_498 ?_
  obtain ⟨hg8, hf⟩ := z_g hf
  obtain ⟨r10, σ11, hq9, hf⟩ := z_b2 hf
  refine z_ci hW (z_runV (As := [.int (xs (l4 + (1 : Int32)).toNatClampNeg), .int (xs (l4 + (2 : Int32)).toNatClampNeg)]) (rest := []) B hW zv_L_107 (K_X10_addNoise hq9) hg8 rfl rfl rfl (Nat.le_of_ble_eq_true rfl) hl.1 ⟨Nat.le_of_ble_eq_true rfl, Nat.le_of_ble_eq_true rfl⟩ dL_law_499 ⟨by show (cl + 1) + 0 ≤ 601024; omega, by show (sl + 6) + 0 ≤ 7293034; omega⟩) (fun H locs hW => ?_)
  refine lv_istore (lv' := [(6, .int r10), (5, .int r4), (0, .ref b), (1, .ref l1), (2, .ref l2), (3, .ref l3), (4, .int l4)]) hx hb dL_law_502 hl (by decide) rfl (fun ls hl => ?_)
  refine lv_aload_n hx hb dL_law_504 rfl (lv_at hl 4 rfl) ?_
  obtain ⟨hg12, hf⟩ := z_g hf
  obtain ⟨r14, hq13, hf⟩ := z_b hf
  refine z_ci hW (z_runV (As := []) (rest := []) B hW zv_L_90 (K_X10_thrown hq13) hg12 rfl rfl rfl (Nat.le_of_ble_eq_true rfl) hl.1 ⟨Nat.le_of_ble_eq_true rfl, Nat.le_of_ble_eq_true rfl⟩ dL_law_505 ⟨by show (cl + 1) + 0 ≤ 601024; omega, by show (sl + 6) + 0 ≤ 7293034; omega⟩) (fun H locs hW => ?_)
  refine lv_iload hx hb dL_law_508 (lv_at hl 1 rfl) ?_
  refine lv_icmp_eq (tgt := 515) hx hb dL_law_510 (by decide) (fun hc510 => ?_) (fun hc510 => ?_)
  · replace hf := z_ip hc510 hf
    refine lv_iload hx hb dL_law_515 (lv_at hl 1 rfl) ?_
    refine lv_if_ne (tgt := 532) hx hb dL_law_517 (by decide) (fun hc517 => ?_) (fun hc517 => ?_)
    · replace hf := z_in hc517 hf
      exact t_L_law_532 B hst hX HL hcl hf hW (lv_sub hl [2, 3, 4, 5, 6] rfl) hk1 hr1
    · replace hf := z_ip hc517 hf
      refine lv_aload_n hx hb dL_law_520 rfl (lv_at hl 5 rfl) ?_
      refine lv_iconst (v := (0 : Int32)) hx hb dL_law_521 (by decide) ?_
      obtain ⟨hg15, hf⟩ := z_g hf
      obtain ⟨hg16, hf⟩ := z_g hf
      refine z_lald B hW hg15 hg16 dL_law_522 ?_
      refine lv_iload hx hb dL_law_523 (lv_at hl 0 rfl) ?_
      refine lv_i2l (v := r10.toInt64) hx hb dL_law_525 rfl ?_
      refine W.lcmp hx hb dL_law_526 ?_
      refine lv_if_eq (tgt := 532) hx hb dL_law_527 (by decide) (fun hc527 => ?_) (fun hc527 => ?_)
      · replace hf := z_ip hc527 hf
        exact t_L_law_532 B hst hX HL hcl hf hW (lv_sub hl [2, 3, 4, 5, 6] rfl) hk1 hr1
      · replace hf := z_in hc527 hf
        obtain ⟨w1, hf, ho17⟩ := z_x hf
        obtain rfl := hr1 _ ho17
        refine lv_iconst (v := (0 : Int32)) hx hb dL_law_530 (by decide) ?_
        exact absurd (Option.some.inj hf) (by decide)
  · replace hf := z_in hc510 hf
    obtain ⟨w1, hf, ho18⟩ := z_x hf
    obtain rfl := hr1 _ ho18
    refine lv_iconst (v := (0 : Int32)) hx hb dL_law_513 (by decide) ?_
    exact absurd (Option.some.inj hf) (by decide)
set_option maxRecDepth 100000 in
def f_L_law_588 (xs : Nat → Int32) (L : Nat) (σ : zSt) (l1 : Nat) (l2 : Nat) (l3 : Nat) (l4 : Int32) : Option ((zSt × Int32) ⊕ (Int32)) :=
(f_L_law_1539 xs L σ l1 l2 l3 l4)
set_option maxRecDepth 20000 in
set_option maxHeartbeats 4000000 in
theorem t_L_law_588 (B : z_B p s m #[Value.ref b] meth c D cA bs RL cL_law 9 ret) {cl sl : Nat} (hst : l.stackTraces = false) (hX : z_X bs s) (HL : z_L s bs b L xs) (hcl : cl + 1 ≤ 601024 ∧ sl + 6 ≤ 7293034)  {o1 : (zSt × Int32) ⊕ (Int32)} {σ : zSt} {l1 : Nat} {l2 : Nat} {l3 : Nat} {l4 : Int32} (hf : f_L_law_588 xs L σ l1 l2 l3 l4 = some o1) {H : Heap} {locs : List Loc} {ls : Array Slot} (hW : z_Ok D cA bs s σ H locs) (hl : lv_has ls 9 [(0, .ref b), (1, .ref l1), (2, .ref l2), (3, .ref l3), (4, .int l4)]) (hk1 : ∀ (σ : zSt), o1 = .inl (σ, l4 + (4 : Int32)) → ∀ {H : Heap} {locs : List Loc} {ls : Array Slot}, z_Ok D cA bs s σ H locs → lv_has ls 9 [(0, .ref b), (1, .ref l1), (2, .ref l2), (3, .ref l3), (4, .int (l4 + (4 : Int32)))] → W p l e room_1 s m #[Value.ref b] below meth c H locs (cl + 1) (sl + 6) (lw_Z below #[Value.ref b] s) (F0 m 23 ls [])) (hr1 : ∀ x, o1 = .inr x → x = (1 : Int32)) : W p l e room_1 s m #[Value.ref b] below meth c H locs (cl + 1) (sl + 6) (lw_Z below #[Value.ref b] s) (F0 m 588 ls []) := by
  have hx := B.1
  have hb := B.2.1
  have hown := B.2.2.2.1
  have hts := B.2.2.2.2.1
  unfold f_L_law_588 at hf
  refine lv_goto (tgt := 1539) hx hb dL_law_588 (by decide) ?_
  exact t_L_law_1539 B hst hX HL hcl hf hW hl hk1 hr1
set_option maxRecDepth 100000 in
def f_L_law_535 (xs : Nat → Int32) (L : Nat) (σ : zSt) (l1 : Nat) (l2 : Nat) (l3 : Nat) (l4 : Int32) : Option ((zSt × Int32) ⊕ (Int32)) :=
(if z_ix (l4 + (1 : Int32)) L then (zb2 (f_L_run σ l1 (xs (l4 + (1 : Int32)).toNatClampNeg) l3) (fun r3 σ4 => (if z_ix (l4 + (1 : Int32)) L then (if z_ob σ4 l2 9 then (zb2 (f_X10_run σ4 l2 (xs (l4 + (1 : Int32)).toNatClampNeg)) (fun r8 σ9 => (if z_ob σ9 l2 9 then (zb (f_X10_thrown σ9 l2) (fun r12 => (if r12 = r3 then
(if r3 = 0 then
(if z_ar σ9 l3 2 then (if z_ix (0 : Int32) (z_ln σ9 l3) then (if (lg_cmp (z_J σ9 l3 (0 : Int32).toNatClampNeg) r8.toInt64) = 0 then
(f_L_law_588 xs L σ9 l1 l2 l3 l4)
else
(zex (some (0 : Int32)))) else none) else none)
else
(f_L_law_588 xs L σ9 l1 l2 l3 l4))
else
(zex (some (0 : Int32)))))) else none))) else none) else none))) else none)
set_option maxRecDepth 20000 in
set_option maxHeartbeats 4000000 in
theorem t_L_law_535 (B : z_B p s m #[Value.ref b] meth c D cA bs RL cL_law 9 ret) {cl sl : Nat} (hst : l.stackTraces = false) (hX : z_X bs s) (HL : z_L s bs b L xs) (hcl : cl + 1 ≤ 601024 ∧ sl + 6 ≤ 7293034)  {o1 : (zSt × Int32) ⊕ (Int32)} {σ : zSt} {l1 : Nat} {l2 : Nat} {l3 : Nat} {l4 : Int32} (hf : f_L_law_535 xs L σ l1 l2 l3 l4 = some o1) {H : Heap} {locs : List Loc} {ls : Array Slot} (hW : z_Ok D cA bs s σ H locs) (hl : lv_has ls 9 [(0, .ref b), (1, .ref l1), (2, .ref l2), (3, .ref l3), (4, .int l4)]) (hk1 : ∀ (σ : zSt), o1 = .inl (σ, l4 + (4 : Int32)) → ∀ {H : Heap} {locs : List Loc} {ls : Array Slot}, z_Ok D cA bs s σ H locs → lv_has ls 9 [(0, .ref b), (1, .ref l1), (2, .ref l2), (3, .ref l3), (4, .int (l4 + (4 : Int32)))] → W p l e room_1 s m #[Value.ref b] below meth c H locs (cl + 1) (sl + 6) (lw_Z below #[Value.ref b] s) (F0 m 23 ls [])) (hr1 : ∀ x, o1 = .inr x → x = (1 : Int32)) : W p l e room_1 s m #[Value.ref b] below meth c H locs (cl + 0) (sl + 0) (lw_Z below #[Value.ref b] s) (F0 m 535 ls []) := by
  have hx := B.1
  have hb := B.2.1
  have hown := B.2.2.2.1
  have hts := B.2.2.2.2.1
  unfold f_L_law_535 at hf
  refine lv_aload_n hx hb dL_law_535 rfl (lv_at hl 1 rfl) ?_
  refine lv_aload_n hx hb dL_law_536 rfl (lv_at hl 0 rfl) ?_
  refine lv_iload hx hb dL_law_537 (lv_at hl 4 rfl) ?_
  refine lv_iconst (v := (1 : Int32)) hx hb dL_law_539 (by decide) ?_
  refine lv_iadd hx hb dL_law_540 ?_
  obtain ⟨hg1, hf⟩ := z_g hf
  refine z_sld B hW HL hg1 dL_law_541 ?_
  refine lv_aload_n hx hb dL_law_542 rfl (lv_at hl 3 rfl) ?_
  obtain ⟨r3, σ4, hq2, hf⟩ := z_b2 hf
  refine z_ci hW (z_runSW (As := [.ref l1, .int (xs (l4 + (1 : Int32)).toNatClampNeg), .ref l3]) (rest := []) B hX hW zl_L_108 (K_L_run hst hq2) rfl rfl (Nat.le_of_ble_eq_true rfl) hl.1 ⟨Nat.le_of_ble_eq_true rfl, Nat.le_of_ble_eq_true rfl⟩ dL_law_543 ⟨by show (cl + 0) + 1 ≤ 601024; omega, by show (sl + 0) + 6 ≤ 7293034; omega⟩) (fun H locs hW => ?_)
  refine lv_istore (lv' := [(5, .int r3), (0, .ref b), (1, .ref l1), (2, .ref l2), (3, .ref l3), (4, .int l4)]) hx hb dL_law_546 hl (by decide) rfl (fun ls hl => ?_)
  refine lv_aload_n hx hb dL_law_548 rfl (lv_at hl 3 rfl) ?_
  refine lv_aload_n hx hb dL_law_549 rfl (lv_at hl 1 rfl) ?_
  refine lv_iload hx hb dL_law_550 (lv_at hl 5 rfl) ?_
  refine lv_iconst (v := (1 : Int32)) hx hb dL_law_552 (by decide) ?_
  refine lv_iadd hx hb dL_law_553 ?_
  obtain ⟨hg5, hf⟩ := z_g hf
  refine z_sld B hW HL hg5 dL_law_554 ?_
  obtain ⟨hg6, hf⟩ := z_g hf
  obtain ⟨r8, σ9, hq7, hf⟩ := z_b2 hf
  refine z_ci hW (z_runV (As := [.int (xs (l4 + (1 : Int32)).toNatClampNeg)]) (rest := []) B hW zv_L_110 (K_X10_run hq7) hg6 rfl rfl rfl (Nat.le_of_ble_eq_true rfl) hl.1 ⟨Nat.le_of_ble_eq_true rfl, Nat.le_of_ble_eq_true rfl⟩ dL_law_555 ⟨by show (cl + 1) + 0 ≤ 601024; omega, by show (sl + 6) + 0 ≤ 7293034; omega⟩) (fun H locs hW => ?_)
  refine lv_istore (lv' := [(6, .int r8), (5, .int r3), (0, .ref b), (1, .ref l1), (2, .ref l2), (3, .ref l3), (4, .int l4)]) hx hb dL_law_558 hl (by decide) rfl (fun ls hl => ?_)
  refine lv_aload_n hx hb dL_law_560 rfl (lv_at hl 4 rfl) ?_
  obtain ⟨hg10, hf⟩ := z_g hf
  obtain ⟨r12, hq11, hf⟩ := z_b hf
  refine z_ci hW (z_runV (As := []) (rest := []) B hW zv_L_90 (K_X10_thrown hq11) hg10 rfl rfl rfl (Nat.le_of_ble_eq_true rfl) hl.1 ⟨Nat.le_of_ble_eq_true rfl, Nat.le_of_ble_eq_true rfl⟩ dL_law_561 ⟨by show (cl + 1) + 0 ≤ 601024; omega, by show (sl + 6) + 0 ≤ 7293034; omega⟩) (fun H locs hW => ?_)
  refine lv_iload hx hb dL_law_564 (lv_at hl 1 rfl) ?_
  refine lv_icmp_eq (tgt := 571) hx hb dL_law_566 (by decide) (fun hc566 => ?_) (fun hc566 => ?_)
  · replace hf := z_ip hc566 hf
    refine lv_iload hx hb dL_law_571 (lv_at hl 1 rfl) ?_
    refine lv_if_ne (tgt := 588) hx hb dL_law_573 (by decide) (fun hc573 => ?_) (fun hc573 => ?_)
    · replace hf := z_in hc573 hf
      exact t_L_law_588 B hst hX HL hcl hf hW (lv_sub hl [2, 3, 4, 5, 6] rfl) hk1 hr1
    · replace hf := z_ip hc573 hf
      refine lv_aload_n hx hb dL_law_576 rfl (lv_at hl 5 rfl) ?_
      refine lv_iconst (v := (0 : Int32)) hx hb dL_law_577 (by decide) ?_
      obtain ⟨hg13, hf⟩ := z_g hf
      obtain ⟨hg14, hf⟩ := z_g hf
      refine z_lald B hW hg13 hg14 dL_law_578 ?_
      refine lv_iload hx hb dL_law_579 (lv_at hl 0 rfl) ?_
      refine lv_i2l (v := r8.toInt64) hx hb dL_law_581 rfl ?_
      refine W.lcmp hx hb dL_law_582 ?_
      refine lv_if_eq (tgt := 588) hx hb dL_law_583 (by decide) (fun hc583 => ?_) (fun hc583 => ?_)
      · replace hf := z_ip hc583 hf
        exact t_L_law_588 B hst hX HL hcl hf hW (lv_sub hl [2, 3, 4, 5, 6] rfl) hk1 hr1
      · replace hf := z_in hc583 hf
        obtain ⟨w1, hf, ho15⟩ := z_x hf
        obtain rfl := hr1 _ ho15
        refine lv_iconst (v := (0 : Int32)) hx hb dL_law_586 (by decide) ?_
        exact absurd (Option.some.inj hf) (by decide)
  · replace hf := z_in hc566 hf
    obtain ⟨w1, hf, ho16⟩ := z_x hf
    obtain rfl := hr1 _ ho16
    refine lv_iconst (v := (0 : Int32)) hx hb dL_law_569 (by decide) ?_
    exact absurd (Option.some.inj hf) (by decide)
set_option maxRecDepth 100000 in
def f_L_law_591 (xs : Nat → Int32) (L : Nat) (σ : zSt) (l1 : Nat) (l2 : Nat) (l3 : Nat) (l4 : Int32) : Option ((zSt × Int32) ⊕ (Int32)) :=
(if z_ob σ l1 8 then (zb2 (f_X9_loseToken σ l1) (fun r3 σ4 => (if z_ob σ4 l2 9 then (zb2 (f_X10_loseToken σ4 l2) (fun r7 σ8 => (if r3 = r7 then
(f_L_law_1539 xs L σ8 l1 l2 l3 l4)
else
(zex (some (0 : Int32)))))) else none))) else none)
set_option maxRecDepth 20000 in
set_option maxHeartbeats 4000000 in
theorem t_L_law_591 (B : z_B p s m #[Value.ref b] meth c D cA bs RL cL_law 9 ret) {cl sl : Nat} (hst : l.stackTraces = false) (hX : z_X bs s) (HL : z_L s bs b L xs) (hcl : cl + 1 ≤ 601024 ∧ sl + 6 ≤ 7293034)  {o1 : (zSt × Int32) ⊕ (Int32)} {σ : zSt} {l1 : Nat} {l2 : Nat} {l3 : Nat} {l4 : Int32} (hf : f_L_law_591 xs L σ l1 l2 l3 l4 = some o1) {H : Heap} {locs : List Loc} {ls : Array Slot} (hW : z_Ok D cA bs s σ H locs) (hl : lv_has ls 9 [(0, .ref b), (1, .ref l1), (2, .ref l2), (3, .ref l3), (4, .int l4)]) (hk1 : ∀ (σ : zSt), o1 = .inl (σ, l4 + (4 : Int32)) → ∀ {H : Heap} {locs : List Loc} {ls : Array Slot}, z_Ok D cA bs s σ H locs → lv_has ls 9 [(0, .ref b), (1, .ref l1), (2, .ref l2), (3, .ref l3), (4, .int (l4 + (4 : Int32)))] → W p l e room_1 s m #[Value.ref b] below meth c H locs (cl + 1) (sl + 6) (lw_Z below #[Value.ref b] s) (F0 m 23 ls [])) (hr1 : ∀ x, o1 = .inr x → x = (1 : Int32)) : W p l e room_1 s m #[Value.ref b] below meth c H locs (cl + 0) (sl + 0) (lw_Z below #[Value.ref b] s) (F0 m 591 ls []) := by
  have hx := B.1
  have hb := B.2.1
  have hown := B.2.2.2.1
  have hts := B.2.2.2.2.1
  unfold f_L_law_591 at hf
  refine lv_aload_n hx hb dL_law_591 rfl (lv_at hl 1 rfl) ?_
  obtain ⟨hg1, hf⟩ := z_g hf
  obtain ⟨r3, σ4, hq2, hf⟩ := z_b2 hf
  refine z_ci hW (z_runV (As := []) (rest := []) B hW zv_L_111 (K_X9_loseToken hq2) hg1 rfl rfl rfl (Nat.le_of_ble_eq_true rfl) hl.1 ⟨Nat.le_of_ble_eq_true rfl, Nat.le_of_ble_eq_true rfl⟩ dL_law_592 ⟨by show (cl + 0) + 0 ≤ 601024; omega, by show (sl + 0) + 0 ≤ 7293034; omega⟩) (fun H locs hW => ?_)
  refine lv_aload_n hx hb dL_law_595 rfl (lv_at hl 2 rfl) ?_
  obtain ⟨hg5, hf⟩ := z_g hf
  obtain ⟨r7, σ8, hq6, hf⟩ := z_b2 hf
  refine z_ci hW (z_runV (As := []) (rest := [.int r3]) B hW zv_L_114 (K_X10_loseToken hq6) hg5 rfl rfl rfl (Nat.le_of_ble_eq_true rfl) hl.1 ⟨Nat.le_of_ble_eq_true rfl, Nat.le_of_ble_eq_true rfl⟩ dL_law_596 ⟨by show (cl + 0) + 0 ≤ 601024; omega, by show (sl + 0) + 0 ≤ 7293034; omega⟩) (fun H locs hW => ?_)
  refine lv_icmp_eq (tgt := 1539) hx hb dL_law_599 (by decide) (fun hc599 => ?_) (fun hc599 => ?_)
  · replace hf := z_ip hc599 hf
    refine W.widen (k := cl + 1) (n := sl + 6) (by omega) (by omega) ?_
    exact t_L_law_1539 B hst hX HL hcl hf hW hl hk1 hr1
  · replace hf := z_in hc599 hf
    obtain ⟨w1, hf, ho9⟩ := z_x hf
    obtain rfl := hr1 _ ho9
    refine lv_iconst (v := (0 : Int32)) hx hb dL_law_602 (by decide) ?_
    exact absurd (Option.some.inj hf) (by decide)
set_option maxRecDepth 100000 in
def f_L_law_657 (xs : Nat → Int32) (L : Nat) (σ : zSt) (l1 : Nat) (l2 : Nat) (l3 : Nat) (l4 : Int32) : Option ((zSt × Int32) ⊕ (Int32)) :=
(f_L_law_1539 xs L σ l1 l2 l3 l4)
set_option maxRecDepth 20000 in
set_option maxHeartbeats 4000000 in
theorem t_L_law_657 (B : z_B p s m #[Value.ref b] meth c D cA bs RL cL_law 9 ret) {cl sl : Nat} (hst : l.stackTraces = false) (hX : z_X bs s) (HL : z_L s bs b L xs) (hcl : cl + 1 ≤ 601024 ∧ sl + 6 ≤ 7293034)  {o1 : (zSt × Int32) ⊕ (Int32)} {σ : zSt} {l1 : Nat} {l2 : Nat} {l3 : Nat} {l4 : Int32} (hf : f_L_law_657 xs L σ l1 l2 l3 l4 = some o1) {H : Heap} {locs : List Loc} {ls : Array Slot} (hW : z_Ok D cA bs s σ H locs) (hl : lv_has ls 9 [(0, .ref b), (1, .ref l1), (2, .ref l2), (3, .ref l3), (4, .int l4)]) (hk1 : ∀ (σ : zSt), o1 = .inl (σ, l4 + (4 : Int32)) → ∀ {H : Heap} {locs : List Loc} {ls : Array Slot}, z_Ok D cA bs s σ H locs → lv_has ls 9 [(0, .ref b), (1, .ref l1), (2, .ref l2), (3, .ref l3), (4, .int (l4 + (4 : Int32)))] → W p l e room_1 s m #[Value.ref b] below meth c H locs (cl + 1) (sl + 6) (lw_Z below #[Value.ref b] s) (F0 m 23 ls [])) (hr1 : ∀ x, o1 = .inr x → x = (1 : Int32)) : W p l e room_1 s m #[Value.ref b] below meth c H locs (cl + 1) (sl + 6) (lw_Z below #[Value.ref b] s) (F0 m 657 ls []) := by
  have hx := B.1
  have hb := B.2.1
  have hown := B.2.2.2.1
  have hts := B.2.2.2.2.1
  unfold f_L_law_657 at hf
  refine lv_goto (tgt := 1539) hx hb dL_law_657 (by decide) ?_
  exact t_L_law_1539 B hst hX HL hcl hf hW hl hk1 hr1
set_option maxRecDepth 100000 in
def f_L_law_604 (xs : Nat → Int32) (L : Nat) (σ : zSt) (l1 : Nat) (l2 : Nat) (l3 : Nat) (l4 : Int32) : Option ((zSt × Int32) ⊕ (Int32)) :=
(if z_ix (l4 + (1 : Int32)) L then (zb2 (f_L_setting σ l1 (xs (l4 + (1 : Int32)).toNatClampNeg) l3) (fun r3 σ4 => (if z_ix (l4 + (1 : Int32)) L then (if z_ob σ4 l2 9 then (zb2 (f_X10_setting σ4 l2 (xs (l4 + (1 : Int32)).toNatClampNeg)) (fun r8 σ9 => (if z_ob σ9 l2 9 then (zb (f_X10_thrown σ9 l2) (fun r12 => (if r12 = r3 then
(if r3 = 0 then
(if z_ar σ9 l3 2 then (if z_ix (0 : Int32) (z_ln σ9 l3) then (if (lg_cmp (z_J σ9 l3 (0 : Int32).toNatClampNeg) r8.toInt64) = 0 then
(f_L_law_657 xs L σ9 l1 l2 l3 l4)
else
(zex (some (0 : Int32)))) else none) else none)
else
(f_L_law_657 xs L σ9 l1 l2 l3 l4))
else
(zex (some (0 : Int32)))))) else none))) else none) else none))) else none)
set_option maxRecDepth 20000 in
set_option maxHeartbeats 4000000 in
theorem t_L_law_604 (B : z_B p s m #[Value.ref b] meth c D cA bs RL cL_law 9 ret) {cl sl : Nat} (hst : l.stackTraces = false) (hX : z_X bs s) (HL : z_L s bs b L xs) (hcl : cl + 1 ≤ 601024 ∧ sl + 6 ≤ 7293034)  {o1 : (zSt × Int32) ⊕ (Int32)} {σ : zSt} {l1 : Nat} {l2 : Nat} {l3 : Nat} {l4 : Int32} (hf : f_L_law_604 xs L σ l1 l2 l3 l4 = some o1) {H : Heap} {locs : List Loc} {ls : Array Slot} (hW : z_Ok D cA bs s σ H locs) (hl : lv_has ls 9 [(0, .ref b), (1, .ref l1), (2, .ref l2), (3, .ref l3), (4, .int l4)]) (hk1 : ∀ (σ : zSt), o1 = .inl (σ, l4 + (4 : Int32)) → ∀ {H : Heap} {locs : List Loc} {ls : Array Slot}, z_Ok D cA bs s σ H locs → lv_has ls 9 [(0, .ref b), (1, .ref l1), (2, .ref l2), (3, .ref l3), (4, .int (l4 + (4 : Int32)))] → W p l e room_1 s m #[Value.ref b] below meth c H locs (cl + 1) (sl + 6) (lw_Z below #[Value.ref b] s) (F0 m 23 ls [])) (hr1 : ∀ x, o1 = .inr x → x = (1 : Int32)) : W p l e room_1 s m #[Value.ref b] below meth c H locs (cl + 0) (sl + 0) (lw_Z below #[Value.ref b] s) (F0 m 604 ls []) := by
  have hx := B.1
  have hb := B.2.1
  have hown := B.2.2.2.1
  have hts := B.2.2.2.2.1
  unfold f_L_law_604 at hf
  refine lv_aload_n hx hb dL_law_604 rfl (lv_at hl 1 rfl) ?_
  refine lv_aload_n hx hb dL_law_605 rfl (lv_at hl 0 rfl) ?_
  refine lv_iload hx hb dL_law_606 (lv_at hl 4 rfl) ?_
  refine lv_iconst (v := (1 : Int32)) hx hb dL_law_608 (by decide) ?_
  refine lv_iadd hx hb dL_law_609 ?_
  obtain ⟨hg1, hf⟩ := z_g hf
  refine z_sld B hW HL hg1 dL_law_610 ?_
  refine lv_aload_n hx hb dL_law_611 rfl (lv_at hl 3 rfl) ?_
  obtain ⟨r3, σ4, hq2, hf⟩ := z_b2 hf
  refine z_ci hW (z_runSW (As := [.ref l1, .int (xs (l4 + (1 : Int32)).toNatClampNeg), .ref l3]) (rest := []) B hX hW zl_L_115 (K_L_setting hst hq2) rfl rfl (Nat.le_of_ble_eq_true rfl) hl.1 ⟨Nat.le_of_ble_eq_true rfl, Nat.le_of_ble_eq_true rfl⟩ dL_law_612 ⟨by show (cl + 0) + 1 ≤ 601024; omega, by show (sl + 0) + 6 ≤ 7293034; omega⟩) (fun H locs hW => ?_)
  refine lv_istore (lv' := [(5, .int r3), (0, .ref b), (1, .ref l1), (2, .ref l2), (3, .ref l3), (4, .int l4)]) hx hb dL_law_615 hl (by decide) rfl (fun ls hl => ?_)
  refine lv_aload_n hx hb dL_law_617 rfl (lv_at hl 3 rfl) ?_
  refine lv_aload_n hx hb dL_law_618 rfl (lv_at hl 1 rfl) ?_
  refine lv_iload hx hb dL_law_619 (lv_at hl 5 rfl) ?_
  refine lv_iconst (v := (1 : Int32)) hx hb dL_law_621 (by decide) ?_
  refine lv_iadd hx hb dL_law_622 ?_
  obtain ⟨hg5, hf⟩ := z_g hf
  refine z_sld B hW HL hg5 dL_law_623 ?_
  obtain ⟨hg6, hf⟩ := z_g hf
  obtain ⟨r8, σ9, hq7, hf⟩ := z_b2 hf
  refine z_ci hW (z_runV (As := [.int (xs (l4 + (1 : Int32)).toNatClampNeg)]) (rest := []) B hW zv_L_117 (K_X10_setting hq7) hg6 rfl rfl rfl (Nat.le_of_ble_eq_true rfl) hl.1 ⟨Nat.le_of_ble_eq_true rfl, Nat.le_of_ble_eq_true rfl⟩ dL_law_624 ⟨by show (cl + 1) + 0 ≤ 601024; omega, by show (sl + 6) + 0 ≤ 7293034; omega⟩) (fun H locs hW => ?_)
  refine lv_istore (lv' := [(6, .int r8), (5, .int r3), (0, .ref b), (1, .ref l1), (2, .ref l2), (3, .ref l3), (4, .int l4)]) hx hb dL_law_627 hl (by decide) rfl (fun ls hl => ?_)
  refine lv_aload_n hx hb dL_law_629 rfl (lv_at hl 4 rfl) ?_
  obtain ⟨hg10, hf⟩ := z_g hf
  obtain ⟨r12, hq11, hf⟩ := z_b hf
  refine z_ci hW (z_runV (As := []) (rest := []) B hW zv_L_90 (K_X10_thrown hq11) hg10 rfl rfl rfl (Nat.le_of_ble_eq_true rfl) hl.1 ⟨Nat.le_of_ble_eq_true rfl, Nat.le_of_ble_eq_true rfl⟩ dL_law_630 ⟨by show (cl + 1) + 0 ≤ 601024; omega, by show (sl + 6) + 0 ≤ 7293034; omega⟩) (fun H locs hW => ?_)
  refine lv_iload hx hb dL_law_633 (lv_at hl 1 rfl) ?_
  refine lv_icmp_eq (tgt := 640) hx hb dL_law_635 (by decide) (fun hc635 => ?_) (fun hc635 => ?_)
  · replace hf := z_ip hc635 hf
    refine lv_iload hx hb dL_law_640 (lv_at hl 1 rfl) ?_
    refine lv_if_ne (tgt := 657) hx hb dL_law_642 (by decide) (fun hc642 => ?_) (fun hc642 => ?_)
    · replace hf := z_in hc642 hf
      exact t_L_law_657 B hst hX HL hcl hf hW (lv_sub hl [2, 3, 4, 5, 6] rfl) hk1 hr1
    · replace hf := z_ip hc642 hf
      refine lv_aload_n hx hb dL_law_645 rfl (lv_at hl 5 rfl) ?_
      refine lv_iconst (v := (0 : Int32)) hx hb dL_law_646 (by decide) ?_
      obtain ⟨hg13, hf⟩ := z_g hf
      obtain ⟨hg14, hf⟩ := z_g hf
      refine z_lald B hW hg13 hg14 dL_law_647 ?_
      refine lv_iload hx hb dL_law_648 (lv_at hl 0 rfl) ?_
      refine lv_i2l (v := r8.toInt64) hx hb dL_law_650 rfl ?_
      refine W.lcmp hx hb dL_law_651 ?_
      refine lv_if_eq (tgt := 657) hx hb dL_law_652 (by decide) (fun hc652 => ?_) (fun hc652 => ?_)
      · replace hf := z_ip hc652 hf
        exact t_L_law_657 B hst hX HL hcl hf hW (lv_sub hl [2, 3, 4, 5, 6] rfl) hk1 hr1
      · replace hf := z_in hc652 hf
        obtain ⟨w1, hf, ho15⟩ := z_x hf
        obtain rfl := hr1 _ ho15
        refine lv_iconst (v := (0 : Int32)) hx hb dL_law_655 (by decide) ?_
        exact absurd (Option.some.inj hf) (by decide)
  · replace hf := z_in hc635 hf
    obtain ⟨w1, hf, ho16⟩ := z_x hf
    obtain rfl := hr1 _ ho16
    refine lv_iconst (v := (0 : Int32)) hx hb dL_law_638 (by decide) ?_
    exact absurd (Option.some.inj hf) (by decide)
set_option maxRecDepth 100000 in
def f_L_law_725 (xs : Nat → Int32) (L : Nat) (σ : zSt) (l1 : Nat) (l2 : Nat) (l3 : Nat) (l4 : Int32) : Option ((zSt × Int32) ⊕ (Int32)) :=
(f_L_law_1539 xs L σ l1 l2 l3 l4)
set_option maxRecDepth 20000 in
set_option maxHeartbeats 4000000 in
theorem t_L_law_725 (B : z_B p s m #[Value.ref b] meth c D cA bs RL cL_law 9 ret) {cl sl : Nat} (hst : l.stackTraces = false) (hX : z_X bs s) (HL : z_L s bs b L xs) (hcl : cl + 1 ≤ 601024 ∧ sl + 6 ≤ 7293034)  {o1 : (zSt × Int32) ⊕ (Int32)} {σ : zSt} {l1 : Nat} {l2 : Nat} {l3 : Nat} {l4 : Int32} (hf : f_L_law_725 xs L σ l1 l2 l3 l4 = some o1) {H : Heap} {locs : List Loc} {ls : Array Slot} (hW : z_Ok D cA bs s σ H locs) (hl : lv_has ls 9 [(0, .ref b), (1, .ref l1), (2, .ref l2), (3, .ref l3), (4, .int l4)]) (hk1 : ∀ (σ : zSt), o1 = .inl (σ, l4 + (4 : Int32)) → ∀ {H : Heap} {locs : List Loc} {ls : Array Slot}, z_Ok D cA bs s σ H locs → lv_has ls 9 [(0, .ref b), (1, .ref l1), (2, .ref l2), (3, .ref l3), (4, .int (l4 + (4 : Int32)))] → W p l e room_1 s m #[Value.ref b] below meth c H locs (cl + 1) (sl + 6) (lw_Z below #[Value.ref b] s) (F0 m 23 ls [])) (hr1 : ∀ x, o1 = .inr x → x = (1 : Int32)) : W p l e room_1 s m #[Value.ref b] below meth c H locs (cl + 1) (sl + 6) (lw_Z below #[Value.ref b] s) (F0 m 725 ls []) := by
  have hx := B.1
  have hb := B.2.1
  have hown := B.2.2.2.1
  have hts := B.2.2.2.2.1
  unfold f_L_law_725 at hf
  refine lv_goto (tgt := 1539) hx hb dL_law_725 (by decide) ?_
  exact t_L_law_1539 B hst hX HL hcl hf hW hl hk1 hr1
set_option maxRecDepth 100000 in
def f_L_law_660 (xs : Nat → Int32) (L : Nat) (σ : zSt) (l1 : Nat) (l2 : Nat) (l3 : Nat) (l4 : Int32) : Option ((zSt × Int32) ⊕ (Int32)) :=
(if z_ix (l4 + (1 : Int32)) L then (if z_ix (l4 + (2 : Int32)) L then (zb2 (f_L_station σ l1 (xs (l4 + (1 : Int32)).toNatClampNeg) (xs (l4 + (2 : Int32)).toNatClampNeg) l3) (fun r4 σ5 => (if z_ix (l4 + (1 : Int32)) L then (if z_ix (l4 + (2 : Int32)) L then (if z_ob σ5 l2 9 then (zb2 (f_X10_station σ5 l2 (xs (l4 + (1 : Int32)).toNatClampNeg) (xs (l4 + (2 : Int32)).toNatClampNeg)) (fun r10 σ11 => (if z_ob σ11 l2 9 then (zb (f_X10_thrown σ11 l2) (fun r14 => (if r14 = r4 then
(if r4 = 0 then
(if z_ar σ11 l3 2 then (if z_ix (0 : Int32) (z_ln σ11 l3) then (if (lg_cmp (z_J σ11 l3 (0 : Int32).toNatClampNeg) r10.toInt64) = 0 then
(f_L_law_725 xs L σ11 l1 l2 l3 l4)
else
(zex (some (0 : Int32)))) else none) else none)
else
(f_L_law_725 xs L σ11 l1 l2 l3 l4))
else
(zex (some (0 : Int32)))))) else none))) else none) else none) else none))) else none) else none)
set_option maxRecDepth 20000 in
set_option maxHeartbeats 4000000 in
theorem t_L_law_660 (B : z_B p s m #[Value.ref b] meth c D cA bs RL cL_law 9 ret) {cl sl : Nat} (hst : l.stackTraces = false) (hX : z_X bs s) (HL : z_L s bs b L xs) (hcl : cl + 1 ≤ 601024 ∧ sl + 6 ≤ 7293034)  {o1 : (zSt × Int32) ⊕ (Int32)} {σ : zSt} {l1 : Nat} {l2 : Nat} {l3 : Nat} {l4 : Int32} (hf : f_L_law_660 xs L σ l1 l2 l3 l4 = some o1) {H : Heap} {locs : List Loc} {ls : Array Slot} (hW : z_Ok D cA bs s σ H locs) (hl : lv_has ls 9 [(0, .ref b), (1, .ref l1), (2, .ref l2), (3, .ref l3), (4, .int l4)]) (hk1 : ∀ (σ : zSt), o1 = .inl (σ, l4 + (4 : Int32)) → ∀ {H : Heap} {locs : List Loc} {ls : Array Slot}, z_Ok D cA bs s σ H locs → lv_has ls 9 [(0, .ref b), (1, .ref l1), (2, .ref l2), (3, .ref l3), (4, .int (l4 + (4 : Int32)))] → W p l e room_1 s m #[Value.ref b] below meth c H locs (cl + 1) (sl + 6) (lw_Z below #[Value.ref b] s) (F0 m 23 ls [])) (hr1 : ∀ x, o1 = .inr x → x = (1 : Int32)) : W p l e room_1 s m #[Value.ref b] below meth c H locs (cl + 0) (sl + 0) (lw_Z below #[Value.ref b] s) (F0 m 660 ls []) := by
  have hx := B.1
  have hb := B.2.1
  have hown := B.2.2.2.1
  have hts := B.2.2.2.2.1
  unfold f_L_law_660 at hf
  refine lv_aload_n hx hb dL_law_660 rfl (lv_at hl 1 rfl) ?_
  refine lv_aload_n hx hb dL_law_661 rfl (lv_at hl 0 rfl) ?_
  refine lv_iload hx hb dL_law_662 (lv_at hl 4 rfl) ?_
  refine lv_iconst (v := (1 : Int32)) hx hb dL_law_664 (by decide) ?_
  refine lv_iadd hx hb dL_law_665 ?_
  obtain ⟨hg1, hf⟩ := z_g hf
  refine z_sld B hW HL hg1 dL_law_666 ?_
  refine lv_aload_n hx hb dL_law_667 rfl (lv_at hl 0 rfl) ?_
  refine lv_iload hx hb dL_law_668 (lv_at hl 4 rfl) ?_
  refine lv_iconst (v := (2 : Int32)) hx hb dL_law_670 (by decide) ?_
  refine lv_iadd hx hb dL_law_671 ?_
  obtain ⟨hg2, hf⟩ := z_g hf
  refine z_sld B hW HL hg2 dL_law_672 ?_
  refine lv_aload_n hx hb dL_law_673 rfl (lv_at hl 3 rfl) ?_
  obtain ⟨r4, σ5, hq3, hf⟩ := z_b2 hf
  refine z_ci hW (z_runSW (As := [.ref l1, .int (xs (l4 + (1 : Int32)).toNatClampNeg), .int (xs (l4 + (2 : Int32)).toNatClampNeg), .ref l3]) (rest := []) B hX hW zl_L_118 (K_L_station hst hq3) rfl rfl (Nat.le_of_ble_eq_true rfl) hl.1 ⟨Nat.le_of_ble_eq_true rfl, Nat.le_of_ble_eq_true rfl⟩ dL_law_674 ⟨by show (cl + 0) + 1 ≤ 601024; omega, by show (sl + 0) + 6 ≤ 7293034; omega⟩) (fun H locs hW => ?_)
  refine lv_istore (lv' := [(5, .int r4), (0, .ref b), (1, .ref l1), (2, .ref l2), (3, .ref l3), (4, .int l4)]) hx hb dL_law_677 hl (by decide) rfl (fun ls hl => ?_)
  refine lv_aload_n hx hb dL_law_679 rfl (lv_at hl 3 rfl) ?_
  refine lv_aload_n hx hb dL_law_680 rfl (lv_at hl 1 rfl) ?_
  refine lv_iload hx hb dL_law_681 (lv_at hl 5 rfl) ?_
  refine lv_iconst (v := (1 : Int32)) hx hb dL_law_683 (by decide) ?_
  refine lv_iadd hx hb dL_law_684 ?_
  obtain ⟨hg6, hf⟩ := z_g hf
  refine z_sld B hW HL hg6 dL_law_685 ?_
  refine lv_aload_n hx hb dL_law_686 rfl (lv_at hl 1 rfl) ?_
  refine lv_iload hx hb dL_law_687 (lv_at hl 5 rfl) ?_
  refine lv_iconst (v := (2 : Int32)) hx hb dL_law_689 (by decide) ?_
  refine lv_iadd hx hb dL_law_690 ?_
  obtain ⟨hg7, hf⟩ := z_g hf
  refine z_sld B hW HL hg7 dL_law_691 ?_
  obtain ⟨hg8, hf⟩ := z_g hf
  obtain ⟨r10, σ11, hq9, hf⟩ := z_b2 hf
  refine z_ci hW (z_runV (As := [.int (xs (l4 + (1 : Int32)).toNatClampNeg), .int (xs (l4 + (2 : Int32)).toNatClampNeg)]) (rest := []) B hW zv_L_120 (K_X10_station hq9) hg8 rfl rfl rfl (Nat.le_of_ble_eq_true rfl) hl.1 ⟨Nat.le_of_ble_eq_true rfl, Nat.le_of_ble_eq_true rfl⟩ dL_law_692 ⟨by show (cl + 1) + 0 ≤ 601024; omega, by show (sl + 6) + 0 ≤ 7293034; omega⟩) (fun H locs hW => ?_)
  refine lv_istore (lv' := [(6, .int r10), (5, .int r4), (0, .ref b), (1, .ref l1), (2, .ref l2), (3, .ref l3), (4, .int l4)]) hx hb dL_law_695 hl (by decide) rfl (fun ls hl => ?_)
  refine lv_aload_n hx hb dL_law_697 rfl (lv_at hl 4 rfl) ?_
  obtain ⟨hg12, hf⟩ := z_g hf
  obtain ⟨r14, hq13, hf⟩ := z_b hf
  refine z_ci hW (z_runV (As := []) (rest := []) B hW zv_L_90 (K_X10_thrown hq13) hg12 rfl rfl rfl (Nat.le_of_ble_eq_true rfl) hl.1 ⟨Nat.le_of_ble_eq_true rfl, Nat.le_of_ble_eq_true rfl⟩ dL_law_698 ⟨by show (cl + 1) + 0 ≤ 601024; omega, by show (sl + 6) + 0 ≤ 7293034; omega⟩) (fun H locs hW => ?_)
  refine lv_iload hx hb dL_law_701 (lv_at hl 1 rfl) ?_
  refine lv_icmp_eq (tgt := 708) hx hb dL_law_703 (by decide) (fun hc703 => ?_) (fun hc703 => ?_)
  · replace hf := z_ip hc703 hf
    refine lv_iload hx hb dL_law_708 (lv_at hl 1 rfl) ?_
    refine lv_if_ne (tgt := 725) hx hb dL_law_710 (by decide) (fun hc710 => ?_) (fun hc710 => ?_)
    · replace hf := z_in hc710 hf
      exact t_L_law_725 B hst hX HL hcl hf hW (lv_sub hl [2, 3, 4, 5, 6] rfl) hk1 hr1
    · replace hf := z_ip hc710 hf
      refine lv_aload_n hx hb dL_law_713 rfl (lv_at hl 5 rfl) ?_
      refine lv_iconst (v := (0 : Int32)) hx hb dL_law_714 (by decide) ?_
      obtain ⟨hg15, hf⟩ := z_g hf
      obtain ⟨hg16, hf⟩ := z_g hf
      refine z_lald B hW hg15 hg16 dL_law_715 ?_
      refine lv_iload hx hb dL_law_716 (lv_at hl 0 rfl) ?_
      refine lv_i2l (v := r10.toInt64) hx hb dL_law_718 rfl ?_
      refine W.lcmp hx hb dL_law_719 ?_
      refine lv_if_eq (tgt := 725) hx hb dL_law_720 (by decide) (fun hc720 => ?_) (fun hc720 => ?_)
      · replace hf := z_ip hc720 hf
        exact t_L_law_725 B hst hX HL hcl hf hW (lv_sub hl [2, 3, 4, 5, 6] rfl) hk1 hr1
      · replace hf := z_in hc720 hf
        obtain ⟨w1, hf, ho17⟩ := z_x hf
        obtain rfl := hr1 _ ho17
        refine lv_iconst (v := (0 : Int32)) hx hb dL_law_723 (by decide) ?_
        exact absurd (Option.some.inj hf) (by decide)
  · replace hf := z_in hc703 hf
    obtain ⟨w1, hf, ho18⟩ := z_x hf
    obtain rfl := hr1 _ ho18
    refine lv_iconst (v := (0 : Int32)) hx hb dL_law_706 (by decide) ?_
    exact absurd (Option.some.inj hf) (by decide)
set_option maxRecDepth 100000 in
def f_L_law_781 (xs : Nat → Int32) (L : Nat) (σ : zSt) (l1 : Nat) (l2 : Nat) (l3 : Nat) (l4 : Int32) : Option ((zSt × Int32) ⊕ (Int32)) :=
(f_L_law_1539 xs L σ l1 l2 l3 l4)
set_option maxRecDepth 20000 in
set_option maxHeartbeats 4000000 in
theorem t_L_law_781 (B : z_B p s m #[Value.ref b] meth c D cA bs RL cL_law 9 ret) {cl sl : Nat} (hst : l.stackTraces = false) (hX : z_X bs s) (HL : z_L s bs b L xs) (hcl : cl + 1 ≤ 601024 ∧ sl + 6 ≤ 7293034)  {o1 : (zSt × Int32) ⊕ (Int32)} {σ : zSt} {l1 : Nat} {l2 : Nat} {l3 : Nat} {l4 : Int32} (hf : f_L_law_781 xs L σ l1 l2 l3 l4 = some o1) {H : Heap} {locs : List Loc} {ls : Array Slot} (hW : z_Ok D cA bs s σ H locs) (hl : lv_has ls 9 [(0, .ref b), (1, .ref l1), (2, .ref l2), (3, .ref l3), (4, .int l4)]) (hk1 : ∀ (σ : zSt), o1 = .inl (σ, l4 + (4 : Int32)) → ∀ {H : Heap} {locs : List Loc} {ls : Array Slot}, z_Ok D cA bs s σ H locs → lv_has ls 9 [(0, .ref b), (1, .ref l1), (2, .ref l2), (3, .ref l3), (4, .int (l4 + (4 : Int32)))] → W p l e room_1 s m #[Value.ref b] below meth c H locs (cl + 1) (sl + 6) (lw_Z below #[Value.ref b] s) (F0 m 23 ls [])) (hr1 : ∀ x, o1 = .inr x → x = (1 : Int32)) : W p l e room_1 s m #[Value.ref b] below meth c H locs (cl + 1) (sl + 6) (lw_Z below #[Value.ref b] s) (F0 m 781 ls []) := by
  have hx := B.1
  have hb := B.2.1
  have hown := B.2.2.2.1
  have hts := B.2.2.2.2.1
  unfold f_L_law_781 at hf
  refine lv_goto (tgt := 1539) hx hb dL_law_781 (by decide) ?_
  exact t_L_law_1539 B hst hX HL hcl hf hW hl hk1 hr1
set_option maxRecDepth 100000 in
def f_L_law_728 (xs : Nat → Int32) (L : Nat) (σ : zSt) (l1 : Nat) (l2 : Nat) (l3 : Nat) (l4 : Int32) : Option ((zSt × Int32) ⊕ (Int32)) :=
(if z_ix (l4 + (1 : Int32)) L then (zb2 (f_L_addressAt σ l1 (xs (l4 + (1 : Int32)).toNatClampNeg) l3) (fun r3 σ4 => (if z_ix (l4 + (1 : Int32)) L then (if z_ob σ4 l2 9 then (zb2 (f_X10_addressAt σ4 l2 (xs (l4 + (1 : Int32)).toNatClampNeg)) (fun r8 σ9 => (if z_ob σ9 l2 9 then (zb (f_X10_thrown σ9 l2) (fun r12 => (if r12 = r3 then
(if r3 = 0 then
(if z_ar σ9 l3 2 then (if z_ix (0 : Int32) (z_ln σ9 l3) then (if (lg_cmp (z_J σ9 l3 (0 : Int32).toNatClampNeg) r8.toInt64) = 0 then
(f_L_law_781 xs L σ9 l1 l2 l3 l4)
else
(zex (some (0 : Int32)))) else none) else none)
else
(f_L_law_781 xs L σ9 l1 l2 l3 l4))
else
(zex (some (0 : Int32)))))) else none))) else none) else none))) else none)
set_option maxRecDepth 20000 in
set_option maxHeartbeats 4000000 in
theorem t_L_law_728 (B : z_B p s m #[Value.ref b] meth c D cA bs RL cL_law 9 ret) {cl sl : Nat} (hst : l.stackTraces = false) (hX : z_X bs s) (HL : z_L s bs b L xs) (hcl : cl + 1 ≤ 601024 ∧ sl + 6 ≤ 7293034)  {o1 : (zSt × Int32) ⊕ (Int32)} {σ : zSt} {l1 : Nat} {l2 : Nat} {l3 : Nat} {l4 : Int32} (hf : f_L_law_728 xs L σ l1 l2 l3 l4 = some o1) {H : Heap} {locs : List Loc} {ls : Array Slot} (hW : z_Ok D cA bs s σ H locs) (hl : lv_has ls 9 [(0, .ref b), (1, .ref l1), (2, .ref l2), (3, .ref l3), (4, .int l4)]) (hk1 : ∀ (σ : zSt), o1 = .inl (σ, l4 + (4 : Int32)) → ∀ {H : Heap} {locs : List Loc} {ls : Array Slot}, z_Ok D cA bs s σ H locs → lv_has ls 9 [(0, .ref b), (1, .ref l1), (2, .ref l2), (3, .ref l3), (4, .int (l4 + (4 : Int32)))] → W p l e room_1 s m #[Value.ref b] below meth c H locs (cl + 1) (sl + 6) (lw_Z below #[Value.ref b] s) (F0 m 23 ls [])) (hr1 : ∀ x, o1 = .inr x → x = (1 : Int32)) : W p l e room_1 s m #[Value.ref b] below meth c H locs (cl + 0) (sl + 0) (lw_Z below #[Value.ref b] s) (F0 m 728 ls []) := by
  have hx := B.1
  have hb := B.2.1
  have hown := B.2.2.2.1
  have hts := B.2.2.2.2.1
  unfold f_L_law_728 at hf
  refine lv_aload_n hx hb dL_law_728 rfl (lv_at hl 1 rfl) ?_
  refine lv_aload_n hx hb dL_law_729 rfl (lv_at hl 0 rfl) ?_
  refine lv_iload hx hb dL_law_730 (lv_at hl 4 rfl) ?_
  refine lv_iconst (v := (1 : Int32)) hx hb dL_law_732 (by decide) ?_
  refine lv_iadd hx hb dL_law_733 ?_
  obtain ⟨hg1, hf⟩ := z_g hf
  refine z_sld B hW HL hg1 dL_law_734 ?_
  refine lv_aload_n hx hb dL_law_735 rfl (lv_at hl 3 rfl) ?_
  obtain ⟨r3, σ4, hq2, hf⟩ := z_b2 hf
  refine z_ci hW (z_runSW (As := [.ref l1, .int (xs (l4 + (1 : Int32)).toNatClampNeg), .ref l3]) (rest := []) B hX hW zl_L_121 (K_L_addressAt hst hq2) rfl rfl (Nat.le_of_ble_eq_true rfl) hl.1 ⟨Nat.le_of_ble_eq_true rfl, Nat.le_of_ble_eq_true rfl⟩ dL_law_736 ⟨by show (cl + 0) + 1 ≤ 601024; omega, by show (sl + 0) + 6 ≤ 7293034; omega⟩) (fun H locs hW => ?_)
  refine lv_istore (lv' := [(5, .int r3), (0, .ref b), (1, .ref l1), (2, .ref l2), (3, .ref l3), (4, .int l4)]) hx hb dL_law_739 hl (by decide) rfl (fun ls hl => ?_)
  refine lv_aload_n hx hb dL_law_741 rfl (lv_at hl 3 rfl) ?_
  refine lv_aload_n hx hb dL_law_742 rfl (lv_at hl 1 rfl) ?_
  refine lv_iload hx hb dL_law_743 (lv_at hl 5 rfl) ?_
  refine lv_iconst (v := (1 : Int32)) hx hb dL_law_745 (by decide) ?_
  refine lv_iadd hx hb dL_law_746 ?_
  obtain ⟨hg5, hf⟩ := z_g hf
  refine z_sld B hW HL hg5 dL_law_747 ?_
  obtain ⟨hg6, hf⟩ := z_g hf
  obtain ⟨r8, σ9, hq7, hf⟩ := z_b2 hf
  refine z_ci hW (z_runV (As := [.int (xs (l4 + (1 : Int32)).toNatClampNeg)]) (rest := []) B hW zv_L_123 (K_X10_addressAt hq7) hg6 rfl rfl rfl (Nat.le_of_ble_eq_true rfl) hl.1 ⟨Nat.le_of_ble_eq_true rfl, Nat.le_of_ble_eq_true rfl⟩ dL_law_748 ⟨by show (cl + 1) + 0 ≤ 601024; omega, by show (sl + 6) + 0 ≤ 7293034; omega⟩) (fun H locs hW => ?_)
  refine lv_istore (lv' := [(6, .int r8), (5, .int r3), (0, .ref b), (1, .ref l1), (2, .ref l2), (3, .ref l3), (4, .int l4)]) hx hb dL_law_751 hl (by decide) rfl (fun ls hl => ?_)
  refine lv_aload_n hx hb dL_law_753 rfl (lv_at hl 4 rfl) ?_
  obtain ⟨hg10, hf⟩ := z_g hf
  obtain ⟨r12, hq11, hf⟩ := z_b hf
  refine z_ci hW (z_runV (As := []) (rest := []) B hW zv_L_90 (K_X10_thrown hq11) hg10 rfl rfl rfl (Nat.le_of_ble_eq_true rfl) hl.1 ⟨Nat.le_of_ble_eq_true rfl, Nat.le_of_ble_eq_true rfl⟩ dL_law_754 ⟨by show (cl + 1) + 0 ≤ 601024; omega, by show (sl + 6) + 0 ≤ 7293034; omega⟩) (fun H locs hW => ?_)
  refine lv_iload hx hb dL_law_757 (lv_at hl 1 rfl) ?_
  refine lv_icmp_eq (tgt := 764) hx hb dL_law_759 (by decide) (fun hc759 => ?_) (fun hc759 => ?_)
  · replace hf := z_ip hc759 hf
    refine lv_iload hx hb dL_law_764 (lv_at hl 1 rfl) ?_
    refine lv_if_ne (tgt := 781) hx hb dL_law_766 (by decide) (fun hc766 => ?_) (fun hc766 => ?_)
    · replace hf := z_in hc766 hf
      exact t_L_law_781 B hst hX HL hcl hf hW (lv_sub hl [2, 3, 4, 5, 6] rfl) hk1 hr1
    · replace hf := z_ip hc766 hf
      refine lv_aload_n hx hb dL_law_769 rfl (lv_at hl 5 rfl) ?_
      refine lv_iconst (v := (0 : Int32)) hx hb dL_law_770 (by decide) ?_
      obtain ⟨hg13, hf⟩ := z_g hf
      obtain ⟨hg14, hf⟩ := z_g hf
      refine z_lald B hW hg13 hg14 dL_law_771 ?_
      refine lv_iload hx hb dL_law_772 (lv_at hl 0 rfl) ?_
      refine lv_i2l (v := r8.toInt64) hx hb dL_law_774 rfl ?_
      refine W.lcmp hx hb dL_law_775 ?_
      refine lv_if_eq (tgt := 781) hx hb dL_law_776 (by decide) (fun hc776 => ?_) (fun hc776 => ?_)
      · replace hf := z_ip hc776 hf
        exact t_L_law_781 B hst hX HL hcl hf hW (lv_sub hl [2, 3, 4, 5, 6] rfl) hk1 hr1
      · replace hf := z_in hc776 hf
        obtain ⟨w1, hf, ho15⟩ := z_x hf
        obtain rfl := hr1 _ ho15
        refine lv_iconst (v := (0 : Int32)) hx hb dL_law_779 (by decide) ?_
        exact absurd (Option.some.inj hf) (by decide)
  · replace hf := z_in hc759 hf
    obtain ⟨w1, hf, ho16⟩ := z_x hf
    obtain rfl := hr1 _ ho16
    refine lv_iconst (v := (0 : Int32)) hx hb dL_law_762 (by decide) ?_
    exact absurd (Option.some.inj hf) (by decide)
set_option maxRecDepth 100000 in
def f_L_law_849 (xs : Nat → Int32) (L : Nat) (σ : zSt) (l1 : Nat) (l2 : Nat) (l3 : Nat) (l4 : Int32) : Option ((zSt × Int32) ⊕ (Int32)) :=
(f_L_law_1539 xs L σ l1 l2 l3 l4)
set_option maxRecDepth 20000 in
set_option maxHeartbeats 4000000 in
theorem t_L_law_849 (B : z_B p s m #[Value.ref b] meth c D cA bs RL cL_law 9 ret) {cl sl : Nat} (hst : l.stackTraces = false) (hX : z_X bs s) (HL : z_L s bs b L xs) (hcl : cl + 1 ≤ 601024 ∧ sl + 6 ≤ 7293034)  {o1 : (zSt × Int32) ⊕ (Int32)} {σ : zSt} {l1 : Nat} {l2 : Nat} {l3 : Nat} {l4 : Int32} (hf : f_L_law_849 xs L σ l1 l2 l3 l4 = some o1) {H : Heap} {locs : List Loc} {ls : Array Slot} (hW : z_Ok D cA bs s σ H locs) (hl : lv_has ls 9 [(0, .ref b), (1, .ref l1), (2, .ref l2), (3, .ref l3), (4, .int l4)]) (hk1 : ∀ (σ : zSt), o1 = .inl (σ, l4 + (4 : Int32)) → ∀ {H : Heap} {locs : List Loc} {ls : Array Slot}, z_Ok D cA bs s σ H locs → lv_has ls 9 [(0, .ref b), (1, .ref l1), (2, .ref l2), (3, .ref l3), (4, .int (l4 + (4 : Int32)))] → W p l e room_1 s m #[Value.ref b] below meth c H locs (cl + 1) (sl + 6) (lw_Z below #[Value.ref b] s) (F0 m 23 ls [])) (hr1 : ∀ x, o1 = .inr x → x = (1 : Int32)) : W p l e room_1 s m #[Value.ref b] below meth c H locs (cl + 1) (sl + 6) (lw_Z below #[Value.ref b] s) (F0 m 849 ls []) := by
  have hx := B.1
  have hb := B.2.1
  have hown := B.2.2.2.1
  have hts := B.2.2.2.2.1
  unfold f_L_law_849 at hf
  refine lv_goto (tgt := 1539) hx hb dL_law_849 (by decide) ?_
  exact t_L_law_1539 B hst hX HL hcl hf hW hl hk1 hr1
set_option maxRecDepth 100000 in
def f_L_law_784 (xs : Nat → Int32) (L : Nat) (σ : zSt) (l1 : Nat) (l2 : Nat) (l3 : Nat) (l4 : Int32) : Option ((zSt × Int32) ⊕ (Int32)) :=
(if z_ix (l4 + (1 : Int32)) L then (if z_ix (l4 + (2 : Int32)) L then (zb2 (f_L_queued σ l1 (xs (l4 + (1 : Int32)).toNatClampNeg) (xs (l4 + (2 : Int32)).toNatClampNeg) l3) (fun r4 σ5 => (if z_ix (l4 + (1 : Int32)) L then (if z_ix (l4 + (2 : Int32)) L then (if z_ob σ5 l2 9 then (zb2 (f_X10_queued σ5 l2 (xs (l4 + (1 : Int32)).toNatClampNeg) (xs (l4 + (2 : Int32)).toNatClampNeg)) (fun r10 σ11 => (if z_ob σ11 l2 9 then (zb (f_X10_thrown σ11 l2) (fun r14 => (if r14 = r4 then
(if r4 = 0 then
(if z_ar σ11 l3 2 then (if z_ix (0 : Int32) (z_ln σ11 l3) then (if (lg_cmp (z_J σ11 l3 (0 : Int32).toNatClampNeg) r10.toInt64) = 0 then
(f_L_law_849 xs L σ11 l1 l2 l3 l4)
else
(zex (some (0 : Int32)))) else none) else none)
else
(f_L_law_849 xs L σ11 l1 l2 l3 l4))
else
(zex (some (0 : Int32)))))) else none))) else none) else none) else none))) else none) else none)
set_option maxRecDepth 20000 in
set_option maxHeartbeats 4000000 in
theorem t_L_law_784 (B : z_B p s m #[Value.ref b] meth c D cA bs RL cL_law 9 ret) {cl sl : Nat} (hst : l.stackTraces = false) (hX : z_X bs s) (HL : z_L s bs b L xs) (hcl : cl + 1 ≤ 601024 ∧ sl + 6 ≤ 7293034)  {o1 : (zSt × Int32) ⊕ (Int32)} {σ : zSt} {l1 : Nat} {l2 : Nat} {l3 : Nat} {l4 : Int32} (hf : f_L_law_784 xs L σ l1 l2 l3 l4 = some o1) {H : Heap} {locs : List Loc} {ls : Array Slot} (hW : z_Ok D cA bs s σ H locs) (hl : lv_has ls 9 [(0, .ref b), (1, .ref l1), (2, .ref l2), (3, .ref l3), (4, .int l4)]) (hk1 : ∀ (σ : zSt), o1 = .inl (σ, l4 + (4 : Int32)) → ∀ {H : Heap} {locs : List Loc} {ls : Array Slot}, z_Ok D cA bs s σ H locs → lv_has ls 9 [(0, .ref b), (1, .ref l1), (2, .ref l2), (3, .ref l3), (4, .int (l4 + (4 : Int32)))] → W p l e room_1 s m #[Value.ref b] below meth c H locs (cl + 1) (sl + 6) (lw_Z below #[Value.ref b] s) (F0 m 23 ls [])) (hr1 : ∀ x, o1 = .inr x → x = (1 : Int32)) : W p l e room_1 s m #[Value.ref b] below meth c H locs (cl + 0) (sl + 0) (lw_Z below #[Value.ref b] s) (F0 m 784 ls []) := by
  have hx := B.1
  have hb := B.2.1
  have hown := B.2.2.2.1
  have hts := B.2.2.2.2.1
  unfold f_L_law_784 at hf
  refine lv_aload_n hx hb dL_law_784 rfl (lv_at hl 1 rfl) ?_
  refine lv_aload_n hx hb dL_law_785 rfl (lv_at hl 0 rfl) ?_
  refine lv_iload hx hb dL_law_786 (lv_at hl 4 rfl) ?_
  refine lv_iconst (v := (1 : Int32)) hx hb dL_law_788 (by decide) ?_
  refine lv_iadd hx hb dL_law_789 ?_
  obtain ⟨hg1, hf⟩ := z_g hf
  refine z_sld B hW HL hg1 dL_law_790 ?_
  refine lv_aload_n hx hb dL_law_791 rfl (lv_at hl 0 rfl) ?_
  refine lv_iload hx hb dL_law_792 (lv_at hl 4 rfl) ?_
  refine lv_iconst (v := (2 : Int32)) hx hb dL_law_794 (by decide) ?_
  refine lv_iadd hx hb dL_law_795 ?_
  obtain ⟨hg2, hf⟩ := z_g hf
  refine z_sld B hW HL hg2 dL_law_796 ?_
  refine lv_aload_n hx hb dL_law_797 rfl (lv_at hl 3 rfl) ?_
  obtain ⟨r4, σ5, hq3, hf⟩ := z_b2 hf
  refine z_ci hW (z_runSW (As := [.ref l1, .int (xs (l4 + (1 : Int32)).toNatClampNeg), .int (xs (l4 + (2 : Int32)).toNatClampNeg), .ref l3]) (rest := []) B hX hW zl_L_124 (K_L_queued hst hq3) rfl rfl (Nat.le_of_ble_eq_true rfl) hl.1 ⟨Nat.le_of_ble_eq_true rfl, Nat.le_of_ble_eq_true rfl⟩ dL_law_798 ⟨by show (cl + 0) + 1 ≤ 601024; omega, by show (sl + 0) + 6 ≤ 7293034; omega⟩) (fun H locs hW => ?_)
  refine lv_istore (lv' := [(5, .int r4), (0, .ref b), (1, .ref l1), (2, .ref l2), (3, .ref l3), (4, .int l4)]) hx hb dL_law_801 hl (by decide) rfl (fun ls hl => ?_)
  refine lv_aload_n hx hb dL_law_803 rfl (lv_at hl 3 rfl) ?_
  refine lv_aload_n hx hb dL_law_804 rfl (lv_at hl 1 rfl) ?_
  refine lv_iload hx hb dL_law_805 (lv_at hl 5 rfl) ?_
  refine lv_iconst (v := (1 : Int32)) hx hb dL_law_807 (by decide) ?_
  refine lv_iadd hx hb dL_law_808 ?_
  obtain ⟨hg6, hf⟩ := z_g hf
  refine z_sld B hW HL hg6 dL_law_809 ?_
  refine lv_aload_n hx hb dL_law_810 rfl (lv_at hl 1 rfl) ?_
  refine lv_iload hx hb dL_law_811 (lv_at hl 5 rfl) ?_
  refine lv_iconst (v := (2 : Int32)) hx hb dL_law_813 (by decide) ?_
  refine lv_iadd hx hb dL_law_814 ?_
  obtain ⟨hg7, hf⟩ := z_g hf
  refine z_sld B hW HL hg7 dL_law_815 ?_
  obtain ⟨hg8, hf⟩ := z_g hf
  obtain ⟨r10, σ11, hq9, hf⟩ := z_b2 hf
  refine z_ci hW (z_runV (As := [.int (xs (l4 + (1 : Int32)).toNatClampNeg), .int (xs (l4 + (2 : Int32)).toNatClampNeg)]) (rest := []) B hW zv_L_126 (K_X10_queued hq9) hg8 rfl rfl rfl (Nat.le_of_ble_eq_true rfl) hl.1 ⟨Nat.le_of_ble_eq_true rfl, Nat.le_of_ble_eq_true rfl⟩ dL_law_816 ⟨by show (cl + 1) + 0 ≤ 601024; omega, by show (sl + 6) + 0 ≤ 7293034; omega⟩) (fun H locs hW => ?_)
  refine lv_istore (lv' := [(6, .int r10), (5, .int r4), (0, .ref b), (1, .ref l1), (2, .ref l2), (3, .ref l3), (4, .int l4)]) hx hb dL_law_819 hl (by decide) rfl (fun ls hl => ?_)
  refine lv_aload_n hx hb dL_law_821 rfl (lv_at hl 4 rfl) ?_
  obtain ⟨hg12, hf⟩ := z_g hf
  obtain ⟨r14, hq13, hf⟩ := z_b hf
  refine z_ci hW (z_runV (As := []) (rest := []) B hW zv_L_90 (K_X10_thrown hq13) hg12 rfl rfl rfl (Nat.le_of_ble_eq_true rfl) hl.1 ⟨Nat.le_of_ble_eq_true rfl, Nat.le_of_ble_eq_true rfl⟩ dL_law_822 ⟨by show (cl + 1) + 0 ≤ 601024; omega, by show (sl + 6) + 0 ≤ 7293034; omega⟩) (fun H locs hW => ?_)
  refine lv_iload hx hb dL_law_825 (lv_at hl 1 rfl) ?_
  refine lv_icmp_eq (tgt := 832) hx hb dL_law_827 (by decide) (fun hc827 => ?_) (fun hc827 => ?_)
  · replace hf := z_ip hc827 hf
    refine lv_iload hx hb dL_law_832 (lv_at hl 1 rfl) ?_
    refine lv_if_ne (tgt := 849) hx hb dL_law_834 (by decide) (fun hc834 => ?_) (fun hc834 => ?_)
    · replace hf := z_in hc834 hf
      exact t_L_law_849 B hst hX HL hcl hf hW (lv_sub hl [2, 3, 4, 5, 6] rfl) hk1 hr1
    · replace hf := z_ip hc834 hf
      refine lv_aload_n hx hb dL_law_837 rfl (lv_at hl 5 rfl) ?_
      refine lv_iconst (v := (0 : Int32)) hx hb dL_law_838 (by decide) ?_
      obtain ⟨hg15, hf⟩ := z_g hf
      obtain ⟨hg16, hf⟩ := z_g hf
      refine z_lald B hW hg15 hg16 dL_law_839 ?_
      refine lv_iload hx hb dL_law_840 (lv_at hl 0 rfl) ?_
      refine lv_i2l (v := r10.toInt64) hx hb dL_law_842 rfl ?_
      refine W.lcmp hx hb dL_law_843 ?_
      refine lv_if_eq (tgt := 849) hx hb dL_law_844 (by decide) (fun hc844 => ?_) (fun hc844 => ?_)
      · replace hf := z_ip hc844 hf
        exact t_L_law_849 B hst hX HL hcl hf hW (lv_sub hl [2, 3, 4, 5, 6] rfl) hk1 hr1
      · replace hf := z_in hc844 hf
        obtain ⟨w1, hf, ho17⟩ := z_x hf
        obtain rfl := hr1 _ ho17
        refine lv_iconst (v := (0 : Int32)) hx hb dL_law_847 (by decide) ?_
        exact absurd (Option.some.inj hf) (by decide)
  · replace hf := z_in hc827 hf
    obtain ⟨w1, hf, ho18⟩ := z_x hf
    obtain rfl := hr1 _ ho18
    refine lv_iconst (v := (0 : Int32)) hx hb dL_law_830 (by decide) ?_
    exact absurd (Option.some.inj hf) (by decide)
set_option maxRecDepth 100000 in
def f_L_law_917 (xs : Nat → Int32) (L : Nat) (σ : zSt) (l1 : Nat) (l2 : Nat) (l3 : Nat) (l4 : Int32) : Option ((zSt × Int32) ⊕ (Int32)) :=
(f_L_law_1539 xs L σ l1 l2 l3 l4)
set_option maxRecDepth 20000 in
set_option maxHeartbeats 4000000 in
theorem t_L_law_917 (B : z_B p s m #[Value.ref b] meth c D cA bs RL cL_law 9 ret) {cl sl : Nat} (hst : l.stackTraces = false) (hX : z_X bs s) (HL : z_L s bs b L xs) (hcl : cl + 1 ≤ 601024 ∧ sl + 6 ≤ 7293034)  {o1 : (zSt × Int32) ⊕ (Int32)} {σ : zSt} {l1 : Nat} {l2 : Nat} {l3 : Nat} {l4 : Int32} (hf : f_L_law_917 xs L σ l1 l2 l3 l4 = some o1) {H : Heap} {locs : List Loc} {ls : Array Slot} (hW : z_Ok D cA bs s σ H locs) (hl : lv_has ls 9 [(0, .ref b), (1, .ref l1), (2, .ref l2), (3, .ref l3), (4, .int l4)]) (hk1 : ∀ (σ : zSt), o1 = .inl (σ, l4 + (4 : Int32)) → ∀ {H : Heap} {locs : List Loc} {ls : Array Slot}, z_Ok D cA bs s σ H locs → lv_has ls 9 [(0, .ref b), (1, .ref l1), (2, .ref l2), (3, .ref l3), (4, .int (l4 + (4 : Int32)))] → W p l e room_1 s m #[Value.ref b] below meth c H locs (cl + 1) (sl + 6) (lw_Z below #[Value.ref b] s) (F0 m 23 ls [])) (hr1 : ∀ x, o1 = .inr x → x = (1 : Int32)) : W p l e room_1 s m #[Value.ref b] below meth c H locs (cl + 1) (sl + 6) (lw_Z below #[Value.ref b] s) (F0 m 917 ls []) := by
  have hx := B.1
  have hb := B.2.1
  have hown := B.2.2.2.1
  have hts := B.2.2.2.2.1
  unfold f_L_law_917 at hf
  refine lv_goto (tgt := 1539) hx hb dL_law_917 (by decide) ?_
  exact t_L_law_1539 B hst hX HL hcl hf hW hl hk1 hr1
set_option maxRecDepth 100000 in
def f_L_law_852 (xs : Nat → Int32) (L : Nat) (σ : zSt) (l1 : Nat) (l2 : Nat) (l3 : Nat) (l4 : Int32) : Option ((zSt × Int32) ⊕ (Int32)) :=
(if z_ix (l4 + (1 : Int32)) L then (if z_ix (l4 + (2 : Int32)) L then (zb2 (f_L_message σ l1 (xs (l4 + (1 : Int32)).toNatClampNeg) (xs (l4 + (2 : Int32)).toNatClampNeg) l3) (fun r4 σ5 => (if z_ix (l4 + (1 : Int32)) L then (if z_ix (l4 + (2 : Int32)) L then (if z_ob σ5 l2 9 then (zb2 (f_X10_message σ5 l2 (xs (l4 + (1 : Int32)).toNatClampNeg) (xs (l4 + (2 : Int32)).toNatClampNeg)) (fun r10 σ11 => (if z_ob σ11 l2 9 then (zb (f_X10_thrown σ11 l2) (fun r14 => (if r14 = r4 then
(if r4 = 0 then
(if z_ar σ11 l3 2 then (if z_ix (0 : Int32) (z_ln σ11 l3) then (if (lg_cmp (z_J σ11 l3 (0 : Int32).toNatClampNeg) r10.toInt64) = 0 then
(f_L_law_917 xs L σ11 l1 l2 l3 l4)
else
(zex (some (0 : Int32)))) else none) else none)
else
(f_L_law_917 xs L σ11 l1 l2 l3 l4))
else
(zex (some (0 : Int32)))))) else none))) else none) else none) else none))) else none) else none)
set_option maxRecDepth 20000 in
set_option maxHeartbeats 4000000 in
theorem t_L_law_852 (B : z_B p s m #[Value.ref b] meth c D cA bs RL cL_law 9 ret) {cl sl : Nat} (hst : l.stackTraces = false) (hX : z_X bs s) (HL : z_L s bs b L xs) (hcl : cl + 1 ≤ 601024 ∧ sl + 6 ≤ 7293034)  {o1 : (zSt × Int32) ⊕ (Int32)} {σ : zSt} {l1 : Nat} {l2 : Nat} {l3 : Nat} {l4 : Int32} (hf : f_L_law_852 xs L σ l1 l2 l3 l4 = some o1) {H : Heap} {locs : List Loc} {ls : Array Slot} (hW : z_Ok D cA bs s σ H locs) (hl : lv_has ls 9 [(0, .ref b), (1, .ref l1), (2, .ref l2), (3, .ref l3), (4, .int l4)]) (hk1 : ∀ (σ : zSt), o1 = .inl (σ, l4 + (4 : Int32)) → ∀ {H : Heap} {locs : List Loc} {ls : Array Slot}, z_Ok D cA bs s σ H locs → lv_has ls 9 [(0, .ref b), (1, .ref l1), (2, .ref l2), (3, .ref l3), (4, .int (l4 + (4 : Int32)))] → W p l e room_1 s m #[Value.ref b] below meth c H locs (cl + 1) (sl + 6) (lw_Z below #[Value.ref b] s) (F0 m 23 ls [])) (hr1 : ∀ x, o1 = .inr x → x = (1 : Int32)) : W p l e room_1 s m #[Value.ref b] below meth c H locs (cl + 0) (sl + 0) (lw_Z below #[Value.ref b] s) (F0 m 852 ls []) := by
  have hx := B.1
  have hb := B.2.1
  have hown := B.2.2.2.1
  have hts := B.2.2.2.2.1
  unfold f_L_law_852 at hf
  refine lv_aload_n hx hb dL_law_852 rfl (lv_at hl 1 rfl) ?_
  refine lv_aload_n hx hb dL_law_853 rfl (lv_at hl 0 rfl) ?_
  refine lv_iload hx hb dL_law_854 (lv_at hl 4 rfl) ?_
  refine lv_iconst (v := (1 : Int32)) hx hb dL_law_856 (by decide) ?_
  refine lv_iadd hx hb dL_law_857 ?_
  obtain ⟨hg1, hf⟩ := z_g hf
  refine z_sld B hW HL hg1 dL_law_858 ?_
  refine lv_aload_n hx hb dL_law_859 rfl (lv_at hl 0 rfl) ?_
  refine lv_iload hx hb dL_law_860 (lv_at hl 4 rfl) ?_
  refine lv_iconst (v := (2 : Int32)) hx hb dL_law_862 (by decide) ?_
  refine lv_iadd hx hb dL_law_863 ?_
  obtain ⟨hg2, hf⟩ := z_g hf
  refine z_sld B hW HL hg2 dL_law_864 ?_
  refine lv_aload_n hx hb dL_law_865 rfl (lv_at hl 3 rfl) ?_
  obtain ⟨r4, σ5, hq3, hf⟩ := z_b2 hf
  refine z_ci hW (z_runSW (As := [.ref l1, .int (xs (l4 + (1 : Int32)).toNatClampNeg), .int (xs (l4 + (2 : Int32)).toNatClampNeg), .ref l3]) (rest := []) B hX hW zl_L_127 (K_L_message hst hq3) rfl rfl (Nat.le_of_ble_eq_true rfl) hl.1 ⟨Nat.le_of_ble_eq_true rfl, Nat.le_of_ble_eq_true rfl⟩ dL_law_866 ⟨by show (cl + 0) + 1 ≤ 601024; omega, by show (sl + 0) + 6 ≤ 7293034; omega⟩) (fun H locs hW => ?_)
  refine lv_istore (lv' := [(5, .int r4), (0, .ref b), (1, .ref l1), (2, .ref l2), (3, .ref l3), (4, .int l4)]) hx hb dL_law_869 hl (by decide) rfl (fun ls hl => ?_)
  refine lv_aload_n hx hb dL_law_871 rfl (lv_at hl 3 rfl) ?_
  refine lv_aload_n hx hb dL_law_872 rfl (lv_at hl 1 rfl) ?_
  refine lv_iload hx hb dL_law_873 (lv_at hl 5 rfl) ?_
  refine lv_iconst (v := (1 : Int32)) hx hb dL_law_875 (by decide) ?_
  refine lv_iadd hx hb dL_law_876 ?_
  obtain ⟨hg6, hf⟩ := z_g hf
  refine z_sld B hW HL hg6 dL_law_877 ?_
  refine lv_aload_n hx hb dL_law_878 rfl (lv_at hl 1 rfl) ?_
  refine lv_iload hx hb dL_law_879 (lv_at hl 5 rfl) ?_
  refine lv_iconst (v := (2 : Int32)) hx hb dL_law_881 (by decide) ?_
  refine lv_iadd hx hb dL_law_882 ?_
  obtain ⟨hg7, hf⟩ := z_g hf
  refine z_sld B hW HL hg7 dL_law_883 ?_
  obtain ⟨hg8, hf⟩ := z_g hf
  obtain ⟨r10, σ11, hq9, hf⟩ := z_b2 hf
  refine z_ci hW (z_runV (As := [.int (xs (l4 + (1 : Int32)).toNatClampNeg), .int (xs (l4 + (2 : Int32)).toNatClampNeg)]) (rest := []) B hW zv_L_129 (K_X10_message hq9) hg8 rfl rfl rfl (Nat.le_of_ble_eq_true rfl) hl.1 ⟨Nat.le_of_ble_eq_true rfl, Nat.le_of_ble_eq_true rfl⟩ dL_law_884 ⟨by show (cl + 1) + 0 ≤ 601024; omega, by show (sl + 6) + 0 ≤ 7293034; omega⟩) (fun H locs hW => ?_)
  refine lv_istore (lv' := [(6, .int r10), (5, .int r4), (0, .ref b), (1, .ref l1), (2, .ref l2), (3, .ref l3), (4, .int l4)]) hx hb dL_law_887 hl (by decide) rfl (fun ls hl => ?_)
  refine lv_aload_n hx hb dL_law_889 rfl (lv_at hl 4 rfl) ?_
  obtain ⟨hg12, hf⟩ := z_g hf
  obtain ⟨r14, hq13, hf⟩ := z_b hf
  refine z_ci hW (z_runV (As := []) (rest := []) B hW zv_L_90 (K_X10_thrown hq13) hg12 rfl rfl rfl (Nat.le_of_ble_eq_true rfl) hl.1 ⟨Nat.le_of_ble_eq_true rfl, Nat.le_of_ble_eq_true rfl⟩ dL_law_890 ⟨by show (cl + 1) + 0 ≤ 601024; omega, by show (sl + 6) + 0 ≤ 7293034; omega⟩) (fun H locs hW => ?_)
  refine lv_iload hx hb dL_law_893 (lv_at hl 1 rfl) ?_
  refine lv_icmp_eq (tgt := 900) hx hb dL_law_895 (by decide) (fun hc895 => ?_) (fun hc895 => ?_)
  · replace hf := z_ip hc895 hf
    refine lv_iload hx hb dL_law_900 (lv_at hl 1 rfl) ?_
    refine lv_if_ne (tgt := 917) hx hb dL_law_902 (by decide) (fun hc902 => ?_) (fun hc902 => ?_)
    · replace hf := z_in hc902 hf
      exact t_L_law_917 B hst hX HL hcl hf hW (lv_sub hl [2, 3, 4, 5, 6] rfl) hk1 hr1
    · replace hf := z_ip hc902 hf
      refine lv_aload_n hx hb dL_law_905 rfl (lv_at hl 5 rfl) ?_
      refine lv_iconst (v := (0 : Int32)) hx hb dL_law_906 (by decide) ?_
      obtain ⟨hg15, hf⟩ := z_g hf
      obtain ⟨hg16, hf⟩ := z_g hf
      refine z_lald B hW hg15 hg16 dL_law_907 ?_
      refine lv_iload hx hb dL_law_908 (lv_at hl 0 rfl) ?_
      refine lv_i2l (v := r10.toInt64) hx hb dL_law_910 rfl ?_
      refine W.lcmp hx hb dL_law_911 ?_
      refine lv_if_eq (tgt := 917) hx hb dL_law_912 (by decide) (fun hc912 => ?_) (fun hc912 => ?_)
      · replace hf := z_ip hc912 hf
        exact t_L_law_917 B hst hX HL hcl hf hW (lv_sub hl [2, 3, 4, 5, 6] rfl) hk1 hr1
      · replace hf := z_in hc912 hf
        obtain ⟨w1, hf, ho17⟩ := z_x hf
        obtain rfl := hr1 _ ho17
        refine lv_iconst (v := (0 : Int32)) hx hb dL_law_915 (by decide) ?_
        exact absurd (Option.some.inj hf) (by decide)
  · replace hf := z_in hc895 hf
    obtain ⟨w1, hf, ho18⟩ := z_x hf
    obtain rfl := hr1 _ ho18
    refine lv_iconst (v := (0 : Int32)) hx hb dL_law_898 (by decide) ?_
    exact absurd (Option.some.inj hf) (by decide)
set_option maxRecDepth 100000 in
def f_L_law_973 (xs : Nat → Int32) (L : Nat) (σ : zSt) (l1 : Nat) (l2 : Nat) (l3 : Nat) (l4 : Int32) : Option ((zSt × Int32) ⊕ (Int32)) :=
(f_L_law_1539 xs L σ l1 l2 l3 l4)
set_option maxRecDepth 20000 in
set_option maxHeartbeats 4000000 in
theorem t_L_law_973 (B : z_B p s m #[Value.ref b] meth c D cA bs RL cL_law 9 ret) {cl sl : Nat} (hst : l.stackTraces = false) (hX : z_X bs s) (HL : z_L s bs b L xs) (hcl : cl + 1 ≤ 601024 ∧ sl + 6 ≤ 7293034)  {o1 : (zSt × Int32) ⊕ (Int32)} {σ : zSt} {l1 : Nat} {l2 : Nat} {l3 : Nat} {l4 : Int32} (hf : f_L_law_973 xs L σ l1 l2 l3 l4 = some o1) {H : Heap} {locs : List Loc} {ls : Array Slot} (hW : z_Ok D cA bs s σ H locs) (hl : lv_has ls 9 [(0, .ref b), (1, .ref l1), (2, .ref l2), (3, .ref l3), (4, .int l4)]) (hk1 : ∀ (σ : zSt), o1 = .inl (σ, l4 + (4 : Int32)) → ∀ {H : Heap} {locs : List Loc} {ls : Array Slot}, z_Ok D cA bs s σ H locs → lv_has ls 9 [(0, .ref b), (1, .ref l1), (2, .ref l2), (3, .ref l3), (4, .int (l4 + (4 : Int32)))] → W p l e room_1 s m #[Value.ref b] below meth c H locs (cl + 1) (sl + 6) (lw_Z below #[Value.ref b] s) (F0 m 23 ls [])) (hr1 : ∀ x, o1 = .inr x → x = (1 : Int32)) : W p l e room_1 s m #[Value.ref b] below meth c H locs (cl + 1) (sl + 6) (lw_Z below #[Value.ref b] s) (F0 m 973 ls []) := by
  have hx := B.1
  have hb := B.2.1
  have hown := B.2.2.2.1
  have hts := B.2.2.2.2.1
  unfold f_L_law_973 at hf
  refine lv_goto (tgt := 1539) hx hb dL_law_973 (by decide) ?_
  exact t_L_law_1539 B hst hX HL hcl hf hW hl hk1 hr1
set_option maxRecDepth 100000 in
def f_L_law_920 (xs : Nat → Int32) (L : Nat) (σ : zSt) (l1 : Nat) (l2 : Nat) (l3 : Nat) (l4 : Int32) : Option ((zSt × Int32) ⊕ (Int32)) :=
(if z_ix (l4 + (1 : Int32)) L then (zb2 (f_L_count σ l1 (xs (l4 + (1 : Int32)).toNatClampNeg) l3) (fun r3 σ4 => (if z_ix (l4 + (1 : Int32)) L then (if z_ob σ4 l2 9 then (zb2 (f_X10_count σ4 l2 (xs (l4 + (1 : Int32)).toNatClampNeg)) (fun r8 σ9 => (if z_ob σ9 l2 9 then (zb (f_X10_thrown σ9 l2) (fun r12 => (if r12 = r3 then
(if r3 = 0 then
(if z_ar σ9 l3 2 then (if z_ix (0 : Int32) (z_ln σ9 l3) then (if (lg_cmp (z_J σ9 l3 (0 : Int32).toNatClampNeg) r8.toInt64) = 0 then
(f_L_law_973 xs L σ9 l1 l2 l3 l4)
else
(zex (some (0 : Int32)))) else none) else none)
else
(f_L_law_973 xs L σ9 l1 l2 l3 l4))
else
(zex (some (0 : Int32)))))) else none))) else none) else none))) else none)
set_option maxRecDepth 20000 in
set_option maxHeartbeats 4000000 in
theorem t_L_law_920 (B : z_B p s m #[Value.ref b] meth c D cA bs RL cL_law 9 ret) {cl sl : Nat} (hst : l.stackTraces = false) (hX : z_X bs s) (HL : z_L s bs b L xs) (hcl : cl + 1 ≤ 601024 ∧ sl + 6 ≤ 7293034)  {o1 : (zSt × Int32) ⊕ (Int32)} {σ : zSt} {l1 : Nat} {l2 : Nat} {l3 : Nat} {l4 : Int32} (hf : f_L_law_920 xs L σ l1 l2 l3 l4 = some o1) {H : Heap} {locs : List Loc} {ls : Array Slot} (hW : z_Ok D cA bs s σ H locs) (hl : lv_has ls 9 [(0, .ref b), (1, .ref l1), (2, .ref l2), (3, .ref l3), (4, .int l4)]) (hk1 : ∀ (σ : zSt), o1 = .inl (σ, l4 + (4 : Int32)) → ∀ {H : Heap} {locs : List Loc} {ls : Array Slot}, z_Ok D cA bs s σ H locs → lv_has ls 9 [(0, .ref b), (1, .ref l1), (2, .ref l2), (3, .ref l3), (4, .int (l4 + (4 : Int32)))] → W p l e room_1 s m #[Value.ref b] below meth c H locs (cl + 1) (sl + 6) (lw_Z below #[Value.ref b] s) (F0 m 23 ls [])) (hr1 : ∀ x, o1 = .inr x → x = (1 : Int32)) : W p l e room_1 s m #[Value.ref b] below meth c H locs (cl + 0) (sl + 0) (lw_Z below #[Value.ref b] s) (F0 m 920 ls []) := by
  have hx := B.1
  have hb := B.2.1
  have hown := B.2.2.2.1
  have hts := B.2.2.2.2.1
  unfold f_L_law_920 at hf
  refine lv_aload_n hx hb dL_law_920 rfl (lv_at hl 1 rfl) ?_
  refine lv_aload_n hx hb dL_law_921 rfl (lv_at hl 0 rfl) ?_
  refine lv_iload hx hb dL_law_922 (lv_at hl 4 rfl) ?_
  refine lv_iconst (v := (1 : Int32)) hx hb dL_law_924 (by decide) ?_
  refine lv_iadd hx hb dL_law_925 ?_
  obtain ⟨hg1, hf⟩ := z_g hf
  refine z_sld B hW HL hg1 dL_law_926 ?_
  refine lv_aload_n hx hb dL_law_927 rfl (lv_at hl 3 rfl) ?_
  obtain ⟨r3, σ4, hq2, hf⟩ := z_b2 hf
  refine z_ci hW (z_runSW (As := [.ref l1, .int (xs (l4 + (1 : Int32)).toNatClampNeg), .ref l3]) (rest := []) B hX hW zl_L_130 (K_L_count hst hq2) rfl rfl (Nat.le_of_ble_eq_true rfl) hl.1 ⟨Nat.le_of_ble_eq_true rfl, Nat.le_of_ble_eq_true rfl⟩ dL_law_928 ⟨by show (cl + 0) + 1 ≤ 601024; omega, by show (sl + 0) + 6 ≤ 7293034; omega⟩) (fun H locs hW => ?_)
  refine lv_istore (lv' := [(5, .int r3), (0, .ref b), (1, .ref l1), (2, .ref l2), (3, .ref l3), (4, .int l4)]) hx hb dL_law_931 hl (by decide) rfl (fun ls hl => ?_)
  refine lv_aload_n hx hb dL_law_933 rfl (lv_at hl 3 rfl) ?_
  refine lv_aload_n hx hb dL_law_934 rfl (lv_at hl 1 rfl) ?_
  refine lv_iload hx hb dL_law_935 (lv_at hl 5 rfl) ?_
  refine lv_iconst (v := (1 : Int32)) hx hb dL_law_937 (by decide) ?_
  refine lv_iadd hx hb dL_law_938 ?_
  obtain ⟨hg5, hf⟩ := z_g hf
  refine z_sld B hW HL hg5 dL_law_939 ?_
  obtain ⟨hg6, hf⟩ := z_g hf
  obtain ⟨r8, σ9, hq7, hf⟩ := z_b2 hf
  refine z_ci hW (z_runV (As := [.int (xs (l4 + (1 : Int32)).toNatClampNeg)]) (rest := []) B hW zv_L_132 (K_X10_count hq7) hg6 rfl rfl rfl (Nat.le_of_ble_eq_true rfl) hl.1 ⟨Nat.le_of_ble_eq_true rfl, Nat.le_of_ble_eq_true rfl⟩ dL_law_940 ⟨by show (cl + 1) + 0 ≤ 601024; omega, by show (sl + 6) + 0 ≤ 7293034; omega⟩) (fun H locs hW => ?_)
  refine lv_istore (lv' := [(6, .int r8), (5, .int r3), (0, .ref b), (1, .ref l1), (2, .ref l2), (3, .ref l3), (4, .int l4)]) hx hb dL_law_943 hl (by decide) rfl (fun ls hl => ?_)
  refine lv_aload_n hx hb dL_law_945 rfl (lv_at hl 4 rfl) ?_
  obtain ⟨hg10, hf⟩ := z_g hf
  obtain ⟨r12, hq11, hf⟩ := z_b hf
  refine z_ci hW (z_runV (As := []) (rest := []) B hW zv_L_90 (K_X10_thrown hq11) hg10 rfl rfl rfl (Nat.le_of_ble_eq_true rfl) hl.1 ⟨Nat.le_of_ble_eq_true rfl, Nat.le_of_ble_eq_true rfl⟩ dL_law_946 ⟨by show (cl + 1) + 0 ≤ 601024; omega, by show (sl + 6) + 0 ≤ 7293034; omega⟩) (fun H locs hW => ?_)
  refine lv_iload hx hb dL_law_949 (lv_at hl 1 rfl) ?_
  refine lv_icmp_eq (tgt := 956) hx hb dL_law_951 (by decide) (fun hc951 => ?_) (fun hc951 => ?_)
  · replace hf := z_ip hc951 hf
    refine lv_iload hx hb dL_law_956 (lv_at hl 1 rfl) ?_
    refine lv_if_ne (tgt := 973) hx hb dL_law_958 (by decide) (fun hc958 => ?_) (fun hc958 => ?_)
    · replace hf := z_in hc958 hf
      exact t_L_law_973 B hst hX HL hcl hf hW (lv_sub hl [2, 3, 4, 5, 6] rfl) hk1 hr1
    · replace hf := z_ip hc958 hf
      refine lv_aload_n hx hb dL_law_961 rfl (lv_at hl 5 rfl) ?_
      refine lv_iconst (v := (0 : Int32)) hx hb dL_law_962 (by decide) ?_
      obtain ⟨hg13, hf⟩ := z_g hf
      obtain ⟨hg14, hf⟩ := z_g hf
      refine z_lald B hW hg13 hg14 dL_law_963 ?_
      refine lv_iload hx hb dL_law_964 (lv_at hl 0 rfl) ?_
      refine lv_i2l (v := r8.toInt64) hx hb dL_law_966 rfl ?_
      refine W.lcmp hx hb dL_law_967 ?_
      refine lv_if_eq (tgt := 973) hx hb dL_law_968 (by decide) (fun hc968 => ?_) (fun hc968 => ?_)
      · replace hf := z_ip hc968 hf
        exact t_L_law_973 B hst hX HL hcl hf hW (lv_sub hl [2, 3, 4, 5, 6] rfl) hk1 hr1
      · replace hf := z_in hc968 hf
        obtain ⟨w1, hf, ho15⟩ := z_x hf
        obtain rfl := hr1 _ ho15
        refine lv_iconst (v := (0 : Int32)) hx hb dL_law_971 (by decide) ?_
        exact absurd (Option.some.inj hf) (by decide)
  · replace hf := z_in hc951 hf
    obtain ⟨w1, hf, ho16⟩ := z_x hf
    obtain rfl := hr1 _ ho16
    refine lv_iconst (v := (0 : Int32)) hx hb dL_law_954 (by decide) ?_
    exact absurd (Option.some.inj hf) (by decide)
set_option maxRecDepth 100000 in
def f_L_law_1036 (xs : Nat → Int32) (L : Nat) (σ : zSt) (l1 : Nat) (l2 : Nat) (l3 : Nat) (l4 : Int32) : Option ((zSt × Int32) ⊕ (Int32)) :=
(f_L_law_1539 xs L σ l1 l2 l3 l4)
set_option maxRecDepth 20000 in
set_option maxHeartbeats 4000000 in
theorem t_L_law_1036 (B : z_B p s m #[Value.ref b] meth c D cA bs RL cL_law 9 ret) {cl sl : Nat} (hst : l.stackTraces = false) (hX : z_X bs s) (HL : z_L s bs b L xs) (hcl : cl + 1 ≤ 601024 ∧ sl + 6 ≤ 7293034)  {o1 : (zSt × Int32) ⊕ (Int32)} {σ : zSt} {l1 : Nat} {l2 : Nat} {l3 : Nat} {l4 : Int32} (hf : f_L_law_1036 xs L σ l1 l2 l3 l4 = some o1) {H : Heap} {locs : List Loc} {ls : Array Slot} (hW : z_Ok D cA bs s σ H locs) (hl : lv_has ls 9 [(0, .ref b), (1, .ref l1), (2, .ref l2), (3, .ref l3), (4, .int l4)]) (hk1 : ∀ (σ : zSt), o1 = .inl (σ, l4 + (4 : Int32)) → ∀ {H : Heap} {locs : List Loc} {ls : Array Slot}, z_Ok D cA bs s σ H locs → lv_has ls 9 [(0, .ref b), (1, .ref l1), (2, .ref l2), (3, .ref l3), (4, .int (l4 + (4 : Int32)))] → W p l e room_1 s m #[Value.ref b] below meth c H locs (cl + 1) (sl + 6) (lw_Z below #[Value.ref b] s) (F0 m 23 ls [])) (hr1 : ∀ x, o1 = .inr x → x = (1 : Int32)) : W p l e room_1 s m #[Value.ref b] below meth c H locs (cl + 1) (sl + 6) (lw_Z below #[Value.ref b] s) (F0 m 1036 ls []) := by
  have hx := B.1
  have hb := B.2.1
  have hown := B.2.2.2.1
  have hts := B.2.2.2.2.1
  unfold f_L_law_1036 at hf
  refine lv_goto (tgt := 1539) hx hb dL_law_1036 (by decide) ?_
  exact t_L_law_1539 B hst hX HL hcl hf hW hl hk1 hr1
set_option maxRecDepth 100000 in
def f_L_law_1030 (xs : Nat → Int32) (L : Nat) (σ : zSt) (l1 : Nat) (l2 : Nat) (l3 : Nat) (l4 : Int32) (s0 : Int64) (s1 : Int64) : Option ((zSt × Int32) ⊕ (Int32)) :=
(if (lg_cmp s1 s0) = 0 then
(f_L_law_1036 xs L σ l1 l2 l3 l4)
else
(zex (some (0 : Int32))))
set_option maxRecDepth 20000 in
set_option maxHeartbeats 4000000 in
theorem t_L_law_1030 (B : z_B p s m #[Value.ref b] meth c D cA bs RL cL_law 9 ret) {cl sl : Nat} (hst : l.stackTraces = false) (hX : z_X bs s) (HL : z_L s bs b L xs) (hcl : cl + 1 ≤ 601024 ∧ sl + 6 ≤ 7293034)  {o1 : (zSt × Int32) ⊕ (Int32)} {σ : zSt} {l1 : Nat} {l2 : Nat} {l3 : Nat} {l4 : Int32} {s0 : Int64} {s1 : Int64} (hf : f_L_law_1030 xs L σ l1 l2 l3 l4 s0 s1 = some o1) {H : Heap} {locs : List Loc} {ls : Array Slot} (hW : z_Ok D cA bs s σ H locs) (hl : lv_has ls 9 [(0, .ref b), (1, .ref l1), (2, .ref l2), (3, .ref l3), (4, .int l4)]) (hk1 : ∀ (σ : zSt), o1 = .inl (σ, l4 + (4 : Int32)) → ∀ {H : Heap} {locs : List Loc} {ls : Array Slot}, z_Ok D cA bs s σ H locs → lv_has ls 9 [(0, .ref b), (1, .ref l1), (2, .ref l2), (3, .ref l3), (4, .int (l4 + (4 : Int32)))] → W p l e room_1 s m #[Value.ref b] below meth c H locs (cl + 1) (sl + 6) (lw_Z below #[Value.ref b] s) (F0 m 23 ls [])) (hr1 : ∀ x, o1 = .inr x → x = (1 : Int32)) : W p l e room_1 s m #[Value.ref b] below meth c H locs (cl + 1) (sl + 6) (lw_Z below #[Value.ref b] s) (F0 m 1030 ls [.long s0, .long s1]) := by
  have hx := B.1
  have hb := B.2.1
  have hown := B.2.2.2.1
  have hts := B.2.2.2.2.1
  unfold f_L_law_1030 at hf
  refine W.lcmp hx hb dL_law_1030 ?_
  refine lv_if_eq (tgt := 1036) hx hb dL_law_1031 (by decide) (fun hc1031 => ?_) (fun hc1031 => ?_)
  · replace hf := z_ip hc1031 hf
    exact t_L_law_1036 B hst hX HL hcl hf hW hl hk1 hr1
  · replace hf := z_in hc1031 hf
    obtain ⟨w1, hf, ho1⟩ := z_x hf
    obtain rfl := hr1 _ ho1
    refine lv_iconst (v := (0 : Int32)) hx hb dL_law_1034 (by decide) ?_
    exact absurd (Option.some.inj hf) (by decide)
set_option maxRecDepth 100000 in
def f_L_law_976 (xs : Nat → Int32) (L : Nat) (σ : zSt) (l1 : Nat) (l2 : Nat) (l3 : Nat) (l4 : Int32) : Option ((zSt × Int32) ⊕ (Int32)) :=
(if z_ix (l4 + (1 : Int32)) L then (zb2 (f_L_isNoisy σ l1 (xs (l4 + (1 : Int32)).toNatClampNeg) l3) (fun r3 σ4 => (if z_ix (l4 + (1 : Int32)) L then (if z_ob σ4 l2 9 then (zb2 (f_X10_isNoisy σ4 l2 (xs (l4 + (1 : Int32)).toNatClampNeg)) (fun r8 σ9 => (if z_ob σ9 l2 9 then (zb (f_X10_thrown σ9 l2) (fun r12 => (if r12 = r3 then
(if r3 = 0 then
(if z_ar σ9 l3 2 then (if z_ix (0 : Int32) (z_ln σ9 l3) then (if r8 = 0 then
(f_L_law_1030 xs L σ9 l1 l2 l3 l4 (0 : Int64) (z_J σ9 l3 (0 : Int32).toNatClampNeg))
else
(f_L_law_1030 xs L σ9 l1 l2 l3 l4 (1 : Int64) (z_J σ9 l3 (0 : Int32).toNatClampNeg))) else none) else none)
else
(f_L_law_1036 xs L σ9 l1 l2 l3 l4))
else
(zex (some (0 : Int32)))))) else none))) else none) else none))) else none)
set_option maxRecDepth 20000 in
set_option maxHeartbeats 4000000 in
theorem t_L_law_976 (B : z_B p s m #[Value.ref b] meth c D cA bs RL cL_law 9 ret) {cl sl : Nat} (hst : l.stackTraces = false) (hX : z_X bs s) (HL : z_L s bs b L xs) (hcl : cl + 1 ≤ 601024 ∧ sl + 6 ≤ 7293034)  {o1 : (zSt × Int32) ⊕ (Int32)} {σ : zSt} {l1 : Nat} {l2 : Nat} {l3 : Nat} {l4 : Int32} (hf : f_L_law_976 xs L σ l1 l2 l3 l4 = some o1) {H : Heap} {locs : List Loc} {ls : Array Slot} (hW : z_Ok D cA bs s σ H locs) (hl : lv_has ls 9 [(0, .ref b), (1, .ref l1), (2, .ref l2), (3, .ref l3), (4, .int l4)]) (hk1 : ∀ (σ : zSt), o1 = .inl (σ, l4 + (4 : Int32)) → ∀ {H : Heap} {locs : List Loc} {ls : Array Slot}, z_Ok D cA bs s σ H locs → lv_has ls 9 [(0, .ref b), (1, .ref l1), (2, .ref l2), (3, .ref l3), (4, .int (l4 + (4 : Int32)))] → W p l e room_1 s m #[Value.ref b] below meth c H locs (cl + 1) (sl + 6) (lw_Z below #[Value.ref b] s) (F0 m 23 ls [])) (hr1 : ∀ x, o1 = .inr x → x = (1 : Int32)) : W p l e room_1 s m #[Value.ref b] below meth c H locs (cl + 0) (sl + 0) (lw_Z below #[Value.ref b] s) (F0 m 976 ls []) := by
  have hx := B.1
  have hb := B.2.1
  have hown := B.2.2.2.1
  have hts := B.2.2.2.2.1
  unfold f_L_law_976 at hf
  refine lv_aload_n hx hb dL_law_976 rfl (lv_at hl 1 rfl) ?_
  refine lv_aload_n hx hb dL_law_977 rfl (lv_at hl 0 rfl) ?_
  refine lv_iload hx hb dL_law_978 (lv_at hl 4 rfl) ?_
  refine lv_iconst (v := (1 : Int32)) hx hb dL_law_980 (by decide) ?_
  refine lv_iadd hx hb dL_law_981 ?_
  obtain ⟨hg1, hf⟩ := z_g hf
  refine z_sld B hW HL hg1 dL_law_982 ?_
  refine lv_aload_n hx hb dL_law_983 rfl (lv_at hl 3 rfl) ?_
  obtain ⟨r3, σ4, hq2, hf⟩ := z_b2 hf
  refine z_ci hW (z_runSW (As := [.ref l1, .int (xs (l4 + (1 : Int32)).toNatClampNeg), .ref l3]) (rest := []) B hX hW zl_L_133 (K_L_isNoisy hst hq2) rfl rfl (Nat.le_of_ble_eq_true rfl) hl.1 ⟨Nat.le_of_ble_eq_true rfl, Nat.le_of_ble_eq_true rfl⟩ dL_law_984 ⟨by show (cl + 0) + 1 ≤ 601024; omega, by show (sl + 0) + 6 ≤ 7293034; omega⟩) (fun H locs hW => ?_)
  refine lv_istore (lv' := [(5, .int r3), (0, .ref b), (1, .ref l1), (2, .ref l2), (3, .ref l3), (4, .int l4)]) hx hb dL_law_987 hl (by decide) rfl (fun ls hl => ?_)
  refine lv_aload_n hx hb dL_law_989 rfl (lv_at hl 3 rfl) ?_
  refine lv_aload_n hx hb dL_law_990 rfl (lv_at hl 1 rfl) ?_
  refine lv_iload hx hb dL_law_991 (lv_at hl 5 rfl) ?_
  refine lv_iconst (v := (1 : Int32)) hx hb dL_law_993 (by decide) ?_
  refine lv_iadd hx hb dL_law_994 ?_
  obtain ⟨hg5, hf⟩ := z_g hf
  refine z_sld B hW HL hg5 dL_law_995 ?_
  obtain ⟨hg6, hf⟩ := z_g hf
  obtain ⟨r8, σ9, hq7, hf⟩ := z_b2 hf
  refine z_ci hW (z_runV (As := [.int (xs (l4 + (1 : Int32)).toNatClampNeg)]) (rest := []) B hW zv_L_135 (K_X10_isNoisy hq7) hg6 rfl rfl rfl (Nat.le_of_ble_eq_true rfl) hl.1 ⟨Nat.le_of_ble_eq_true rfl, Nat.le_of_ble_eq_true rfl⟩ dL_law_996 ⟨by show (cl + 1) + 0 ≤ 601024; omega, by show (sl + 6) + 0 ≤ 7293034; omega⟩) (fun H locs hW => ?_)
  refine lv_istore (lv' := [(6, .int r8), (5, .int r3), (0, .ref b), (1, .ref l1), (2, .ref l2), (3, .ref l3), (4, .int l4)]) hx hb dL_law_999 hl (by decide) rfl (fun ls hl => ?_)
  refine lv_aload_n hx hb dL_law_1001 rfl (lv_at hl 4 rfl) ?_
  obtain ⟨hg10, hf⟩ := z_g hf
  obtain ⟨r12, hq11, hf⟩ := z_b hf
  refine z_ci hW (z_runV (As := []) (rest := []) B hW zv_L_90 (K_X10_thrown hq11) hg10 rfl rfl rfl (Nat.le_of_ble_eq_true rfl) hl.1 ⟨Nat.le_of_ble_eq_true rfl, Nat.le_of_ble_eq_true rfl⟩ dL_law_1002 ⟨by show (cl + 1) + 0 ≤ 601024; omega, by show (sl + 6) + 0 ≤ 7293034; omega⟩) (fun H locs hW => ?_)
  refine lv_iload hx hb dL_law_1005 (lv_at hl 1 rfl) ?_
  refine lv_icmp_eq (tgt := 1012) hx hb dL_law_1007 (by decide) (fun hc1007 => ?_) (fun hc1007 => ?_)
  · replace hf := z_ip hc1007 hf
    refine lv_iload hx hb dL_law_1012 (lv_at hl 1 rfl) ?_
    refine lv_if_ne (tgt := 1036) hx hb dL_law_1014 (by decide) (fun hc1014 => ?_) (fun hc1014 => ?_)
    · replace hf := z_in hc1014 hf
      exact t_L_law_1036 B hst hX HL hcl hf hW (lv_sub hl [2, 3, 4, 5, 6] rfl) hk1 hr1
    · replace hf := z_ip hc1014 hf
      refine lv_aload_n hx hb dL_law_1017 rfl (lv_at hl 5 rfl) ?_
      refine lv_iconst (v := (0 : Int32)) hx hb dL_law_1018 (by decide) ?_
      obtain ⟨hg13, hf⟩ := z_g hf
      obtain ⟨hg14, hf⟩ := z_g hf
      refine z_lald B hW hg13 hg14 dL_law_1019 ?_
      refine lv_iload hx hb dL_law_1020 (lv_at hl 0 rfl) ?_
      refine lv_if_eq (tgt := 1029) hx hb dL_law_1022 (by decide) (fun hc1022 => ?_) (fun hc1022 => ?_)
      · replace hf := z_ip hc1022 hf
        refine lv_lconst (v := (0 : Int64)) hx hb dL_law_1029 (by decide) ?_
        exact t_L_law_1030 B hst hX HL hcl hf hW (lv_sub hl [2, 3, 4, 5, 6] rfl) hk1 hr1
      · replace hf := z_in hc1022 hf
        refine lv_lconst (v := (1 : Int64)) hx hb dL_law_1025 (by decide) ?_
        refine lv_goto (tgt := 1030) hx hb dL_law_1026 (by decide) ?_
        exact t_L_law_1030 B hst hX HL hcl hf hW (lv_sub hl [2, 3, 4, 5, 6] rfl) hk1 hr1
  · replace hf := z_in hc1007 hf
    obtain ⟨w1, hf, ho15⟩ := z_x hf
    obtain rfl := hr1 _ ho15
    refine lv_iconst (v := (0 : Int32)) hx hb dL_law_1010 (by decide) ?_
    exact absurd (Option.some.inj hf) (by decide)
set_option maxRecDepth 100000 in
def f_L_law_1039 (xs : Nat → Int32) (L : Nat) (σ : zSt) (l1 : Nat) (l2 : Nat) (l3 : Nat) (l4 : Int32) : Option ((zSt × Int32) ⊕ (Int32)) :=
(if z_ob σ l1 8 then (zb (f_X9_logged σ l1) (fun r3 => (if z_ob σ l2 9 then (zb2 (f_X10_logged σ l2) (fun r6 σ7 => (if r3 = r6 then
(f_L_law_1539 xs L σ7 l1 l2 l3 l4)
else
(zex (some (0 : Int32)))))) else none))) else none)
set_option maxRecDepth 20000 in
set_option maxHeartbeats 4000000 in
theorem t_L_law_1039 (B : z_B p s m #[Value.ref b] meth c D cA bs RL cL_law 9 ret) {cl sl : Nat} (hst : l.stackTraces = false) (hX : z_X bs s) (HL : z_L s bs b L xs) (hcl : cl + 1 ≤ 601024 ∧ sl + 6 ≤ 7293034)  {o1 : (zSt × Int32) ⊕ (Int32)} {σ : zSt} {l1 : Nat} {l2 : Nat} {l3 : Nat} {l4 : Int32} (hf : f_L_law_1039 xs L σ l1 l2 l3 l4 = some o1) {H : Heap} {locs : List Loc} {ls : Array Slot} (hW : z_Ok D cA bs s σ H locs) (hl : lv_has ls 9 [(0, .ref b), (1, .ref l1), (2, .ref l2), (3, .ref l3), (4, .int l4)]) (hk1 : ∀ (σ : zSt), o1 = .inl (σ, l4 + (4 : Int32)) → ∀ {H : Heap} {locs : List Loc} {ls : Array Slot}, z_Ok D cA bs s σ H locs → lv_has ls 9 [(0, .ref b), (1, .ref l1), (2, .ref l2), (3, .ref l3), (4, .int (l4 + (4 : Int32)))] → W p l e room_1 s m #[Value.ref b] below meth c H locs (cl + 1) (sl + 6) (lw_Z below #[Value.ref b] s) (F0 m 23 ls [])) (hr1 : ∀ x, o1 = .inr x → x = (1 : Int32)) : W p l e room_1 s m #[Value.ref b] below meth c H locs (cl + 0) (sl + 0) (lw_Z below #[Value.ref b] s) (F0 m 1039 ls []) := by
  have hx := B.1
  have hb := B.2.1
  have hown := B.2.2.2.1
  have hts := B.2.2.2.2.1
  unfold f_L_law_1039 at hf
  refine lv_aload_n hx hb dL_law_1039 rfl (lv_at hl 1 rfl) ?_
  obtain ⟨hg1, hf⟩ := z_g hf
  obtain ⟨r3, hq2, hf⟩ := z_b hf
  refine z_ci hW (z_runV (As := []) (rest := []) B hW zv_L_136 (K_X9_logged hq2) hg1 rfl rfl rfl (Nat.le_of_ble_eq_true rfl) hl.1 ⟨Nat.le_of_ble_eq_true rfl, Nat.le_of_ble_eq_true rfl⟩ dL_law_1040 ⟨by show (cl + 0) + 0 ≤ 601024; omega, by show (sl + 0) + 0 ≤ 7293034; omega⟩) (fun H locs hW => ?_)
  refine lv_aload_n hx hb dL_law_1043 rfl (lv_at hl 2 rfl) ?_
  obtain ⟨hg4, hf⟩ := z_g hf
  obtain ⟨r6, σ7, hq5, hf⟩ := z_b2 hf
  refine z_ci hW (z_runV (As := []) (rest := [.int r3]) B hW zv_L_139 (K_X10_logged hq5) hg4 rfl rfl rfl (Nat.le_of_ble_eq_true rfl) hl.1 ⟨Nat.le_of_ble_eq_true rfl, Nat.le_of_ble_eq_true rfl⟩ dL_law_1044 ⟨by show (cl + 0) + 0 ≤ 601024; omega, by show (sl + 0) + 0 ≤ 7293034; omega⟩) (fun H locs hW => ?_)
  refine lv_icmp_eq (tgt := 1539) hx hb dL_law_1047 (by decide) (fun hc1047 => ?_) (fun hc1047 => ?_)
  · replace hf := z_ip hc1047 hf
    refine W.widen (k := cl + 1) (n := sl + 6) (by omega) (by omega) ?_
    exact t_L_law_1539 B hst hX HL hcl hf hW hl hk1 hr1
  · replace hf := z_in hc1047 hf
    obtain ⟨w1, hf, ho8⟩ := z_x hf
    obtain rfl := hr1 _ ho8
    refine lv_iconst (v := (0 : Int32)) hx hb dL_law_1050 (by decide) ?_
    exact absurd (Option.some.inj hf) (by decide)
set_option maxRecDepth 100000 in
def f_L_law_1117 (xs : Nat → Int32) (L : Nat) (σ : zSt) (l1 : Nat) (l2 : Nat) (l3 : Nat) (l4 : Int32) : Option ((zSt × Int32) ⊕ (Int32)) :=
(f_L_law_1539 xs L σ l1 l2 l3 l4)
set_option maxRecDepth 20000 in
set_option maxHeartbeats 4000000 in
theorem t_L_law_1117 (B : z_B p s m #[Value.ref b] meth c D cA bs RL cL_law 9 ret) {cl sl : Nat} (hst : l.stackTraces = false) (hX : z_X bs s) (HL : z_L s bs b L xs) (hcl : cl + 1 ≤ 601024 ∧ sl + 6 ≤ 7293034)  {o1 : (zSt × Int32) ⊕ (Int32)} {σ : zSt} {l1 : Nat} {l2 : Nat} {l3 : Nat} {l4 : Int32} (hf : f_L_law_1117 xs L σ l1 l2 l3 l4 = some o1) {H : Heap} {locs : List Loc} {ls : Array Slot} (hW : z_Ok D cA bs s σ H locs) (hl : lv_has ls 9 [(0, .ref b), (1, .ref l1), (2, .ref l2), (3, .ref l3), (4, .int l4)]) (hk1 : ∀ (σ : zSt), o1 = .inl (σ, l4 + (4 : Int32)) → ∀ {H : Heap} {locs : List Loc} {ls : Array Slot}, z_Ok D cA bs s σ H locs → lv_has ls 9 [(0, .ref b), (1, .ref l1), (2, .ref l2), (3, .ref l3), (4, .int (l4 + (4 : Int32)))] → W p l e room_1 s m #[Value.ref b] below meth c H locs (cl + 1) (sl + 6) (lw_Z below #[Value.ref b] s) (F0 m 23 ls [])) (hr1 : ∀ x, o1 = .inr x → x = (1 : Int32)) : W p l e room_1 s m #[Value.ref b] below meth c H locs (cl + 1) (sl + 6) (lw_Z below #[Value.ref b] s) (F0 m 1117 ls []) := by
  have hx := B.1
  have hb := B.2.1
  have hown := B.2.2.2.1
  have hts := B.2.2.2.2.1
  unfold f_L_law_1117 at hf
  refine lv_goto (tgt := 1539) hx hb dL_law_1117 (by decide) ?_
  exact t_L_law_1539 B hst hX HL hcl hf hW hl hk1 hr1
set_option maxRecDepth 100000 in
def f_L_law_1052 (xs : Nat → Int32) (L : Nat) (σ : zSt) (l1 : Nat) (l2 : Nat) (l3 : Nat) (l4 : Int32) : Option ((zSt × Int32) ⊕ (Int32)) :=
(if z_ix (l4 + (1 : Int32)) L then (if z_ix (l4 + (2 : Int32)) L then (zb2 (f_L_visit σ l1 (xs (l4 + (1 : Int32)).toNatClampNeg) (xs (l4 + (2 : Int32)).toNatClampNeg) l3) (fun r4 σ5 => (if z_ix (l4 + (1 : Int32)) L then (if z_ix (l4 + (2 : Int32)) L then (if z_ob σ5 l2 9 then (zb2 (f_X10_visit σ5 l2 (xs (l4 + (1 : Int32)).toNatClampNeg) (xs (l4 + (2 : Int32)).toNatClampNeg)) (fun r10 σ11 => (if z_ob σ11 l2 9 then (zb (f_X10_thrown σ11 l2) (fun r14 => (if r14 = r4 then
(if r4 = 0 then
(if z_ar σ11 l3 2 then (if z_ix (0 : Int32) (z_ln σ11 l3) then (if (lg_cmp (z_J σ11 l3 (0 : Int32).toNatClampNeg) r10.toInt64) = 0 then
(f_L_law_1117 xs L σ11 l1 l2 l3 l4)
else
(zex (some (0 : Int32)))) else none) else none)
else
(f_L_law_1117 xs L σ11 l1 l2 l3 l4))
else
(zex (some (0 : Int32)))))) else none))) else none) else none) else none))) else none) else none)
set_option maxRecDepth 20000 in
set_option maxHeartbeats 4000000 in
theorem t_L_law_1052 (B : z_B p s m #[Value.ref b] meth c D cA bs RL cL_law 9 ret) {cl sl : Nat} (hst : l.stackTraces = false) (hX : z_X bs s) (HL : z_L s bs b L xs) (hcl : cl + 1 ≤ 601024 ∧ sl + 6 ≤ 7293034)  {o1 : (zSt × Int32) ⊕ (Int32)} {σ : zSt} {l1 : Nat} {l2 : Nat} {l3 : Nat} {l4 : Int32} (hf : f_L_law_1052 xs L σ l1 l2 l3 l4 = some o1) {H : Heap} {locs : List Loc} {ls : Array Slot} (hW : z_Ok D cA bs s σ H locs) (hl : lv_has ls 9 [(0, .ref b), (1, .ref l1), (2, .ref l2), (3, .ref l3), (4, .int l4)]) (hk1 : ∀ (σ : zSt), o1 = .inl (σ, l4 + (4 : Int32)) → ∀ {H : Heap} {locs : List Loc} {ls : Array Slot}, z_Ok D cA bs s σ H locs → lv_has ls 9 [(0, .ref b), (1, .ref l1), (2, .ref l2), (3, .ref l3), (4, .int (l4 + (4 : Int32)))] → W p l e room_1 s m #[Value.ref b] below meth c H locs (cl + 1) (sl + 6) (lw_Z below #[Value.ref b] s) (F0 m 23 ls [])) (hr1 : ∀ x, o1 = .inr x → x = (1 : Int32)) : W p l e room_1 s m #[Value.ref b] below meth c H locs (cl + 0) (sl + 0) (lw_Z below #[Value.ref b] s) (F0 m 1052 ls []) := by
  have hx := B.1
  have hb := B.2.1
  have hown := B.2.2.2.1
  have hts := B.2.2.2.2.1
  unfold f_L_law_1052 at hf
  refine lv_aload_n hx hb dL_law_1052 rfl (lv_at hl 1 rfl) ?_
  refine lv_aload_n hx hb dL_law_1053 rfl (lv_at hl 0 rfl) ?_
  refine lv_iload hx hb dL_law_1054 (lv_at hl 4 rfl) ?_
  refine lv_iconst (v := (1 : Int32)) hx hb dL_law_1056 (by decide) ?_
  refine lv_iadd hx hb dL_law_1057 ?_
  obtain ⟨hg1, hf⟩ := z_g hf
  refine z_sld B hW HL hg1 dL_law_1058 ?_
  refine lv_aload_n hx hb dL_law_1059 rfl (lv_at hl 0 rfl) ?_
  refine lv_iload hx hb dL_law_1060 (lv_at hl 4 rfl) ?_
  refine lv_iconst (v := (2 : Int32)) hx hb dL_law_1062 (by decide) ?_
  refine lv_iadd hx hb dL_law_1063 ?_
  obtain ⟨hg2, hf⟩ := z_g hf
  refine z_sld B hW HL hg2 dL_law_1064 ?_
  refine lv_aload_n hx hb dL_law_1065 rfl (lv_at hl 3 rfl) ?_
  obtain ⟨r4, σ5, hq3, hf⟩ := z_b2 hf
  refine z_ci hW (z_runSW (As := [.ref l1, .int (xs (l4 + (1 : Int32)).toNatClampNeg), .int (xs (l4 + (2 : Int32)).toNatClampNeg), .ref l3]) (rest := []) B hX hW zl_L_140 (K_L_visit hst hq3) rfl rfl (Nat.le_of_ble_eq_true rfl) hl.1 ⟨Nat.le_of_ble_eq_true rfl, Nat.le_of_ble_eq_true rfl⟩ dL_law_1066 ⟨by show (cl + 0) + 1 ≤ 601024; omega, by show (sl + 0) + 6 ≤ 7293034; omega⟩) (fun H locs hW => ?_)
  refine lv_istore (lv' := [(5, .int r4), (0, .ref b), (1, .ref l1), (2, .ref l2), (3, .ref l3), (4, .int l4)]) hx hb dL_law_1069 hl (by decide) rfl (fun ls hl => ?_)
  refine lv_aload_n hx hb dL_law_1071 rfl (lv_at hl 3 rfl) ?_
  refine lv_aload_n hx hb dL_law_1072 rfl (lv_at hl 1 rfl) ?_
  refine lv_iload hx hb dL_law_1073 (lv_at hl 5 rfl) ?_
  refine lv_iconst (v := (1 : Int32)) hx hb dL_law_1075 (by decide) ?_
  refine lv_iadd hx hb dL_law_1076 ?_
  obtain ⟨hg6, hf⟩ := z_g hf
  refine z_sld B hW HL hg6 dL_law_1077 ?_
  refine lv_aload_n hx hb dL_law_1078 rfl (lv_at hl 1 rfl) ?_
  refine lv_iload hx hb dL_law_1079 (lv_at hl 5 rfl) ?_
  refine lv_iconst (v := (2 : Int32)) hx hb dL_law_1081 (by decide) ?_
  refine lv_iadd hx hb dL_law_1082 ?_
  obtain ⟨hg7, hf⟩ := z_g hf
  refine z_sld B hW HL hg7 dL_law_1083 ?_
  obtain ⟨hg8, hf⟩ := z_g hf
  obtain ⟨r10, σ11, hq9, hf⟩ := z_b2 hf
  refine z_ci hW (z_runV (As := [.int (xs (l4 + (1 : Int32)).toNatClampNeg), .int (xs (l4 + (2 : Int32)).toNatClampNeg)]) (rest := []) B hW zv_L_142 (K_X10_visit hq9) hg8 rfl rfl rfl (Nat.le_of_ble_eq_true rfl) hl.1 ⟨Nat.le_of_ble_eq_true rfl, Nat.le_of_ble_eq_true rfl⟩ dL_law_1084 ⟨by show (cl + 1) + 0 ≤ 601024; omega, by show (sl + 6) + 0 ≤ 7293034; omega⟩) (fun H locs hW => ?_)
  refine lv_istore (lv' := [(6, .int r10), (5, .int r4), (0, .ref b), (1, .ref l1), (2, .ref l2), (3, .ref l3), (4, .int l4)]) hx hb dL_law_1087 hl (by decide) rfl (fun ls hl => ?_)
  refine lv_aload_n hx hb dL_law_1089 rfl (lv_at hl 4 rfl) ?_
  obtain ⟨hg12, hf⟩ := z_g hf
  obtain ⟨r14, hq13, hf⟩ := z_b hf
  refine z_ci hW (z_runV (As := []) (rest := []) B hW zv_L_90 (K_X10_thrown hq13) hg12 rfl rfl rfl (Nat.le_of_ble_eq_true rfl) hl.1 ⟨Nat.le_of_ble_eq_true rfl, Nat.le_of_ble_eq_true rfl⟩ dL_law_1090 ⟨by show (cl + 1) + 0 ≤ 601024; omega, by show (sl + 6) + 0 ≤ 7293034; omega⟩) (fun H locs hW => ?_)
  refine lv_iload hx hb dL_law_1093 (lv_at hl 1 rfl) ?_
  refine lv_icmp_eq (tgt := 1100) hx hb dL_law_1095 (by decide) (fun hc1095 => ?_) (fun hc1095 => ?_)
  · replace hf := z_ip hc1095 hf
    refine lv_iload hx hb dL_law_1100 (lv_at hl 1 rfl) ?_
    refine lv_if_ne (tgt := 1117) hx hb dL_law_1102 (by decide) (fun hc1102 => ?_) (fun hc1102 => ?_)
    · replace hf := z_in hc1102 hf
      exact t_L_law_1117 B hst hX HL hcl hf hW (lv_sub hl [2, 3, 4, 5, 6] rfl) hk1 hr1
    · replace hf := z_ip hc1102 hf
      refine lv_aload_n hx hb dL_law_1105 rfl (lv_at hl 5 rfl) ?_
      refine lv_iconst (v := (0 : Int32)) hx hb dL_law_1106 (by decide) ?_
      obtain ⟨hg15, hf⟩ := z_g hf
      obtain ⟨hg16, hf⟩ := z_g hf
      refine z_lald B hW hg15 hg16 dL_law_1107 ?_
      refine lv_iload hx hb dL_law_1108 (lv_at hl 0 rfl) ?_
      refine lv_i2l (v := r10.toInt64) hx hb dL_law_1110 rfl ?_
      refine W.lcmp hx hb dL_law_1111 ?_
      refine lv_if_eq (tgt := 1117) hx hb dL_law_1112 (by decide) (fun hc1112 => ?_) (fun hc1112 => ?_)
      · replace hf := z_ip hc1112 hf
        exact t_L_law_1117 B hst hX HL hcl hf hW (lv_sub hl [2, 3, 4, 5, 6] rfl) hk1 hr1
      · replace hf := z_in hc1112 hf
        obtain ⟨w1, hf, ho17⟩ := z_x hf
        obtain rfl := hr1 _ ho17
        refine lv_iconst (v := (0 : Int32)) hx hb dL_law_1115 (by decide) ?_
        exact absurd (Option.some.inj hf) (by decide)
  · replace hf := z_in hc1095 hf
    obtain ⟨w1, hf, ho18⟩ := z_x hf
    obtain rfl := hr1 _ ho18
    refine lv_iconst (v := (0 : Int32)) hx hb dL_law_1098 (by decide) ?_
    exact absurd (Option.some.inj hf) (by decide)
set_option maxRecDepth 100000 in
def f_L_law_1120 (xs : Nat → Int32) (L : Nat) (σ : zSt) (l1 : Nat) (l2 : Nat) (l3 : Nat) (l4 : Int32) : Option ((zSt × Int32) ⊕ (Int32)) :=
(if z_ob σ l1 8 then (zb (f_X9_greatestRotation σ l1) (fun r3 => (if z_ob σ l2 9 then (zb2 (f_X10_greatestRotation σ l2) (fun r6 σ7 => (if r3 = r6 then
(f_L_law_1539 xs L σ7 l1 l2 l3 l4)
else
(zex (some (0 : Int32)))))) else none))) else none)
set_option maxRecDepth 20000 in
set_option maxHeartbeats 4000000 in
theorem t_L_law_1120 (B : z_B p s m #[Value.ref b] meth c D cA bs RL cL_law 9 ret) {cl sl : Nat} (hst : l.stackTraces = false) (hX : z_X bs s) (HL : z_L s bs b L xs) (hcl : cl + 1 ≤ 601024 ∧ sl + 6 ≤ 7293034)  {o1 : (zSt × Int32) ⊕ (Int32)} {σ : zSt} {l1 : Nat} {l2 : Nat} {l3 : Nat} {l4 : Int32} (hf : f_L_law_1120 xs L σ l1 l2 l3 l4 = some o1) {H : Heap} {locs : List Loc} {ls : Array Slot} (hW : z_Ok D cA bs s σ H locs) (hl : lv_has ls 9 [(0, .ref b), (1, .ref l1), (2, .ref l2), (3, .ref l3), (4, .int l4)]) (hk1 : ∀ (σ : zSt), o1 = .inl (σ, l4 + (4 : Int32)) → ∀ {H : Heap} {locs : List Loc} {ls : Array Slot}, z_Ok D cA bs s σ H locs → lv_has ls 9 [(0, .ref b), (1, .ref l1), (2, .ref l2), (3, .ref l3), (4, .int (l4 + (4 : Int32)))] → W p l e room_1 s m #[Value.ref b] below meth c H locs (cl + 1) (sl + 6) (lw_Z below #[Value.ref b] s) (F0 m 23 ls [])) (hr1 : ∀ x, o1 = .inr x → x = (1 : Int32)) : W p l e room_1 s m #[Value.ref b] below meth c H locs (cl + 0) (sl + 0) (lw_Z below #[Value.ref b] s) (F0 m 1120 ls []) := by
  have hx := B.1
  have hb := B.2.1
  have hown := B.2.2.2.1
  have hts := B.2.2.2.2.1
  unfold f_L_law_1120 at hf
  refine lv_aload_n hx hb dL_law_1120 rfl (lv_at hl 1 rfl) ?_
  obtain ⟨hg1, hf⟩ := z_g hf
  obtain ⟨r3, hq2, hf⟩ := z_b hf
  refine z_ci hW (z_runV (As := []) (rest := []) B hW zv_L_143 (K_X9_greatestRotation hq2) hg1 rfl rfl rfl (Nat.le_of_ble_eq_true rfl) hl.1 ⟨Nat.le_of_ble_eq_true rfl, Nat.le_of_ble_eq_true rfl⟩ dL_law_1121 ⟨by show (cl + 0) + 0 ≤ 601024; omega, by show (sl + 0) + 0 ≤ 7293034; omega⟩) (fun H locs hW => ?_)
  refine lv_aload_n hx hb dL_law_1124 rfl (lv_at hl 2 rfl) ?_
  obtain ⟨hg4, hf⟩ := z_g hf
  obtain ⟨r6, σ7, hq5, hf⟩ := z_b2 hf
  refine z_ci hW (z_runV (As := []) (rest := [.int r3]) B hW zv_L_146 (K_X10_greatestRotation hq5) hg4 rfl rfl rfl (Nat.le_of_ble_eq_true rfl) hl.1 ⟨Nat.le_of_ble_eq_true rfl, Nat.le_of_ble_eq_true rfl⟩ dL_law_1125 ⟨by show (cl + 0) + 0 ≤ 601024; omega, by show (sl + 0) + 0 ≤ 7293034; omega⟩) (fun H locs hW => ?_)
  refine lv_icmp_eq (tgt := 1539) hx hb dL_law_1128 (by decide) (fun hc1128 => ?_) (fun hc1128 => ?_)
  · replace hf := z_ip hc1128 hf
    refine W.widen (k := cl + 1) (n := sl + 6) (by omega) (by omega) ?_
    exact t_L_law_1539 B hst hX HL hcl hf hW hl hk1 hr1
  · replace hf := z_in hc1128 hf
    obtain ⟨w1, hf, ho8⟩ := z_x hf
    obtain rfl := hr1 _ ho8
    refine lv_iconst (v := (0 : Int32)) hx hb dL_law_1131 (by decide) ?_
    exact absurd (Option.some.inj hf) (by decide)
set_option maxRecDepth 100000 in
def f_L_law_1199 (xs : Nat → Int32) (L : Nat) (σ : zSt) (l1 : Nat) (l2 : Nat) (l3 : Nat) (l4 : Int32) : Option ((zSt × Int32) ⊕ (Int32)) :=
(f_L_law_1539 xs L σ l1 l2 l3 l4)
set_option maxRecDepth 20000 in
set_option maxHeartbeats 4000000 in
theorem t_L_law_1199 (B : z_B p s m #[Value.ref b] meth c D cA bs RL cL_law 9 ret) {cl sl : Nat} (hst : l.stackTraces = false) (hX : z_X bs s) (HL : z_L s bs b L xs) (hcl : cl + 1 ≤ 601024 ∧ sl + 6 ≤ 7293034)  {o1 : (zSt × Int32) ⊕ (Int32)} {σ : zSt} {l1 : Nat} {l2 : Nat} {l3 : Nat} {l4 : Int32} (hf : f_L_law_1199 xs L σ l1 l2 l3 l4 = some o1) {H : Heap} {locs : List Loc} {ls : Array Slot} (hW : z_Ok D cA bs s σ H locs) (hl : lv_has ls 9 [(0, .ref b), (1, .ref l1), (2, .ref l2), (3, .ref l3), (4, .int l4)]) (hk1 : ∀ (σ : zSt), o1 = .inl (σ, l4 + (4 : Int32)) → ∀ {H : Heap} {locs : List Loc} {ls : Array Slot}, z_Ok D cA bs s σ H locs → lv_has ls 9 [(0, .ref b), (1, .ref l1), (2, .ref l2), (3, .ref l3), (4, .int (l4 + (4 : Int32)))] → W p l e room_1 s m #[Value.ref b] below meth c H locs (cl + 1) (sl + 6) (lw_Z below #[Value.ref b] s) (F0 m 23 ls [])) (hr1 : ∀ x, o1 = .inr x → x = (1 : Int32)) : W p l e room_1 s m #[Value.ref b] below meth c H locs (cl + 1) (sl + 6) (lw_Z below #[Value.ref b] s) (F0 m 1199 ls []) := by
  have hx := B.1
  have hb := B.2.1
  have hown := B.2.2.2.1
  have hts := B.2.2.2.2.1
  unfold f_L_law_1199 at hf
  refine lv_goto (tgt := 1539) hx hb dL_law_1199 (by decide) ?_
  exact t_L_law_1539 B hst hX HL hcl hf hW hl hk1 hr1
set_option maxRecDepth 100000 in
def f_L_law_1197 (xs : Nat → Int32) (L : Nat) (σ : zSt) : Option (Int32) :=
(some (0 : Int32))
set_option maxRecDepth 20000 in
set_option maxHeartbeats 4000000 in
theorem t_L_law_1197 (B : z_B p s m #[Value.ref b] meth c D cA bs RL cL_law 9 ret) {cl sl : Nat} (hst : l.stackTraces = false) (hX : z_X bs s) (HL : z_L s bs b L xs) (hcl : cl + 1 ≤ 601024 ∧ sl + 6 ≤ 7293034)  {σ : zSt} (hf : f_L_law_1197 xs L σ = some (1 : Int32)) {H : Heap} {locs : List Loc} {ls : Array Slot} (hW : z_Ok D cA bs s σ H locs) (hl : lv_has ls 9 [])  : W p l e room_1 s m #[Value.ref b] below meth c H locs (cl + 1) (sl + 6) (lw_Z below #[Value.ref b] s) (F0 m 1197 ls []) := by
  have hx := B.1
  have hb := B.2.1
  have hown := B.2.2.2.1
  have hts := B.2.2.2.2.1
  unfold f_L_law_1197 at hf
  refine lv_iconst (v := (0 : Int32)) hx hb dL_law_1197 (by decide) ?_
  exact absurd (Option.some.inj hf) (by decide)
set_option maxRecDepth 100000 in
def f_L_law_1168 (xs : Nat → Int32) (L : Nat) (σ : zSt) (l1 : Nat) (l2 : Nat) (l3 : Nat) (l4 : Int32) (l5 : UInt64) (s0 : Int32) (s1 : Option Nat) : Option ((zSt × Int32) ⊕ (Int32)) :=
(zc s1 none (fun a1 => (if z_ob σ a1 9 then (zb2 (f_X10_waits σ a1 s0) (fun r5 σ6 => (if (Op.cmpValue (FP.dcmp l5 r5) .l) = 0 then
(f_L_law_1199 xs L σ6 l1 l2 l3 l4)
else
(if (Op.cmpValue (FP.dcmp l5 l5) .l) = 0 then
(zex (f_L_law_1197 xs L σ6))
else
(if (Op.cmpValue (FP.dcmp r5 r5) .l) = 0 then
(zex (f_L_law_1197 xs L σ6))
else
(f_L_law_1199 xs L σ6 l1 l2 l3 l4)))))) else none)))
set_option maxRecDepth 20000 in
set_option maxHeartbeats 4000000 in
theorem t_L_law_1168 (B : z_B p s m #[Value.ref b] meth c D cA bs RL cL_law 9 ret) {cl sl : Nat} (hst : l.stackTraces = false) (hX : z_X bs s) (HL : z_L s bs b L xs) (hcl : cl + 1 ≤ 601024 ∧ sl + 6 ≤ 7293034)  {o1 : (zSt × Int32) ⊕ (Int32)} {σ : zSt} {l1 : Nat} {l2 : Nat} {l3 : Nat} {l4 : Int32} {l5 : UInt64} {s0 : Int32} {s1 : Option Nat} (hf : f_L_law_1168 xs L σ l1 l2 l3 l4 l5 s0 s1 = some o1) {H : Heap} {locs : List Loc} {ls : Array Slot} (hW : z_Ok D cA bs s σ H locs) (hl : lv_has ls 9 [(0, .ref b), (1, .ref l1), (2, .ref l2), (3, .ref l3), (4, .int l4), (5, .double l5)]) (hk1 : ∀ (σ : zSt), o1 = .inl (σ, l4 + (4 : Int32)) → ∀ {H : Heap} {locs : List Loc} {ls : Array Slot}, z_Ok D cA bs s σ H locs → lv_has ls 9 [(0, .ref b), (1, .ref l1), (2, .ref l2), (3, .ref l3), (4, .int (l4 + (4 : Int32)))] → W p l e room_1 s m #[Value.ref b] below meth c H locs (cl + 1) (sl + 6) (lw_Z below #[Value.ref b] s) (F0 m 23 ls [])) (hr1 : ∀ x, o1 = .inr x → x = (1 : Int32)) : W p l e room_1 s m #[Value.ref b] below meth c H locs (cl + 0) (sl + 0) (lw_Z below #[Value.ref b] s) (F0 m 1168 ls [.int s0, va_rf s1]) := by
  have hx := B.1
  have hb := B.2.1
  have hown := B.2.2.2.1
  have hts := B.2.2.2.2.1
  unfold f_L_law_1168 at hf
  obtain ⟨a1, hn2, hf9⟩ := z_nn hf
  clear hf
  subst hn2
  have hf := hf9
  clear hf9
  obtain ⟨hg3, hf⟩ := z_g hf
  obtain ⟨r5, σ6, hq4, hf⟩ := z_b2 hf
  refine z_cd hW (z_runV (As := [.int s0]) (rest := []) B hW zv_L_151 (K_X10_waits hq4) hg3 rfl rfl rfl (Nat.le_of_ble_eq_true rfl) hl.1 ⟨Nat.le_of_ble_eq_true rfl, Nat.le_of_ble_eq_true rfl⟩ dL_law_1168 ⟨by show (cl + 0) + 0 ≤ 601024; omega, by show (sl + 0) + 0 ≤ 7293034; omega⟩) (fun H locs hW => ?_)
  refine lv_dstore (lv' := [(7, .double r5), (0, .ref b), (1, .ref l1), (2, .ref l2), (3, .ref l3), (4, .int l4), (5, .double l5)]) hx hb dL_law_1171 hl (by decide) rfl (fun ls hl => ?_)
  refine lv_dload hx hb dL_law_1173 (lv_at hl 6 rfl) ?_
  refine lv_dload hx hb dL_law_1175 (lv_at hl 0 rfl) ?_
  refine lv_dcmp hx hb dL_law_1177 ?_
  refine lv_if_eq (tgt := 1199) hx hb dL_law_1178 (by decide) (fun hc1178 => ?_) (fun hc1178 => ?_)
  · replace hf := z_ip hc1178 hf
    refine W.widen (k := cl + 1) (n := sl + 6) (by omega) (by omega) ?_
    exact t_L_law_1199 B hst hX HL hcl hf hW (lv_sub hl [1, 2, 3, 4, 5] rfl) hk1 hr1
  · replace hf := z_in hc1178 hf
    refine lv_dload hx hb dL_law_1181 (lv_at hl 6 rfl) ?_
    refine lv_dload hx hb dL_law_1183 (lv_at hl 6 rfl) ?_
    refine lv_dcmp hx hb dL_law_1185 ?_
    refine lv_if_eq (tgt := 1197) hx hb dL_law_1186 (by decide) (fun hc1186 => ?_) (fun hc1186 => ?_)
    · replace hf := z_ip hc1186 hf
      obtain ⟨w1, hf, ho7⟩ := z_x hf
      obtain rfl := hr1 _ ho7
      refine W.widen (k := cl + 1) (n := sl + 6) (by omega) (by omega) ?_
      exact t_L_law_1197 B hst hX HL hcl hf hW (lv_sub hl [] rfl) 
    · replace hf := z_in hc1186 hf
      refine lv_dload hx hb dL_law_1189 (lv_at hl 0 rfl) ?_
      refine lv_dload hx hb dL_law_1191 (lv_at hl 0 rfl) ?_
      refine lv_dcmp hx hb dL_law_1193 ?_
      refine lv_if_ne (tgt := 1199) hx hb dL_law_1194 (by decide) (fun hc1194 => ?_) (fun hc1194 => ?_)
      · replace hf := z_in hc1194 hf
        refine W.widen (k := cl + 1) (n := sl + 6) (by omega) (by omega) ?_
        exact t_L_law_1199 B hst hX HL hcl hf hW (lv_sub hl [1, 2, 3, 4, 5] rfl) hk1 hr1
      · replace hf := z_ip hc1194 hf
        obtain ⟨w1, hf, ho8⟩ := z_x hf
        obtain rfl := hr1 _ ho8
        refine W.widen (k := cl + 1) (n := sl + 6) (by omega) (by omega) ?_
        exact t_L_law_1197 B hst hX HL hcl hf hW (lv_sub hl [] rfl) 
set_option maxRecDepth 100000 in
def f_L_law_1148 (xs : Nat → Int32) (L : Nat) (σ : zSt) (l1 : Nat) (l2 : Nat) (l3 : Nat) (l4 : Int32) (s0 : Int32) (s1 : Option Nat) : Option ((zSt × Int32) ⊕ (Int32)) :=
(zc s1 none (fun a1 => (if z_ob σ a1 8 then (zb (f_X9_waits σ a1 s0) (fun r5 => (if z_ix (l4 + (1 : Int32)) L then (if (xs (l4 + (1 : Int32)).toNatClampNeg) = 0 then
(f_L_law_1168 xs L σ l1 l2 l3 l4 r5 (0 : Int32) (some l2))
else
(f_L_law_1168 xs L σ l1 l2 l3 l4 r5 (1 : Int32) (some l2))) else none))) else none)))
set_option maxRecDepth 20000 in
set_option maxHeartbeats 4000000 in
theorem t_L_law_1148 (B : z_B p s m #[Value.ref b] meth c D cA bs RL cL_law 9 ret) {cl sl : Nat} (hst : l.stackTraces = false) (hX : z_X bs s) (HL : z_L s bs b L xs) (hcl : cl + 1 ≤ 601024 ∧ sl + 6 ≤ 7293034)  {o1 : (zSt × Int32) ⊕ (Int32)} {σ : zSt} {l1 : Nat} {l2 : Nat} {l3 : Nat} {l4 : Int32} {s0 : Int32} {s1 : Option Nat} (hf : f_L_law_1148 xs L σ l1 l2 l3 l4 s0 s1 = some o1) {H : Heap} {locs : List Loc} {ls : Array Slot} (hW : z_Ok D cA bs s σ H locs) (hl : lv_has ls 9 [(0, .ref b), (1, .ref l1), (2, .ref l2), (3, .ref l3), (4, .int l4)]) (hk1 : ∀ (σ : zSt), o1 = .inl (σ, l4 + (4 : Int32)) → ∀ {H : Heap} {locs : List Loc} {ls : Array Slot}, z_Ok D cA bs s σ H locs → lv_has ls 9 [(0, .ref b), (1, .ref l1), (2, .ref l2), (3, .ref l3), (4, .int (l4 + (4 : Int32)))] → W p l e room_1 s m #[Value.ref b] below meth c H locs (cl + 1) (sl + 6) (lw_Z below #[Value.ref b] s) (F0 m 23 ls [])) (hr1 : ∀ x, o1 = .inr x → x = (1 : Int32)) : W p l e room_1 s m #[Value.ref b] below meth c H locs (cl + 0) (sl + 0) (lw_Z below #[Value.ref b] s) (F0 m 1148 ls [.int s0, va_rf s1]) := by
  have hx := B.1
  have hb := B.2.1
  have hown := B.2.2.2.1
  have hts := B.2.2.2.2.1
  unfold f_L_law_1148 at hf
  obtain ⟨a1, hn2, hf9⟩ := z_nn hf
  clear hf
  subst hn2
  have hf := hf9
  clear hf9
  obtain ⟨hg3, hf⟩ := z_g hf
  obtain ⟨r5, hq4, hf⟩ := z_b hf
  refine z_cd hW (z_runV (As := [.int s0]) (rest := []) B hW zv_L_147 (K_X9_waits hq4) hg3 rfl rfl rfl (Nat.le_of_ble_eq_true rfl) hl.1 ⟨Nat.le_of_ble_eq_true rfl, Nat.le_of_ble_eq_true rfl⟩ dL_law_1148 ⟨by show (cl + 0) + 0 ≤ 601024; omega, by show (sl + 0) + 0 ≤ 7293034; omega⟩) (fun H locs hW => ?_)
  refine lv_dstore (lv' := [(5, .double r5), (0, .ref b), (1, .ref l1), (2, .ref l2), (3, .ref l3), (4, .int l4)]) hx hb dL_law_1151 hl (by decide) rfl (fun ls hl => ?_)
  refine lv_aload_n hx hb dL_law_1153 rfl (lv_at hl 3 rfl) ?_
  refine lv_aload_n hx hb dL_law_1154 rfl (lv_at hl 1 rfl) ?_
  refine lv_iload hx hb dL_law_1155 (lv_at hl 5 rfl) ?_
  refine lv_iconst (v := (1 : Int32)) hx hb dL_law_1157 (by decide) ?_
  refine lv_iadd hx hb dL_law_1158 ?_
  obtain ⟨hg6, hf⟩ := z_g hf
  refine z_sld B hW HL hg6 dL_law_1159 ?_
  refine lv_if_eq (tgt := 1167) hx hb dL_law_1160 (by decide) (fun hc1160 => ?_) (fun hc1160 => ?_)
  · replace hf := z_ip hc1160 hf
    refine lv_iconst (v := (0 : Int32)) hx hb dL_law_1167 (by decide) ?_
    exact t_L_law_1168 B hst hX HL hcl hf hW (lv_sub hl [1, 2, 3, 4, 5, 0] rfl) hk1 hr1
  · replace hf := z_in hc1160 hf
    refine lv_iconst (v := (1 : Int32)) hx hb dL_law_1163 (by decide) ?_
    refine lv_goto (tgt := 1168) hx hb dL_law_1164 (by decide) ?_
    exact t_L_law_1168 B hst hX HL hcl hf hW (lv_sub hl [1, 2, 3, 4, 5, 0] rfl) hk1 hr1
set_option maxRecDepth 100000 in
def f_L_law_1133 (xs : Nat → Int32) (L : Nat) (σ : zSt) (l1 : Nat) (l2 : Nat) (l3 : Nat) (l4 : Int32) : Option ((zSt × Int32) ⊕ (Int32)) :=
(if z_ix (l4 + (1 : Int32)) L then (if (xs (l4 + (1 : Int32)).toNatClampNeg) = 0 then
(f_L_law_1148 xs L σ l1 l2 l3 l4 (0 : Int32) (some l1))
else
(f_L_law_1148 xs L σ l1 l2 l3 l4 (1 : Int32) (some l1))) else none)
set_option maxRecDepth 20000 in
set_option maxHeartbeats 4000000 in
theorem t_L_law_1133 (B : z_B p s m #[Value.ref b] meth c D cA bs RL cL_law 9 ret) {cl sl : Nat} (hst : l.stackTraces = false) (hX : z_X bs s) (HL : z_L s bs b L xs) (hcl : cl + 1 ≤ 601024 ∧ sl + 6 ≤ 7293034)  {o1 : (zSt × Int32) ⊕ (Int32)} {σ : zSt} {l1 : Nat} {l2 : Nat} {l3 : Nat} {l4 : Int32} (hf : f_L_law_1133 xs L σ l1 l2 l3 l4 = some o1) {H : Heap} {locs : List Loc} {ls : Array Slot} (hW : z_Ok D cA bs s σ H locs) (hl : lv_has ls 9 [(0, .ref b), (1, .ref l1), (2, .ref l2), (3, .ref l3), (4, .int l4)]) (hk1 : ∀ (σ : zSt), o1 = .inl (σ, l4 + (4 : Int32)) → ∀ {H : Heap} {locs : List Loc} {ls : Array Slot}, z_Ok D cA bs s σ H locs → lv_has ls 9 [(0, .ref b), (1, .ref l1), (2, .ref l2), (3, .ref l3), (4, .int (l4 + (4 : Int32)))] → W p l e room_1 s m #[Value.ref b] below meth c H locs (cl + 1) (sl + 6) (lw_Z below #[Value.ref b] s) (F0 m 23 ls [])) (hr1 : ∀ x, o1 = .inr x → x = (1 : Int32)) : W p l e room_1 s m #[Value.ref b] below meth c H locs (cl + 0) (sl + 0) (lw_Z below #[Value.ref b] s) (F0 m 1133 ls []) := by
  have hx := B.1
  have hb := B.2.1
  have hown := B.2.2.2.1
  have hts := B.2.2.2.2.1
  unfold f_L_law_1133 at hf
  refine lv_aload_n hx hb dL_law_1133 rfl (lv_at hl 1 rfl) ?_
  refine lv_aload_n hx hb dL_law_1134 rfl (lv_at hl 0 rfl) ?_
  refine lv_iload hx hb dL_law_1135 (lv_at hl 4 rfl) ?_
  refine lv_iconst (v := (1 : Int32)) hx hb dL_law_1137 (by decide) ?_
  refine lv_iadd hx hb dL_law_1138 ?_
  obtain ⟨hg1, hf⟩ := z_g hf
  refine z_sld B hW HL hg1 dL_law_1139 ?_
  refine lv_if_eq (tgt := 1147) hx hb dL_law_1140 (by decide) (fun hc1140 => ?_) (fun hc1140 => ?_)
  · replace hf := z_ip hc1140 hf
    refine lv_iconst (v := (0 : Int32)) hx hb dL_law_1147 (by decide) ?_
    exact t_L_law_1148 B hst hX HL hcl hf hW hl hk1 hr1
  · replace hf := z_in hc1140 hf
    refine lv_iconst (v := (1 : Int32)) hx hb dL_law_1143 (by decide) ?_
    refine lv_goto (tgt := 1148) hx hb dL_law_1144 (by decide) ?_
    exact t_L_law_1148 B hst hX HL hcl hf hW hl hk1 hr1
set_option maxRecDepth 100000 in
def f_L_law_1240 (xs : Nat → Int32) (L : Nat) (σ : zSt) (l1 : Nat) (l2 : Nat) (l3 : Nat) (l4 : Int32) : Option ((zSt × Int32) ⊕ (Int32)) :=
(f_L_law_1539 xs L σ l1 l2 l3 l4)
set_option maxRecDepth 20000 in
set_option maxHeartbeats 4000000 in
theorem t_L_law_1240 (B : z_B p s m #[Value.ref b] meth c D cA bs RL cL_law 9 ret) {cl sl : Nat} (hst : l.stackTraces = false) (hX : z_X bs s) (HL : z_L s bs b L xs) (hcl : cl + 1 ≤ 601024 ∧ sl + 6 ≤ 7293034)  {o1 : (zSt × Int32) ⊕ (Int32)} {σ : zSt} {l1 : Nat} {l2 : Nat} {l3 : Nat} {l4 : Int32} (hf : f_L_law_1240 xs L σ l1 l2 l3 l4 = some o1) {H : Heap} {locs : List Loc} {ls : Array Slot} (hW : z_Ok D cA bs s σ H locs) (hl : lv_has ls 9 [(0, .ref b), (1, .ref l1), (2, .ref l2), (3, .ref l3), (4, .int l4)]) (hk1 : ∀ (σ : zSt), o1 = .inl (σ, l4 + (4 : Int32)) → ∀ {H : Heap} {locs : List Loc} {ls : Array Slot}, z_Ok D cA bs s σ H locs → lv_has ls 9 [(0, .ref b), (1, .ref l1), (2, .ref l2), (3, .ref l3), (4, .int (l4 + (4 : Int32)))] → W p l e room_1 s m #[Value.ref b] below meth c H locs (cl + 1) (sl + 6) (lw_Z below #[Value.ref b] s) (F0 m 23 ls [])) (hr1 : ∀ x, o1 = .inr x → x = (1 : Int32)) : W p l e room_1 s m #[Value.ref b] below meth c H locs (cl + 1) (sl + 6) (lw_Z below #[Value.ref b] s) (F0 m 1240 ls []) := by
  have hx := B.1
  have hb := B.2.1
  have hown := B.2.2.2.1
  have hts := B.2.2.2.2.1
  unfold f_L_law_1240 at hf
  refine lv_goto (tgt := 1539) hx hb dL_law_1240 (by decide) ?_
  exact t_L_law_1539 B hst hX HL hcl hf hW hl hk1 hr1
set_option maxRecDepth 100000 in
def f_L_law_1238 (xs : Nat → Int32) (L : Nat) (σ : zSt) : Option (Int32) :=
(some (0 : Int32))
set_option maxRecDepth 20000 in
set_option maxHeartbeats 4000000 in
theorem t_L_law_1238 (B : z_B p s m #[Value.ref b] meth c D cA bs RL cL_law 9 ret) {cl sl : Nat} (hst : l.stackTraces = false) (hX : z_X bs s) (HL : z_L s bs b L xs) (hcl : cl + 1 ≤ 601024 ∧ sl + 6 ≤ 7293034)  {σ : zSt} (hf : f_L_law_1238 xs L σ = some (1 : Int32)) {H : Heap} {locs : List Loc} {ls : Array Slot} (hW : z_Ok D cA bs s σ H locs) (hl : lv_has ls 9 [])  : W p l e room_1 s m #[Value.ref b] below meth c H locs (cl + 1) (sl + 6) (lw_Z below #[Value.ref b] s) (F0 m 1238 ls []) := by
  have hx := B.1
  have hb := B.2.1
  have hown := B.2.2.2.1
  have hts := B.2.2.2.2.1
  unfold f_L_law_1238 at hf
  refine lv_iconst (v := (0 : Int32)) hx hb dL_law_1238 (by decide) ?_
  exact absurd (Option.some.inj hf) (by decide)
set_option maxRecDepth 100000 in
def f_L_law_1202 (xs : Nat → Int32) (L : Nat) (σ : zSt) (l1 : Nat) (l2 : Nat) (l3 : Nat) (l4 : Int32) : Option ((zSt × Int32) ⊕ (Int32)) :=
(if z_ob σ l1 8 then (zb (f_X9_use σ l1) (fun r3 => (if z_ob σ l2 9 then (zb2 (f_X10_use σ l2) (fun r6 σ7 => (if (Op.cmpValue (FP.dcmp r3 r6) .l) = 0 then
(f_L_law_1240 xs L σ7 l1 l2 l3 l4)
else
(if (Op.cmpValue (FP.dcmp r3 r3) .l) = 0 then
(zex (f_L_law_1238 xs L σ7))
else
(if (Op.cmpValue (FP.dcmp r6 r6) .l) = 0 then
(zex (f_L_law_1238 xs L σ7))
else
(f_L_law_1240 xs L σ7 l1 l2 l3 l4)))))) else none))) else none)
set_option maxRecDepth 20000 in
set_option maxHeartbeats 4000000 in
theorem t_L_law_1202 (B : z_B p s m #[Value.ref b] meth c D cA bs RL cL_law 9 ret) {cl sl : Nat} (hst : l.stackTraces = false) (hX : z_X bs s) (HL : z_L s bs b L xs) (hcl : cl + 1 ≤ 601024 ∧ sl + 6 ≤ 7293034)  {o1 : (zSt × Int32) ⊕ (Int32)} {σ : zSt} {l1 : Nat} {l2 : Nat} {l3 : Nat} {l4 : Int32} (hf : f_L_law_1202 xs L σ l1 l2 l3 l4 = some o1) {H : Heap} {locs : List Loc} {ls : Array Slot} (hW : z_Ok D cA bs s σ H locs) (hl : lv_has ls 9 [(0, .ref b), (1, .ref l1), (2, .ref l2), (3, .ref l3), (4, .int l4)]) (hk1 : ∀ (σ : zSt), o1 = .inl (σ, l4 + (4 : Int32)) → ∀ {H : Heap} {locs : List Loc} {ls : Array Slot}, z_Ok D cA bs s σ H locs → lv_has ls 9 [(0, .ref b), (1, .ref l1), (2, .ref l2), (3, .ref l3), (4, .int (l4 + (4 : Int32)))] → W p l e room_1 s m #[Value.ref b] below meth c H locs (cl + 1) (sl + 6) (lw_Z below #[Value.ref b] s) (F0 m 23 ls [])) (hr1 : ∀ x, o1 = .inr x → x = (1 : Int32)) : W p l e room_1 s m #[Value.ref b] below meth c H locs (cl + 0) (sl + 0) (lw_Z below #[Value.ref b] s) (F0 m 1202 ls []) := by
  have hx := B.1
  have hb := B.2.1
  have hown := B.2.2.2.1
  have hts := B.2.2.2.2.1
  unfold f_L_law_1202 at hf
  refine lv_aload_n hx hb dL_law_1202 rfl (lv_at hl 1 rfl) ?_
  obtain ⟨hg1, hf⟩ := z_g hf
  obtain ⟨r3, hq2, hf⟩ := z_b hf
  refine z_cd hW (z_runV (As := []) (rest := []) B hW zv_L_152 (K_X9_use hq2) hg1 rfl rfl rfl (Nat.le_of_ble_eq_true rfl) hl.1 ⟨Nat.le_of_ble_eq_true rfl, Nat.le_of_ble_eq_true rfl⟩ dL_law_1203 ⟨by show (cl + 0) + 0 ≤ 601024; omega, by show (sl + 0) + 0 ≤ 7293034; omega⟩) (fun H locs hW => ?_)
  refine lv_dstore (lv' := [(5, .double r3), (0, .ref b), (1, .ref l1), (2, .ref l2), (3, .ref l3), (4, .int l4)]) hx hb dL_law_1206 hl (by decide) rfl (fun ls hl => ?_)
  refine lv_aload_n hx hb dL_law_1208 rfl (lv_at hl 3 rfl) ?_
  obtain ⟨hg4, hf⟩ := z_g hf
  obtain ⟨r6, σ7, hq5, hf⟩ := z_b2 hf
  refine z_cd hW (z_runV (As := []) (rest := []) B hW zv_L_156 (K_X10_use hq5) hg4 rfl rfl rfl (Nat.le_of_ble_eq_true rfl) hl.1 ⟨Nat.le_of_ble_eq_true rfl, Nat.le_of_ble_eq_true rfl⟩ dL_law_1209 ⟨by show (cl + 0) + 0 ≤ 601024; omega, by show (sl + 0) + 0 ≤ 7293034; omega⟩) (fun H locs hW => ?_)
  refine lv_dstore (lv' := [(7, .double r6), (5, .double r3), (0, .ref b), (1, .ref l1), (2, .ref l2), (3, .ref l3), (4, .int l4)]) hx hb dL_law_1212 hl (by decide) rfl (fun ls hl => ?_)
  refine lv_dload hx hb dL_law_1214 (lv_at hl 1 rfl) ?_
  refine lv_dload hx hb dL_law_1216 (lv_at hl 0 rfl) ?_
  refine lv_dcmp hx hb dL_law_1218 ?_
  refine lv_if_eq (tgt := 1240) hx hb dL_law_1219 (by decide) (fun hc1219 => ?_) (fun hc1219 => ?_)
  · replace hf := z_ip hc1219 hf
    refine W.widen (k := cl + 1) (n := sl + 6) (by omega) (by omega) ?_
    exact t_L_law_1240 B hst hX HL hcl hf hW (lv_sub hl [2, 3, 4, 5, 6] rfl) hk1 hr1
  · replace hf := z_in hc1219 hf
    refine lv_dload hx hb dL_law_1222 (lv_at hl 1 rfl) ?_
    refine lv_dload hx hb dL_law_1224 (lv_at hl 1 rfl) ?_
    refine lv_dcmp hx hb dL_law_1226 ?_
    refine lv_if_eq (tgt := 1238) hx hb dL_law_1227 (by decide) (fun hc1227 => ?_) (fun hc1227 => ?_)
    · replace hf := z_ip hc1227 hf
      obtain ⟨w1, hf, ho8⟩ := z_x hf
      obtain rfl := hr1 _ ho8
      refine W.widen (k := cl + 1) (n := sl + 6) (by omega) (by omega) ?_
      exact t_L_law_1238 B hst hX HL hcl hf hW (lv_sub hl [] rfl) 
    · replace hf := z_in hc1227 hf
      refine lv_dload hx hb dL_law_1230 (lv_at hl 0 rfl) ?_
      refine lv_dload hx hb dL_law_1232 (lv_at hl 0 rfl) ?_
      refine lv_dcmp hx hb dL_law_1234 ?_
      refine lv_if_ne (tgt := 1240) hx hb dL_law_1235 (by decide) (fun hc1235 => ?_) (fun hc1235 => ?_)
      · replace hf := z_in hc1235 hf
        refine W.widen (k := cl + 1) (n := sl + 6) (by omega) (by omega) ?_
        exact t_L_law_1240 B hst hX HL hcl hf hW (lv_sub hl [2, 3, 4, 5, 6] rfl) hk1 hr1
      · replace hf := z_ip hc1235 hf
        obtain ⟨w1, hf, ho9⟩ := z_x hf
        obtain rfl := hr1 _ ho9
        refine W.widen (k := cl + 1) (n := sl + 6) (by omega) (by omega) ?_
        exact t_L_law_1238 B hst hX HL hcl hf hW (lv_sub hl [] rfl) 
set_option maxRecDepth 100000 in
def f_L_law_1296 (xs : Nat → Int32) (L : Nat) (σ : zSt) (l1 : Nat) (l2 : Nat) (l3 : Nat) (l4 : Int32) : Option ((zSt × Int32) ⊕ (Int32)) :=
(f_L_law_1539 xs L σ l1 l2 l3 l4)
set_option maxRecDepth 20000 in
set_option maxHeartbeats 4000000 in
theorem t_L_law_1296 (B : z_B p s m #[Value.ref b] meth c D cA bs RL cL_law 9 ret) {cl sl : Nat} (hst : l.stackTraces = false) (hX : z_X bs s) (HL : z_L s bs b L xs) (hcl : cl + 1 ≤ 601024 ∧ sl + 6 ≤ 7293034)  {o1 : (zSt × Int32) ⊕ (Int32)} {σ : zSt} {l1 : Nat} {l2 : Nat} {l3 : Nat} {l4 : Int32} (hf : f_L_law_1296 xs L σ l1 l2 l3 l4 = some o1) {H : Heap} {locs : List Loc} {ls : Array Slot} (hW : z_Ok D cA bs s σ H locs) (hl : lv_has ls 9 [(0, .ref b), (1, .ref l1), (2, .ref l2), (3, .ref l3), (4, .int l4)]) (hk1 : ∀ (σ : zSt), o1 = .inl (σ, l4 + (4 : Int32)) → ∀ {H : Heap} {locs : List Loc} {ls : Array Slot}, z_Ok D cA bs s σ H locs → lv_has ls 9 [(0, .ref b), (1, .ref l1), (2, .ref l2), (3, .ref l3), (4, .int (l4 + (4 : Int32)))] → W p l e room_1 s m #[Value.ref b] below meth c H locs (cl + 1) (sl + 6) (lw_Z below #[Value.ref b] s) (F0 m 23 ls [])) (hr1 : ∀ x, o1 = .inr x → x = (1 : Int32)) : W p l e room_1 s m #[Value.ref b] below meth c H locs (cl + 1) (sl + 6) (lw_Z below #[Value.ref b] s) (F0 m 1296 ls []) := by
  have hx := B.1
  have hb := B.2.1
  have hown := B.2.2.2.1
  have hts := B.2.2.2.2.1
  unfold f_L_law_1296 at hf
  refine lv_goto (tgt := 1539) hx hb dL_law_1296 (by decide) ?_
  exact t_L_law_1539 B hst hX HL hcl hf hW hl hk1 hr1
set_option maxRecDepth 100000 in
def f_L_law_1243 (xs : Nat → Int32) (L : Nat) (σ : zSt) (l1 : Nat) (l2 : Nat) (l3 : Nat) (l4 : Int32) : Option ((zSt × Int32) ⊕ (Int32)) :=
(if z_ix (l4 + (1 : Int32)) L then (zb2 (f_L_waitOf σ l1 (xs (l4 + (1 : Int32)).toNatClampNeg) l3) (fun r3 σ4 => (if z_ix (l4 + (1 : Int32)) L then (if z_ob σ4 l2 9 then (zb2 (f_X10_waitOf σ4 l2 (xs (l4 + (1 : Int32)).toNatClampNeg)) (fun r8 σ9 => (if z_ob σ9 l2 9 then (zb (f_X10_thrown σ9 l2) (fun r12 => (if r12 = r3 then
(if r3 = 0 then
(if z_ar σ9 l3 2 then (if z_ix (0 : Int32) (z_ln σ9 l3) then (if (lg_cmp (z_J σ9 l3 (0 : Int32).toNatClampNeg) r8.toInt64) = 0 then
(f_L_law_1296 xs L σ9 l1 l2 l3 l4)
else
(zex (some (0 : Int32)))) else none) else none)
else
(f_L_law_1296 xs L σ9 l1 l2 l3 l4))
else
(zex (some (0 : Int32)))))) else none))) else none) else none))) else none)
set_option maxRecDepth 20000 in
set_option maxHeartbeats 4000000 in
theorem t_L_law_1243 (B : z_B p s m #[Value.ref b] meth c D cA bs RL cL_law 9 ret) {cl sl : Nat} (hst : l.stackTraces = false) (hX : z_X bs s) (HL : z_L s bs b L xs) (hcl : cl + 1 ≤ 601024 ∧ sl + 6 ≤ 7293034)  {o1 : (zSt × Int32) ⊕ (Int32)} {σ : zSt} {l1 : Nat} {l2 : Nat} {l3 : Nat} {l4 : Int32} (hf : f_L_law_1243 xs L σ l1 l2 l3 l4 = some o1) {H : Heap} {locs : List Loc} {ls : Array Slot} (hW : z_Ok D cA bs s σ H locs) (hl : lv_has ls 9 [(0, .ref b), (1, .ref l1), (2, .ref l2), (3, .ref l3), (4, .int l4)]) (hk1 : ∀ (σ : zSt), o1 = .inl (σ, l4 + (4 : Int32)) → ∀ {H : Heap} {locs : List Loc} {ls : Array Slot}, z_Ok D cA bs s σ H locs → lv_has ls 9 [(0, .ref b), (1, .ref l1), (2, .ref l2), (3, .ref l3), (4, .int (l4 + (4 : Int32)))] → W p l e room_1 s m #[Value.ref b] below meth c H locs (cl + 1) (sl + 6) (lw_Z below #[Value.ref b] s) (F0 m 23 ls [])) (hr1 : ∀ x, o1 = .inr x → x = (1 : Int32)) : W p l e room_1 s m #[Value.ref b] below meth c H locs (cl + 0) (sl + 0) (lw_Z below #[Value.ref b] s) (F0 m 1243 ls []) := by
  have hx := B.1
  have hb := B.2.1
  have hown := B.2.2.2.1
  have hts := B.2.2.2.2.1
  unfold f_L_law_1243 at hf
  refine lv_aload_n hx hb dL_law_1243 rfl (lv_at hl 1 rfl) ?_
  refine lv_aload_n hx hb dL_law_1244 rfl (lv_at hl 0 rfl) ?_
  refine lv_iload hx hb dL_law_1245 (lv_at hl 4 rfl) ?_
  refine lv_iconst (v := (1 : Int32)) hx hb dL_law_1247 (by decide) ?_
  refine lv_iadd hx hb dL_law_1248 ?_
  obtain ⟨hg1, hf⟩ := z_g hf
  refine z_sld B hW HL hg1 dL_law_1249 ?_
  refine lv_aload_n hx hb dL_law_1250 rfl (lv_at hl 3 rfl) ?_
  obtain ⟨r3, σ4, hq2, hf⟩ := z_b2 hf
  refine z_ci hW (z_runSW (As := [.ref l1, .int (xs (l4 + (1 : Int32)).toNatClampNeg), .ref l3]) (rest := []) B hX hW zl_L_157 (K_L_waitOf hst hq2) rfl rfl (Nat.le_of_ble_eq_true rfl) hl.1 ⟨Nat.le_of_ble_eq_true rfl, Nat.le_of_ble_eq_true rfl⟩ dL_law_1251 ⟨by show (cl + 0) + 1 ≤ 601024; omega, by show (sl + 0) + 6 ≤ 7293034; omega⟩) (fun H locs hW => ?_)
  refine lv_istore (lv' := [(5, .int r3), (0, .ref b), (1, .ref l1), (2, .ref l2), (3, .ref l3), (4, .int l4)]) hx hb dL_law_1254 hl (by decide) rfl (fun ls hl => ?_)
  refine lv_aload_n hx hb dL_law_1256 rfl (lv_at hl 3 rfl) ?_
  refine lv_aload_n hx hb dL_law_1257 rfl (lv_at hl 1 rfl) ?_
  refine lv_iload hx hb dL_law_1258 (lv_at hl 5 rfl) ?_
  refine lv_iconst (v := (1 : Int32)) hx hb dL_law_1260 (by decide) ?_
  refine lv_iadd hx hb dL_law_1261 ?_
  obtain ⟨hg5, hf⟩ := z_g hf
  refine z_sld B hW HL hg5 dL_law_1262 ?_
  obtain ⟨hg6, hf⟩ := z_g hf
  obtain ⟨r8, σ9, hq7, hf⟩ := z_b2 hf
  refine z_ci hW (z_runV (As := [.int (xs (l4 + (1 : Int32)).toNatClampNeg)]) (rest := []) B hW zv_L_159 (K_X10_waitOf hq7) hg6 rfl rfl rfl (Nat.le_of_ble_eq_true rfl) hl.1 ⟨Nat.le_of_ble_eq_true rfl, Nat.le_of_ble_eq_true rfl⟩ dL_law_1263 ⟨by show (cl + 1) + 0 ≤ 601024; omega, by show (sl + 6) + 0 ≤ 7293034; omega⟩) (fun H locs hW => ?_)
  refine lv_istore (lv' := [(6, .int r8), (5, .int r3), (0, .ref b), (1, .ref l1), (2, .ref l2), (3, .ref l3), (4, .int l4)]) hx hb dL_law_1266 hl (by decide) rfl (fun ls hl => ?_)
  refine lv_aload_n hx hb dL_law_1268 rfl (lv_at hl 4 rfl) ?_
  obtain ⟨hg10, hf⟩ := z_g hf
  obtain ⟨r12, hq11, hf⟩ := z_b hf
  refine z_ci hW (z_runV (As := []) (rest := []) B hW zv_L_90 (K_X10_thrown hq11) hg10 rfl rfl rfl (Nat.le_of_ble_eq_true rfl) hl.1 ⟨Nat.le_of_ble_eq_true rfl, Nat.le_of_ble_eq_true rfl⟩ dL_law_1269 ⟨by show (cl + 1) + 0 ≤ 601024; omega, by show (sl + 6) + 0 ≤ 7293034; omega⟩) (fun H locs hW => ?_)
  refine lv_iload hx hb dL_law_1272 (lv_at hl 1 rfl) ?_
  refine lv_icmp_eq (tgt := 1279) hx hb dL_law_1274 (by decide) (fun hc1274 => ?_) (fun hc1274 => ?_)
  · replace hf := z_ip hc1274 hf
    refine lv_iload hx hb dL_law_1279 (lv_at hl 1 rfl) ?_
    refine lv_if_ne (tgt := 1296) hx hb dL_law_1281 (by decide) (fun hc1281 => ?_) (fun hc1281 => ?_)
    · replace hf := z_in hc1281 hf
      exact t_L_law_1296 B hst hX HL hcl hf hW (lv_sub hl [2, 3, 4, 5, 6] rfl) hk1 hr1
    · replace hf := z_ip hc1281 hf
      refine lv_aload_n hx hb dL_law_1284 rfl (lv_at hl 5 rfl) ?_
      refine lv_iconst (v := (0 : Int32)) hx hb dL_law_1285 (by decide) ?_
      obtain ⟨hg13, hf⟩ := z_g hf
      obtain ⟨hg14, hf⟩ := z_g hf
      refine z_lald B hW hg13 hg14 dL_law_1286 ?_
      refine lv_iload hx hb dL_law_1287 (lv_at hl 0 rfl) ?_
      refine lv_i2l (v := r8.toInt64) hx hb dL_law_1289 rfl ?_
      refine W.lcmp hx hb dL_law_1290 ?_
      refine lv_if_eq (tgt := 1296) hx hb dL_law_1291 (by decide) (fun hc1291 => ?_) (fun hc1291 => ?_)
      · replace hf := z_ip hc1291 hf
        exact t_L_law_1296 B hst hX HL hcl hf hW (lv_sub hl [2, 3, 4, 5, 6] rfl) hk1 hr1
      · replace hf := z_in hc1291 hf
        obtain ⟨w1, hf, ho15⟩ := z_x hf
        obtain rfl := hr1 _ ho15
        refine lv_iconst (v := (0 : Int32)) hx hb dL_law_1294 (by decide) ?_
        exact absurd (Option.some.inj hf) (by decide)
  · replace hf := z_in hc1274 hf
    obtain ⟨w1, hf, ho16⟩ := z_x hf
    obtain rfl := hr1 _ ho16
    refine lv_iconst (v := (0 : Int32)) hx hb dL_law_1277 (by decide) ?_
    exact absurd (Option.some.inj hf) (by decide)
set_option maxRecDepth 100000 in
def f_L_law_1340 (xs : Nat → Int32) (L : Nat) (σ : zSt) (l1 : Nat) (l2 : Nat) (l3 : Nat) (l4 : Int32) : Option ((zSt × Int32) ⊕ (Int32)) :=
(f_L_law_1539 xs L σ l1 l2 l3 l4)
set_option maxRecDepth 20000 in
set_option maxHeartbeats 4000000 in
theorem t_L_law_1340 (B : z_B p s m #[Value.ref b] meth c D cA bs RL cL_law 9 ret) {cl sl : Nat} (hst : l.stackTraces = false) (hX : z_X bs s) (HL : z_L s bs b L xs) (hcl : cl + 1 ≤ 601024 ∧ sl + 6 ≤ 7293034)  {o1 : (zSt × Int32) ⊕ (Int32)} {σ : zSt} {l1 : Nat} {l2 : Nat} {l3 : Nat} {l4 : Int32} (hf : f_L_law_1340 xs L σ l1 l2 l3 l4 = some o1) {H : Heap} {locs : List Loc} {ls : Array Slot} (hW : z_Ok D cA bs s σ H locs) (hl : lv_has ls 9 [(0, .ref b), (1, .ref l1), (2, .ref l2), (3, .ref l3), (4, .int l4)]) (hk1 : ∀ (σ : zSt), o1 = .inl (σ, l4 + (4 : Int32)) → ∀ {H : Heap} {locs : List Loc} {ls : Array Slot}, z_Ok D cA bs s σ H locs → lv_has ls 9 [(0, .ref b), (1, .ref l1), (2, .ref l2), (3, .ref l3), (4, .int (l4 + (4 : Int32)))] → W p l e room_1 s m #[Value.ref b] below meth c H locs (cl + 1) (sl + 6) (lw_Z below #[Value.ref b] s) (F0 m 23 ls [])) (hr1 : ∀ x, o1 = .inr x → x = (1 : Int32)) : W p l e room_1 s m #[Value.ref b] below meth c H locs (cl + 1) (sl + 6) (lw_Z below #[Value.ref b] s) (F0 m 1340 ls []) := by
  have hx := B.1
  have hb := B.2.1
  have hown := B.2.2.2.1
  have hts := B.2.2.2.2.1
  unfold f_L_law_1340 at hf
  refine lv_goto (tgt := 1539) hx hb dL_law_1340 (by decide) ?_
  exact t_L_law_1539 B hst hX HL hcl hf hW hl hk1 hr1
set_option maxRecDepth 100000 in
def f_L_law_1299 (xs : Nat → Int32) (L : Nat) (σ : zSt) (l1 : Nat) (l2 : Nat) (l3 : Nat) (l4 : Int32) : Option ((zSt × Int32) ⊕ (Int32)) :=
(zb2 (f_L_completeAfter σ l1 l3) (fun r2 σ3 => (if z_ob σ3 l2 9 then (zb2 (f_X10_completeAfter σ3 l2) (fun r6 σ7 => (if z_ob σ7 l2 9 then (zb (f_X10_thrown σ7 l2) (fun r10 => (if r10 = r2 then
(if r2 = 0 then
(if z_ar σ7 l3 2 then (if z_ix (0 : Int32) (z_ln σ7 l3) then (if (lg_cmp (z_J σ7 l3 (0 : Int32).toNatClampNeg) r6.toInt64) = 0 then
(f_L_law_1340 xs L σ7 l1 l2 l3 l4)
else
(zex (some (0 : Int32)))) else none) else none)
else
(f_L_law_1340 xs L σ7 l1 l2 l3 l4))
else
(zex (some (0 : Int32)))))) else none))) else none)))
set_option maxRecDepth 20000 in
set_option maxHeartbeats 4000000 in
theorem t_L_law_1299 (B : z_B p s m #[Value.ref b] meth c D cA bs RL cL_law 9 ret) {cl sl : Nat} (hst : l.stackTraces = false) (hX : z_X bs s) (HL : z_L s bs b L xs) (hcl : cl + 1 ≤ 601024 ∧ sl + 6 ≤ 7293034)  {o1 : (zSt × Int32) ⊕ (Int32)} {σ : zSt} {l1 : Nat} {l2 : Nat} {l3 : Nat} {l4 : Int32} (hf : f_L_law_1299 xs L σ l1 l2 l3 l4 = some o1) {H : Heap} {locs : List Loc} {ls : Array Slot} (hW : z_Ok D cA bs s σ H locs) (hl : lv_has ls 9 [(0, .ref b), (1, .ref l1), (2, .ref l2), (3, .ref l3), (4, .int l4)]) (hk1 : ∀ (σ : zSt), o1 = .inl (σ, l4 + (4 : Int32)) → ∀ {H : Heap} {locs : List Loc} {ls : Array Slot}, z_Ok D cA bs s σ H locs → lv_has ls 9 [(0, .ref b), (1, .ref l1), (2, .ref l2), (3, .ref l3), (4, .int (l4 + (4 : Int32)))] → W p l e room_1 s m #[Value.ref b] below meth c H locs (cl + 1) (sl + 6) (lw_Z below #[Value.ref b] s) (F0 m 23 ls [])) (hr1 : ∀ x, o1 = .inr x → x = (1 : Int32)) : W p l e room_1 s m #[Value.ref b] below meth c H locs (cl + 0) (sl + 0) (lw_Z below #[Value.ref b] s) (F0 m 1299 ls []) := by
  have hx := B.1
  have hb := B.2.1
  have hown := B.2.2.2.1
  have hts := B.2.2.2.2.1
  unfold f_L_law_1299 at hf
  refine lv_aload_n hx hb dL_law_1299 rfl (lv_at hl 1 rfl) ?_
  refine lv_aload_n hx hb dL_law_1300 rfl (lv_at hl 3 rfl) ?_
  obtain ⟨r2, σ3, hq1, hf⟩ := z_b2 hf
  refine z_ci hW (z_runSW (As := [.ref l1, .ref l3]) (rest := []) B hX hW zl_L_160 (K_L_completeAfter hst hq1) rfl rfl (Nat.le_of_ble_eq_true rfl) hl.1 ⟨Nat.le_of_ble_eq_true rfl, Nat.le_of_ble_eq_true rfl⟩ dL_law_1301 ⟨by show (cl + 0) + 1 ≤ 601024; omega, by show (sl + 0) + 6 ≤ 7293034; omega⟩) (fun H locs hW => ?_)
  refine lv_istore (lv' := [(5, .int r2), (0, .ref b), (1, .ref l1), (2, .ref l2), (3, .ref l3), (4, .int l4)]) hx hb dL_law_1304 hl (by decide) rfl (fun ls hl => ?_)
  refine lv_aload_n hx hb dL_law_1306 rfl (lv_at hl 3 rfl) ?_
  obtain ⟨hg4, hf⟩ := z_g hf
  obtain ⟨r6, σ7, hq5, hf⟩ := z_b2 hf
  refine z_ci hW (z_runV (As := []) (rest := []) B hW zv_L_163 (K_X10_completeAfter hq5) hg4 rfl rfl rfl (Nat.le_of_ble_eq_true rfl) hl.1 ⟨Nat.le_of_ble_eq_true rfl, Nat.le_of_ble_eq_true rfl⟩ dL_law_1307 ⟨by show (cl + 1) + 0 ≤ 601024; omega, by show (sl + 6) + 0 ≤ 7293034; omega⟩) (fun H locs hW => ?_)
  refine lv_istore (lv' := [(6, .int r6), (5, .int r2), (0, .ref b), (1, .ref l1), (2, .ref l2), (3, .ref l3), (4, .int l4)]) hx hb dL_law_1310 hl (by decide) rfl (fun ls hl => ?_)
  refine lv_aload_n hx hb dL_law_1312 rfl (lv_at hl 4 rfl) ?_
  obtain ⟨hg8, hf⟩ := z_g hf
  obtain ⟨r10, hq9, hf⟩ := z_b hf
  refine z_ci hW (z_runV (As := []) (rest := []) B hW zv_L_90 (K_X10_thrown hq9) hg8 rfl rfl rfl (Nat.le_of_ble_eq_true rfl) hl.1 ⟨Nat.le_of_ble_eq_true rfl, Nat.le_of_ble_eq_true rfl⟩ dL_law_1313 ⟨by show (cl + 1) + 0 ≤ 601024; omega, by show (sl + 6) + 0 ≤ 7293034; omega⟩) (fun H locs hW => ?_)
  refine lv_iload hx hb dL_law_1316 (lv_at hl 1 rfl) ?_
  refine lv_icmp_eq (tgt := 1323) hx hb dL_law_1318 (by decide) (fun hc1318 => ?_) (fun hc1318 => ?_)
  · replace hf := z_ip hc1318 hf
    refine lv_iload hx hb dL_law_1323 (lv_at hl 1 rfl) ?_
    refine lv_if_ne (tgt := 1340) hx hb dL_law_1325 (by decide) (fun hc1325 => ?_) (fun hc1325 => ?_)
    · replace hf := z_in hc1325 hf
      exact t_L_law_1340 B hst hX HL hcl hf hW (lv_sub hl [2, 3, 4, 5, 6] rfl) hk1 hr1
    · replace hf := z_ip hc1325 hf
      refine lv_aload_n hx hb dL_law_1328 rfl (lv_at hl 5 rfl) ?_
      refine lv_iconst (v := (0 : Int32)) hx hb dL_law_1329 (by decide) ?_
      obtain ⟨hg11, hf⟩ := z_g hf
      obtain ⟨hg12, hf⟩ := z_g hf
      refine z_lald B hW hg11 hg12 dL_law_1330 ?_
      refine lv_iload hx hb dL_law_1331 (lv_at hl 0 rfl) ?_
      refine lv_i2l (v := r6.toInt64) hx hb dL_law_1333 rfl ?_
      refine W.lcmp hx hb dL_law_1334 ?_
      refine lv_if_eq (tgt := 1340) hx hb dL_law_1335 (by decide) (fun hc1335 => ?_) (fun hc1335 => ?_)
      · replace hf := z_ip hc1335 hf
        exact t_L_law_1340 B hst hX HL hcl hf hW (lv_sub hl [2, 3, 4, 5, 6] rfl) hk1 hr1
      · replace hf := z_in hc1335 hf
        obtain ⟨w1, hf, ho13⟩ := z_x hf
        obtain rfl := hr1 _ ho13
        refine lv_iconst (v := (0 : Int32)) hx hb dL_law_1338 (by decide) ?_
        exact absurd (Option.some.inj hf) (by decide)
  · replace hf := z_in hc1318 hf
    obtain ⟨w1, hf, ho14⟩ := z_x hf
    obtain rfl := hr1 _ ho14
    refine lv_iconst (v := (0 : Int32)) hx hb dL_law_1321 (by decide) ?_
    exact absurd (Option.some.inj hf) (by decide)
set_option maxRecDepth 100000 in
def f_L_law_1396 (xs : Nat → Int32) (L : Nat) (σ : zSt) (l1 : Nat) (l2 : Nat) (l3 : Nat) (l4 : Int32) : Option ((zSt × Int32) ⊕ (Int32)) :=
(f_L_law_1539 xs L σ l1 l2 l3 l4)
set_option maxRecDepth 20000 in
set_option maxHeartbeats 4000000 in
theorem t_L_law_1396 (B : z_B p s m #[Value.ref b] meth c D cA bs RL cL_law 9 ret) {cl sl : Nat} (hst : l.stackTraces = false) (hX : z_X bs s) (HL : z_L s bs b L xs) (hcl : cl + 1 ≤ 601024 ∧ sl + 6 ≤ 7293034)  {o1 : (zSt × Int32) ⊕ (Int32)} {σ : zSt} {l1 : Nat} {l2 : Nat} {l3 : Nat} {l4 : Int32} (hf : f_L_law_1396 xs L σ l1 l2 l3 l4 = some o1) {H : Heap} {locs : List Loc} {ls : Array Slot} (hW : z_Ok D cA bs s σ H locs) (hl : lv_has ls 9 [(0, .ref b), (1, .ref l1), (2, .ref l2), (3, .ref l3), (4, .int l4)]) (hk1 : ∀ (σ : zSt), o1 = .inl (σ, l4 + (4 : Int32)) → ∀ {H : Heap} {locs : List Loc} {ls : Array Slot}, z_Ok D cA bs s σ H locs → lv_has ls 9 [(0, .ref b), (1, .ref l1), (2, .ref l2), (3, .ref l3), (4, .int (l4 + (4 : Int32)))] → W p l e room_1 s m #[Value.ref b] below meth c H locs (cl + 1) (sl + 6) (lw_Z below #[Value.ref b] s) (F0 m 23 ls [])) (hr1 : ∀ x, o1 = .inr x → x = (1 : Int32)) : W p l e room_1 s m #[Value.ref b] below meth c H locs (cl + 1) (sl + 6) (lw_Z below #[Value.ref b] s) (F0 m 1396 ls []) := by
  have hx := B.1
  have hb := B.2.1
  have hown := B.2.2.2.1
  have hts := B.2.2.2.2.1
  unfold f_L_law_1396 at hf
  refine lv_goto (tgt := 1539) hx hb dL_law_1396 (by decide) ?_
  exact t_L_law_1539 B hst hX HL hcl hf hW hl hk1 hr1
set_option maxRecDepth 100000 in
def f_L_law_1343 (xs : Nat → Int32) (L : Nat) (σ : zSt) (l1 : Nat) (l2 : Nat) (l3 : Nat) (l4 : Int32) : Option ((zSt × Int32) ⊕ (Int32)) :=
(if z_ix (l4 + (1 : Int32)) L then (zb2 (f_L_leastTarget σ l1 (xs (l4 + (1 : Int32)).toNatClampNeg) l3) (fun r3 σ4 => (if z_ix (l4 + (1 : Int32)) L then (if z_ob σ4 l2 9 then (zb2 (f_X10_leastTarget σ4 l2 (xs (l4 + (1 : Int32)).toNatClampNeg)) (fun r8 σ9 => (if z_ob σ9 l2 9 then (zb (f_X10_thrown σ9 l2) (fun r12 => (if r12 = r3 then
(if r3 = 0 then
(if z_ar σ9 l3 2 then (if z_ix (0 : Int32) (z_ln σ9 l3) then (if (lg_cmp (z_J σ9 l3 (0 : Int32).toNatClampNeg) r8.toInt64) = 0 then
(f_L_law_1396 xs L σ9 l1 l2 l3 l4)
else
(zex (some (0 : Int32)))) else none) else none)
else
(f_L_law_1396 xs L σ9 l1 l2 l3 l4))
else
(zex (some (0 : Int32)))))) else none))) else none) else none))) else none)
set_option maxRecDepth 20000 in
set_option maxHeartbeats 4000000 in
theorem t_L_law_1343 (B : z_B p s m #[Value.ref b] meth c D cA bs RL cL_law 9 ret) {cl sl : Nat} (hst : l.stackTraces = false) (hX : z_X bs s) (HL : z_L s bs b L xs) (hcl : cl + 1 ≤ 601024 ∧ sl + 6 ≤ 7293034)  {o1 : (zSt × Int32) ⊕ (Int32)} {σ : zSt} {l1 : Nat} {l2 : Nat} {l3 : Nat} {l4 : Int32} (hf : f_L_law_1343 xs L σ l1 l2 l3 l4 = some o1) {H : Heap} {locs : List Loc} {ls : Array Slot} (hW : z_Ok D cA bs s σ H locs) (hl : lv_has ls 9 [(0, .ref b), (1, .ref l1), (2, .ref l2), (3, .ref l3), (4, .int l4)]) (hk1 : ∀ (σ : zSt), o1 = .inl (σ, l4 + (4 : Int32)) → ∀ {H : Heap} {locs : List Loc} {ls : Array Slot}, z_Ok D cA bs s σ H locs → lv_has ls 9 [(0, .ref b), (1, .ref l1), (2, .ref l2), (3, .ref l3), (4, .int (l4 + (4 : Int32)))] → W p l e room_1 s m #[Value.ref b] below meth c H locs (cl + 1) (sl + 6) (lw_Z below #[Value.ref b] s) (F0 m 23 ls [])) (hr1 : ∀ x, o1 = .inr x → x = (1 : Int32)) : W p l e room_1 s m #[Value.ref b] below meth c H locs (cl + 0) (sl + 0) (lw_Z below #[Value.ref b] s) (F0 m 1343 ls []) := by
  have hx := B.1
  have hb := B.2.1
  have hown := B.2.2.2.1
  have hts := B.2.2.2.2.1
  unfold f_L_law_1343 at hf
  refine lv_aload_n hx hb dL_law_1343 rfl (lv_at hl 1 rfl) ?_
  refine lv_aload_n hx hb dL_law_1344 rfl (lv_at hl 0 rfl) ?_
  refine lv_iload hx hb dL_law_1345 (lv_at hl 4 rfl) ?_
  refine lv_iconst (v := (1 : Int32)) hx hb dL_law_1347 (by decide) ?_
  refine lv_iadd hx hb dL_law_1348 ?_
  obtain ⟨hg1, hf⟩ := z_g hf
  refine z_sld B hW HL hg1 dL_law_1349 ?_
  refine lv_aload_n hx hb dL_law_1350 rfl (lv_at hl 3 rfl) ?_
  obtain ⟨r3, σ4, hq2, hf⟩ := z_b2 hf
  refine z_ci hW (z_runSW (As := [.ref l1, .int (xs (l4 + (1 : Int32)).toNatClampNeg), .ref l3]) (rest := []) B hX hW zl_L_164 (K_L_leastTarget hst hq2) rfl rfl (Nat.le_of_ble_eq_true rfl) hl.1 ⟨Nat.le_of_ble_eq_true rfl, Nat.le_of_ble_eq_true rfl⟩ dL_law_1351 ⟨by show (cl + 0) + 1 ≤ 601024; omega, by show (sl + 0) + 6 ≤ 7293034; omega⟩) (fun H locs hW => ?_)
  refine lv_istore (lv' := [(5, .int r3), (0, .ref b), (1, .ref l1), (2, .ref l2), (3, .ref l3), (4, .int l4)]) hx hb dL_law_1354 hl (by decide) rfl (fun ls hl => ?_)
  refine lv_aload_n hx hb dL_law_1356 rfl (lv_at hl 3 rfl) ?_
  refine lv_aload_n hx hb dL_law_1357 rfl (lv_at hl 1 rfl) ?_
  refine lv_iload hx hb dL_law_1358 (lv_at hl 5 rfl) ?_
  refine lv_iconst (v := (1 : Int32)) hx hb dL_law_1360 (by decide) ?_
  refine lv_iadd hx hb dL_law_1361 ?_
  obtain ⟨hg5, hf⟩ := z_g hf
  refine z_sld B hW HL hg5 dL_law_1362 ?_
  obtain ⟨hg6, hf⟩ := z_g hf
  obtain ⟨r8, σ9, hq7, hf⟩ := z_b2 hf
  refine z_ci hW (z_runV (As := [.int (xs (l4 + (1 : Int32)).toNatClampNeg)]) (rest := []) B hW zv_L_166 (K_X10_leastTarget hq7) hg6 rfl rfl rfl (Nat.le_of_ble_eq_true rfl) hl.1 ⟨Nat.le_of_ble_eq_true rfl, Nat.le_of_ble_eq_true rfl⟩ dL_law_1363 ⟨by show (cl + 1) + 0 ≤ 601024; omega, by show (sl + 6) + 0 ≤ 7293034; omega⟩) (fun H locs hW => ?_)
  refine lv_istore (lv' := [(6, .int r8), (5, .int r3), (0, .ref b), (1, .ref l1), (2, .ref l2), (3, .ref l3), (4, .int l4)]) hx hb dL_law_1366 hl (by decide) rfl (fun ls hl => ?_)
  refine lv_aload_n hx hb dL_law_1368 rfl (lv_at hl 4 rfl) ?_
  obtain ⟨hg10, hf⟩ := z_g hf
  obtain ⟨r12, hq11, hf⟩ := z_b hf
  refine z_ci hW (z_runV (As := []) (rest := []) B hW zv_L_90 (K_X10_thrown hq11) hg10 rfl rfl rfl (Nat.le_of_ble_eq_true rfl) hl.1 ⟨Nat.le_of_ble_eq_true rfl, Nat.le_of_ble_eq_true rfl⟩ dL_law_1369 ⟨by show (cl + 1) + 0 ≤ 601024; omega, by show (sl + 6) + 0 ≤ 7293034; omega⟩) (fun H locs hW => ?_)
  refine lv_iload hx hb dL_law_1372 (lv_at hl 1 rfl) ?_
  refine lv_icmp_eq (tgt := 1379) hx hb dL_law_1374 (by decide) (fun hc1374 => ?_) (fun hc1374 => ?_)
  · replace hf := z_ip hc1374 hf
    refine lv_iload hx hb dL_law_1379 (lv_at hl 1 rfl) ?_
    refine lv_if_ne (tgt := 1396) hx hb dL_law_1381 (by decide) (fun hc1381 => ?_) (fun hc1381 => ?_)
    · replace hf := z_in hc1381 hf
      exact t_L_law_1396 B hst hX HL hcl hf hW (lv_sub hl [2, 3, 4, 5, 6] rfl) hk1 hr1
    · replace hf := z_ip hc1381 hf
      refine lv_aload_n hx hb dL_law_1384 rfl (lv_at hl 5 rfl) ?_
      refine lv_iconst (v := (0 : Int32)) hx hb dL_law_1385 (by decide) ?_
      obtain ⟨hg13, hf⟩ := z_g hf
      obtain ⟨hg14, hf⟩ := z_g hf
      refine z_lald B hW hg13 hg14 dL_law_1386 ?_
      refine lv_iload hx hb dL_law_1387 (lv_at hl 0 rfl) ?_
      refine lv_i2l (v := r8.toInt64) hx hb dL_law_1389 rfl ?_
      refine W.lcmp hx hb dL_law_1390 ?_
      refine lv_if_eq (tgt := 1396) hx hb dL_law_1391 (by decide) (fun hc1391 => ?_) (fun hc1391 => ?_)
      · replace hf := z_ip hc1391 hf
        exact t_L_law_1396 B hst hX HL hcl hf hW (lv_sub hl [2, 3, 4, 5, 6] rfl) hk1 hr1
      · replace hf := z_in hc1391 hf
        obtain ⟨w1, hf, ho15⟩ := z_x hf
        obtain rfl := hr1 _ ho15
        refine lv_iconst (v := (0 : Int32)) hx hb dL_law_1394 (by decide) ?_
        exact absurd (Option.some.inj hf) (by decide)
  · replace hf := z_in hc1374 hf
    obtain ⟨w1, hf, ho16⟩ := z_x hf
    obtain rfl := hr1 _ ho16
    refine lv_iconst (v := (0 : Int32)) hx hb dL_law_1377 (by decide) ?_
    exact absurd (Option.some.inj hf) (by decide)
set_option maxRecDepth 100000 in
def f_L_law_1452 (xs : Nat → Int32) (L : Nat) (σ : zSt) (l1 : Nat) (l2 : Nat) (l3 : Nat) (l4 : Int32) : Option ((zSt × Int32) ⊕ (Int32)) :=
(f_L_law_1539 xs L σ l1 l2 l3 l4)
set_option maxRecDepth 20000 in
set_option maxHeartbeats 4000000 in
theorem t_L_law_1452 (B : z_B p s m #[Value.ref b] meth c D cA bs RL cL_law 9 ret) {cl sl : Nat} (hst : l.stackTraces = false) (hX : z_X bs s) (HL : z_L s bs b L xs) (hcl : cl + 1 ≤ 601024 ∧ sl + 6 ≤ 7293034)  {o1 : (zSt × Int32) ⊕ (Int32)} {σ : zSt} {l1 : Nat} {l2 : Nat} {l3 : Nat} {l4 : Int32} (hf : f_L_law_1452 xs L σ l1 l2 l3 l4 = some o1) {H : Heap} {locs : List Loc} {ls : Array Slot} (hW : z_Ok D cA bs s σ H locs) (hl : lv_has ls 9 [(0, .ref b), (1, .ref l1), (2, .ref l2), (3, .ref l3), (4, .int l4)]) (hk1 : ∀ (σ : zSt), o1 = .inl (σ, l4 + (4 : Int32)) → ∀ {H : Heap} {locs : List Loc} {ls : Array Slot}, z_Ok D cA bs s σ H locs → lv_has ls 9 [(0, .ref b), (1, .ref l1), (2, .ref l2), (3, .ref l3), (4, .int (l4 + (4 : Int32)))] → W p l e room_1 s m #[Value.ref b] below meth c H locs (cl + 1) (sl + 6) (lw_Z below #[Value.ref b] s) (F0 m 23 ls [])) (hr1 : ∀ x, o1 = .inr x → x = (1 : Int32)) : W p l e room_1 s m #[Value.ref b] below meth c H locs (cl + 1) (sl + 6) (lw_Z below #[Value.ref b] s) (F0 m 1452 ls []) := by
  have hx := B.1
  have hb := B.2.1
  have hown := B.2.2.2.1
  have hts := B.2.2.2.2.1
  unfold f_L_law_1452 at hf
  refine lv_goto (tgt := 1539) hx hb dL_law_1452 (by decide) ?_
  exact t_L_law_1539 B hst hX HL hcl hf hW hl hk1 hr1
set_option maxRecDepth 100000 in
def f_L_law_1399 (xs : Nat → Int32) (L : Nat) (σ : zSt) (l1 : Nat) (l2 : Nat) (l3 : Nat) (l4 : Int32) : Option ((zSt × Int32) ⊕ (Int32)) :=
(if z_ix (l4 + (1 : Int32)) L then (zb2 (f_L_append σ l1 (xs (l4 + (1 : Int32)).toNatClampNeg) l3) (fun r3 σ4 => (if z_ix (l4 + (1 : Int32)) L then (if z_ob σ4 l2 9 then (zb2 (f_X10_append σ4 l2 (xs (l4 + (1 : Int32)).toNatClampNeg)) (fun r8 σ9 => (if z_ob σ9 l2 9 then (zb (f_X10_thrown σ9 l2) (fun r12 => (if r12 = r3 then
(if r3 = 0 then
(if z_ar σ9 l3 2 then (if z_ix (0 : Int32) (z_ln σ9 l3) then (if (lg_cmp (z_J σ9 l3 (0 : Int32).toNatClampNeg) r8.toInt64) = 0 then
(f_L_law_1452 xs L σ9 l1 l2 l3 l4)
else
(zex (some (0 : Int32)))) else none) else none)
else
(f_L_law_1452 xs L σ9 l1 l2 l3 l4))
else
(zex (some (0 : Int32)))))) else none))) else none) else none))) else none)
set_option maxRecDepth 20000 in
set_option maxHeartbeats 4000000 in
theorem t_L_law_1399 (B : z_B p s m #[Value.ref b] meth c D cA bs RL cL_law 9 ret) {cl sl : Nat} (hst : l.stackTraces = false) (hX : z_X bs s) (HL : z_L s bs b L xs) (hcl : cl + 1 ≤ 601024 ∧ sl + 6 ≤ 7293034)  {o1 : (zSt × Int32) ⊕ (Int32)} {σ : zSt} {l1 : Nat} {l2 : Nat} {l3 : Nat} {l4 : Int32} (hf : f_L_law_1399 xs L σ l1 l2 l3 l4 = some o1) {H : Heap} {locs : List Loc} {ls : Array Slot} (hW : z_Ok D cA bs s σ H locs) (hl : lv_has ls 9 [(0, .ref b), (1, .ref l1), (2, .ref l2), (3, .ref l3), (4, .int l4)]) (hk1 : ∀ (σ : zSt), o1 = .inl (σ, l4 + (4 : Int32)) → ∀ {H : Heap} {locs : List Loc} {ls : Array Slot}, z_Ok D cA bs s σ H locs → lv_has ls 9 [(0, .ref b), (1, .ref l1), (2, .ref l2), (3, .ref l3), (4, .int (l4 + (4 : Int32)))] → W p l e room_1 s m #[Value.ref b] below meth c H locs (cl + 1) (sl + 6) (lw_Z below #[Value.ref b] s) (F0 m 23 ls [])) (hr1 : ∀ x, o1 = .inr x → x = (1 : Int32)) : W p l e room_1 s m #[Value.ref b] below meth c H locs (cl + 0) (sl + 0) (lw_Z below #[Value.ref b] s) (F0 m 1399 ls []) := by
  have hx := B.1
  have hb := B.2.1
  have hown := B.2.2.2.1
  have hts := B.2.2.2.2.1
  unfold f_L_law_1399 at hf
  refine lv_aload_n hx hb dL_law_1399 rfl (lv_at hl 1 rfl) ?_
  refine lv_aload_n hx hb dL_law_1400 rfl (lv_at hl 0 rfl) ?_
  refine lv_iload hx hb dL_law_1401 (lv_at hl 4 rfl) ?_
  refine lv_iconst (v := (1 : Int32)) hx hb dL_law_1403 (by decide) ?_
  refine lv_iadd hx hb dL_law_1404 ?_
  obtain ⟨hg1, hf⟩ := z_g hf
  refine z_sld B hW HL hg1 dL_law_1405 ?_
  refine lv_aload_n hx hb dL_law_1406 rfl (lv_at hl 3 rfl) ?_
  obtain ⟨r3, σ4, hq2, hf⟩ := z_b2 hf
  refine z_ci hW (z_runSW (As := [.ref l1, .int (xs (l4 + (1 : Int32)).toNatClampNeg), .ref l3]) (rest := []) B hX hW zl_L_167 (K_L_append hst hq2) rfl rfl (Nat.le_of_ble_eq_true rfl) hl.1 ⟨Nat.le_of_ble_eq_true rfl, Nat.le_of_ble_eq_true rfl⟩ dL_law_1407 ⟨by show (cl + 0) + 1 ≤ 601024; omega, by show (sl + 0) + 6 ≤ 7293034; omega⟩) (fun H locs hW => ?_)
  refine lv_istore (lv' := [(5, .int r3), (0, .ref b), (1, .ref l1), (2, .ref l2), (3, .ref l3), (4, .int l4)]) hx hb dL_law_1410 hl (by decide) rfl (fun ls hl => ?_)
  refine lv_aload_n hx hb dL_law_1412 rfl (lv_at hl 3 rfl) ?_
  refine lv_aload_n hx hb dL_law_1413 rfl (lv_at hl 1 rfl) ?_
  refine lv_iload hx hb dL_law_1414 (lv_at hl 5 rfl) ?_
  refine lv_iconst (v := (1 : Int32)) hx hb dL_law_1416 (by decide) ?_
  refine lv_iadd hx hb dL_law_1417 ?_
  obtain ⟨hg5, hf⟩ := z_g hf
  refine z_sld B hW HL hg5 dL_law_1418 ?_
  obtain ⟨hg6, hf⟩ := z_g hf
  obtain ⟨r8, σ9, hq7, hf⟩ := z_b2 hf
  refine z_ci hW (z_runV (As := [.int (xs (l4 + (1 : Int32)).toNatClampNeg)]) (rest := []) B hW zv_L_169 (K_X10_append hq7) hg6 rfl rfl rfl (Nat.le_of_ble_eq_true rfl) hl.1 ⟨Nat.le_of_ble_eq_true rfl, Nat.le_of_ble_eq_true rfl⟩ dL_law_1419 ⟨by show (cl + 1) + 0 ≤ 601024; omega, by show (sl + 6) + 0 ≤ 7293034; omega⟩) (fun H locs hW => ?_)
  refine lv_istore (lv' := [(6, .int r8), (5, .int r3), (0, .ref b), (1, .ref l1), (2, .ref l2), (3, .ref l3), (4, .int l4)]) hx hb dL_law_1422 hl (by decide) rfl (fun ls hl => ?_)
  refine lv_aload_n hx hb dL_law_1424 rfl (lv_at hl 4 rfl) ?_
  obtain ⟨hg10, hf⟩ := z_g hf
  obtain ⟨r12, hq11, hf⟩ := z_b hf
  refine z_ci hW (z_runV (As := []) (rest := []) B hW zv_L_90 (K_X10_thrown hq11) hg10 rfl rfl rfl (Nat.le_of_ble_eq_true rfl) hl.1 ⟨Nat.le_of_ble_eq_true rfl, Nat.le_of_ble_eq_true rfl⟩ dL_law_1425 ⟨by show (cl + 1) + 0 ≤ 601024; omega, by show (sl + 6) + 0 ≤ 7293034; omega⟩) (fun H locs hW => ?_)
  refine lv_iload hx hb dL_law_1428 (lv_at hl 1 rfl) ?_
  refine lv_icmp_eq (tgt := 1435) hx hb dL_law_1430 (by decide) (fun hc1430 => ?_) (fun hc1430 => ?_)
  · replace hf := z_ip hc1430 hf
    refine lv_iload hx hb dL_law_1435 (lv_at hl 1 rfl) ?_
    refine lv_if_ne (tgt := 1452) hx hb dL_law_1437 (by decide) (fun hc1437 => ?_) (fun hc1437 => ?_)
    · replace hf := z_in hc1437 hf
      exact t_L_law_1452 B hst hX HL hcl hf hW (lv_sub hl [2, 3, 4, 5, 6] rfl) hk1 hr1
    · replace hf := z_ip hc1437 hf
      refine lv_aload_n hx hb dL_law_1440 rfl (lv_at hl 5 rfl) ?_
      refine lv_iconst (v := (0 : Int32)) hx hb dL_law_1441 (by decide) ?_
      obtain ⟨hg13, hf⟩ := z_g hf
      obtain ⟨hg14, hf⟩ := z_g hf
      refine z_lald B hW hg13 hg14 dL_law_1442 ?_
      refine lv_iload hx hb dL_law_1443 (lv_at hl 0 rfl) ?_
      refine lv_i2l (v := r8.toInt64) hx hb dL_law_1445 rfl ?_
      refine W.lcmp hx hb dL_law_1446 ?_
      refine lv_if_eq (tgt := 1452) hx hb dL_law_1447 (by decide) (fun hc1447 => ?_) (fun hc1447 => ?_)
      · replace hf := z_ip hc1447 hf
        exact t_L_law_1452 B hst hX HL hcl hf hW (lv_sub hl [2, 3, 4, 5, 6] rfl) hk1 hr1
      · replace hf := z_in hc1447 hf
        obtain ⟨w1, hf, ho15⟩ := z_x hf
        obtain rfl := hr1 _ ho15
        refine lv_iconst (v := (0 : Int32)) hx hb dL_law_1450 (by decide) ?_
        exact absurd (Option.some.inj hf) (by decide)
  · replace hf := z_in hc1430 hf
    obtain ⟨w1, hf, ho16⟩ := z_x hf
    obtain rfl := hr1 _ ho16
    refine lv_iconst (v := (0 : Int32)) hx hb dL_law_1433 (by decide) ?_
    exact absurd (Option.some.inj hf) (by decide)
set_option maxRecDepth 100000 in
def f_L_law_1455 (xs : Nat → Int32) (L : Nat) (σ : zSt) (l1 : Nat) (l2 : Nat) (l3 : Nat) (l4 : Int32) : Option ((zSt × Int32) ⊕ (Int32)) :=
(if z_ob σ l1 8 then (zb2 (f_X9_clearText σ l1) (fun r3 σ4 => (if z_ob σ4 l2 9 then (zb2 (f_X10_clearText σ4 l2) (fun r7 σ8 => (if r3 = r7 then
(f_L_law_1539 xs L σ8 l1 l2 l3 l4)
else
(zex (some (0 : Int32)))))) else none))) else none)
set_option maxRecDepth 20000 in
set_option maxHeartbeats 4000000 in
theorem t_L_law_1455 (B : z_B p s m #[Value.ref b] meth c D cA bs RL cL_law 9 ret) {cl sl : Nat} (hst : l.stackTraces = false) (hX : z_X bs s) (HL : z_L s bs b L xs) (hcl : cl + 1 ≤ 601024 ∧ sl + 6 ≤ 7293034)  {o1 : (zSt × Int32) ⊕ (Int32)} {σ : zSt} {l1 : Nat} {l2 : Nat} {l3 : Nat} {l4 : Int32} (hf : f_L_law_1455 xs L σ l1 l2 l3 l4 = some o1) {H : Heap} {locs : List Loc} {ls : Array Slot} (hW : z_Ok D cA bs s σ H locs) (hl : lv_has ls 9 [(0, .ref b), (1, .ref l1), (2, .ref l2), (3, .ref l3), (4, .int l4)]) (hk1 : ∀ (σ : zSt), o1 = .inl (σ, l4 + (4 : Int32)) → ∀ {H : Heap} {locs : List Loc} {ls : Array Slot}, z_Ok D cA bs s σ H locs → lv_has ls 9 [(0, .ref b), (1, .ref l1), (2, .ref l2), (3, .ref l3), (4, .int (l4 + (4 : Int32)))] → W p l e room_1 s m #[Value.ref b] below meth c H locs (cl + 1) (sl + 6) (lw_Z below #[Value.ref b] s) (F0 m 23 ls [])) (hr1 : ∀ x, o1 = .inr x → x = (1 : Int32)) : W p l e room_1 s m #[Value.ref b] below meth c H locs (cl + 0) (sl + 0) (lw_Z below #[Value.ref b] s) (F0 m 1455 ls []) := by
  have hx := B.1
  have hb := B.2.1
  have hown := B.2.2.2.1
  have hts := B.2.2.2.2.1
  unfold f_L_law_1455 at hf
  refine lv_aload_n hx hb dL_law_1455 rfl (lv_at hl 1 rfl) ?_
  obtain ⟨hg1, hf⟩ := z_g hf
  obtain ⟨r3, σ4, hq2, hf⟩ := z_b2 hf
  refine z_ci hW (z_runV (As := []) (rest := []) B hW zv_L_170 (K_X9_clearText hq2) hg1 rfl rfl rfl (Nat.le_of_ble_eq_true rfl) hl.1 ⟨Nat.le_of_ble_eq_true rfl, Nat.le_of_ble_eq_true rfl⟩ dL_law_1456 ⟨by show (cl + 0) + 0 ≤ 601024; omega, by show (sl + 0) + 0 ≤ 7293034; omega⟩) (fun H locs hW => ?_)
  refine lv_aload_n hx hb dL_law_1459 rfl (lv_at hl 2 rfl) ?_
  obtain ⟨hg5, hf⟩ := z_g hf
  obtain ⟨r7, σ8, hq6, hf⟩ := z_b2 hf
  refine z_ci hW (z_runV (As := []) (rest := [.int r3]) B hW zv_L_173 (K_X10_clearText hq6) hg5 rfl rfl rfl (Nat.le_of_ble_eq_true rfl) hl.1 ⟨Nat.le_of_ble_eq_true rfl, Nat.le_of_ble_eq_true rfl⟩ dL_law_1460 ⟨by show (cl + 0) + 0 ≤ 601024; omega, by show (sl + 0) + 0 ≤ 7293034; omega⟩) (fun H locs hW => ?_)
  refine lv_icmp_eq (tgt := 1539) hx hb dL_law_1463 (by decide) (fun hc1463 => ?_) (fun hc1463 => ?_)
  · replace hf := z_ip hc1463 hf
    refine W.widen (k := cl + 1) (n := sl + 6) (by omega) (by omega) ?_
    exact t_L_law_1539 B hst hX HL hcl hf hW hl hk1 hr1
  · replace hf := z_in hc1463 hf
    obtain ⟨w1, hf, ho9⟩ := z_x hf
    obtain rfl := hr1 _ ho9
    refine lv_iconst (v := (0 : Int32)) hx hb dL_law_1466 (by decide) ?_
    exact absurd (Option.some.inj hf) (by decide)
set_option maxRecDepth 100000 in
def f_L_law_1468 (xs : Nat → Int32) (L : Nat) (σ : zSt) (l1 : Nat) (l2 : Nat) (l3 : Nat) (l4 : Int32) : Option ((zSt × Int32) ⊕ (Int32)) :=
(if z_ob σ l1 8 then (zb2 (f_X9_parse σ l1) (fun r3 σ4 => (if z_ob σ4 l2 9 then (zb2 (f_X10_parse σ4 l2) (fun r7 σ8 => (if r3 = r7 then
(f_L_law_1539 xs L σ8 l1 l2 l3 l4)
else
(zex (some (0 : Int32)))))) else none))) else none)
set_option maxRecDepth 20000 in
set_option maxHeartbeats 4000000 in
theorem t_L_law_1468 (B : z_B p s m #[Value.ref b] meth c D cA bs RL cL_law 9 ret) {cl sl : Nat} (hst : l.stackTraces = false) (hX : z_X bs s) (HL : z_L s bs b L xs) (hcl : cl + 1 ≤ 601024 ∧ sl + 6 ≤ 7293034)  {o1 : (zSt × Int32) ⊕ (Int32)} {σ : zSt} {l1 : Nat} {l2 : Nat} {l3 : Nat} {l4 : Int32} (hf : f_L_law_1468 xs L σ l1 l2 l3 l4 = some o1) {H : Heap} {locs : List Loc} {ls : Array Slot} (hW : z_Ok D cA bs s σ H locs) (hl : lv_has ls 9 [(0, .ref b), (1, .ref l1), (2, .ref l2), (3, .ref l3), (4, .int l4)]) (hk1 : ∀ (σ : zSt), o1 = .inl (σ, l4 + (4 : Int32)) → ∀ {H : Heap} {locs : List Loc} {ls : Array Slot}, z_Ok D cA bs s σ H locs → lv_has ls 9 [(0, .ref b), (1, .ref l1), (2, .ref l2), (3, .ref l3), (4, .int (l4 + (4 : Int32)))] → W p l e room_1 s m #[Value.ref b] below meth c H locs (cl + 1) (sl + 6) (lw_Z below #[Value.ref b] s) (F0 m 23 ls [])) (hr1 : ∀ x, o1 = .inr x → x = (1 : Int32)) : W p l e room_1 s m #[Value.ref b] below meth c H locs (cl + 0) (sl + 0) (lw_Z below #[Value.ref b] s) (F0 m 1468 ls []) := by
  have hx := B.1
  have hb := B.2.1
  have hown := B.2.2.2.1
  have hts := B.2.2.2.2.1
  unfold f_L_law_1468 at hf
  refine lv_aload_n hx hb dL_law_1468 rfl (lv_at hl 1 rfl) ?_
  obtain ⟨hg1, hf⟩ := z_g hf
  obtain ⟨r3, σ4, hq2, hf⟩ := z_b2 hf
  refine z_ci hW (z_runV (As := []) (rest := []) B hW zv_L_174 (K_X9_parse hq2) hg1 rfl rfl rfl (Nat.le_of_ble_eq_true rfl) hl.1 ⟨Nat.le_of_ble_eq_true rfl, Nat.le_of_ble_eq_true rfl⟩ dL_law_1469 ⟨by show (cl + 0) + 1 ≤ 601024; omega, by show (sl + 0) + 6 ≤ 7293034; omega⟩) (fun H locs hW => ?_)
  refine lv_aload_n hx hb dL_law_1472 rfl (lv_at hl 2 rfl) ?_
  obtain ⟨hg5, hf⟩ := z_g hf
  obtain ⟨r7, σ8, hq6, hf⟩ := z_b2 hf
  refine z_ci hW (z_runV (As := []) (rest := [.int r3]) B hW zv_L_177 (K_X10_parse hq6) hg5 rfl rfl rfl (Nat.le_of_ble_eq_true rfl) hl.1 ⟨Nat.le_of_ble_eq_true rfl, Nat.le_of_ble_eq_true rfl⟩ dL_law_1473 ⟨by show (cl + 1) + 0 ≤ 601024; omega, by show (sl + 6) + 0 ≤ 7293034; omega⟩) (fun H locs hW => ?_)
  refine lv_icmp_eq (tgt := 1539) hx hb dL_law_1476 (by decide) (fun hc1476 => ?_) (fun hc1476 => ?_)
  · replace hf := z_ip hc1476 hf
    exact t_L_law_1539 B hst hX HL hcl hf hW hl hk1 hr1
  · replace hf := z_in hc1476 hf
    obtain ⟨w1, hf, ho9⟩ := z_x hf
    obtain rfl := hr1 _ ho9
    refine lv_iconst (v := (0 : Int32)) hx hb dL_law_1479 (by decide) ?_
    exact absurd (Option.some.inj hf) (by decide)
set_option maxRecDepth 100000 in
def f_L_law_1522 (xs : Nat → Int32) (L : Nat) (σ : zSt) (l1 : Nat) (l2 : Nat) (l3 : Nat) (l4 : Int32) : Option ((zSt × Int32) ⊕ (Int32)) :=
(f_L_law_1539 xs L σ l1 l2 l3 l4)
set_option maxRecDepth 20000 in
set_option maxHeartbeats 4000000 in
theorem t_L_law_1522 (B : z_B p s m #[Value.ref b] meth c D cA bs RL cL_law 9 ret) {cl sl : Nat} (hst : l.stackTraces = false) (hX : z_X bs s) (HL : z_L s bs b L xs) (hcl : cl + 1 ≤ 601024 ∧ sl + 6 ≤ 7293034)  {o1 : (zSt × Int32) ⊕ (Int32)} {σ : zSt} {l1 : Nat} {l2 : Nat} {l3 : Nat} {l4 : Int32} (hf : f_L_law_1522 xs L σ l1 l2 l3 l4 = some o1) {H : Heap} {locs : List Loc} {ls : Array Slot} (hW : z_Ok D cA bs s σ H locs) (hl : lv_has ls 9 [(0, .ref b), (1, .ref l1), (2, .ref l2), (3, .ref l3), (4, .int l4)]) (hk1 : ∀ (σ : zSt), o1 = .inl (σ, l4 + (4 : Int32)) → ∀ {H : Heap} {locs : List Loc} {ls : Array Slot}, z_Ok D cA bs s σ H locs → lv_has ls 9 [(0, .ref b), (1, .ref l1), (2, .ref l2), (3, .ref l3), (4, .int (l4 + (4 : Int32)))] → W p l e room_1 s m #[Value.ref b] below meth c H locs (cl + 1) (sl + 6) (lw_Z below #[Value.ref b] s) (F0 m 23 ls [])) (hr1 : ∀ x, o1 = .inr x → x = (1 : Int32)) : W p l e room_1 s m #[Value.ref b] below meth c H locs (cl + 1) (sl + 6) (lw_Z below #[Value.ref b] s) (F0 m 1522 ls []) := by
  have hx := B.1
  have hb := B.2.1
  have hown := B.2.2.2.1
  have hts := B.2.2.2.2.1
  unfold f_L_law_1522 at hf
  refine lv_goto (tgt := 1539) hx hb dL_law_1522 (by decide) ?_
  exact t_L_law_1539 B hst hX HL hcl hf hW hl hk1 hr1
set_option maxRecDepth 100000 in
def f_L_law_1481 (xs : Nat → Int32) (L : Nat) (σ : zSt) (l1 : Nat) (l2 : Nat) (l3 : Nat) (l4 : Int32) : Option ((zSt × Int32) ⊕ (Int32)) :=
(zb2 (f_L_undo σ l1 l3) (fun r2 σ3 => (if z_ob σ3 l2 9 then (zb2 (f_X10_undo σ3 l2) (fun r6 σ7 => (if z_ob σ7 l2 9 then (zb (f_X10_thrown σ7 l2) (fun r10 => (if r10 = r2 then
(if r2 = 0 then
(if z_ar σ7 l3 2 then (if z_ix (0 : Int32) (z_ln σ7 l3) then (if (lg_cmp (z_J σ7 l3 (0 : Int32).toNatClampNeg) r6.toInt64) = 0 then
(f_L_law_1522 xs L σ7 l1 l2 l3 l4)
else
(zex (some (0 : Int32)))) else none) else none)
else
(f_L_law_1522 xs L σ7 l1 l2 l3 l4))
else
(zex (some (0 : Int32)))))) else none))) else none)))
set_option maxRecDepth 20000 in
set_option maxHeartbeats 4000000 in
theorem t_L_law_1481 (B : z_B p s m #[Value.ref b] meth c D cA bs RL cL_law 9 ret) {cl sl : Nat} (hst : l.stackTraces = false) (hX : z_X bs s) (HL : z_L s bs b L xs) (hcl : cl + 1 ≤ 601024 ∧ sl + 6 ≤ 7293034)  {o1 : (zSt × Int32) ⊕ (Int32)} {σ : zSt} {l1 : Nat} {l2 : Nat} {l3 : Nat} {l4 : Int32} (hf : f_L_law_1481 xs L σ l1 l2 l3 l4 = some o1) {H : Heap} {locs : List Loc} {ls : Array Slot} (hW : z_Ok D cA bs s σ H locs) (hl : lv_has ls 9 [(0, .ref b), (1, .ref l1), (2, .ref l2), (3, .ref l3), (4, .int l4)]) (hk1 : ∀ (σ : zSt), o1 = .inl (σ, l4 + (4 : Int32)) → ∀ {H : Heap} {locs : List Loc} {ls : Array Slot}, z_Ok D cA bs s σ H locs → lv_has ls 9 [(0, .ref b), (1, .ref l1), (2, .ref l2), (3, .ref l3), (4, .int (l4 + (4 : Int32)))] → W p l e room_1 s m #[Value.ref b] below meth c H locs (cl + 1) (sl + 6) (lw_Z below #[Value.ref b] s) (F0 m 23 ls [])) (hr1 : ∀ x, o1 = .inr x → x = (1 : Int32)) : W p l e room_1 s m #[Value.ref b] below meth c H locs (cl + 0) (sl + 0) (lw_Z below #[Value.ref b] s) (F0 m 1481 ls []) := by
  have hx := B.1
  have hb := B.2.1
  have hown := B.2.2.2.1
  have hts := B.2.2.2.2.1
  unfold f_L_law_1481 at hf
  refine lv_aload_n hx hb dL_law_1481 rfl (lv_at hl 1 rfl) ?_
  refine lv_aload_n hx hb dL_law_1482 rfl (lv_at hl 3 rfl) ?_
  obtain ⟨r2, σ3, hq1, hf⟩ := z_b2 hf
  refine z_ci hW (z_runSW (As := [.ref l1, .ref l3]) (rest := []) B hX hW zl_L_178 (K_L_undo hst hq1) rfl rfl (Nat.le_of_ble_eq_true rfl) hl.1 ⟨Nat.le_of_ble_eq_true rfl, Nat.le_of_ble_eq_true rfl⟩ dL_law_1483 ⟨by show (cl + 0) + 1 ≤ 601024; omega, by show (sl + 0) + 6 ≤ 7293034; omega⟩) (fun H locs hW => ?_)
  refine lv_istore (lv' := [(5, .int r2), (0, .ref b), (1, .ref l1), (2, .ref l2), (3, .ref l3), (4, .int l4)]) hx hb dL_law_1486 hl (by decide) rfl (fun ls hl => ?_)
  refine lv_aload_n hx hb dL_law_1488 rfl (lv_at hl 3 rfl) ?_
  obtain ⟨hg4, hf⟩ := z_g hf
  obtain ⟨r6, σ7, hq5, hf⟩ := z_b2 hf
  refine z_ci hW (z_runV (As := []) (rest := []) B hW zv_L_180 (K_X10_undo hq5) hg4 rfl rfl rfl (Nat.le_of_ble_eq_true rfl) hl.1 ⟨Nat.le_of_ble_eq_true rfl, Nat.le_of_ble_eq_true rfl⟩ dL_law_1489 ⟨by show (cl + 1) + 0 ≤ 601024; omega, by show (sl + 6) + 0 ≤ 7293034; omega⟩) (fun H locs hW => ?_)
  refine lv_istore (lv' := [(6, .int r6), (5, .int r2), (0, .ref b), (1, .ref l1), (2, .ref l2), (3, .ref l3), (4, .int l4)]) hx hb dL_law_1492 hl (by decide) rfl (fun ls hl => ?_)
  refine lv_aload_n hx hb dL_law_1494 rfl (lv_at hl 4 rfl) ?_
  obtain ⟨hg8, hf⟩ := z_g hf
  obtain ⟨r10, hq9, hf⟩ := z_b hf
  refine z_ci hW (z_runV (As := []) (rest := []) B hW zv_L_90 (K_X10_thrown hq9) hg8 rfl rfl rfl (Nat.le_of_ble_eq_true rfl) hl.1 ⟨Nat.le_of_ble_eq_true rfl, Nat.le_of_ble_eq_true rfl⟩ dL_law_1495 ⟨by show (cl + 1) + 0 ≤ 601024; omega, by show (sl + 6) + 0 ≤ 7293034; omega⟩) (fun H locs hW => ?_)
  refine lv_iload hx hb dL_law_1498 (lv_at hl 1 rfl) ?_
  refine lv_icmp_eq (tgt := 1505) hx hb dL_law_1500 (by decide) (fun hc1500 => ?_) (fun hc1500 => ?_)
  · replace hf := z_ip hc1500 hf
    refine lv_iload hx hb dL_law_1505 (lv_at hl 1 rfl) ?_
    refine lv_if_ne (tgt := 1522) hx hb dL_law_1507 (by decide) (fun hc1507 => ?_) (fun hc1507 => ?_)
    · replace hf := z_in hc1507 hf
      exact t_L_law_1522 B hst hX HL hcl hf hW (lv_sub hl [2, 3, 4, 5, 6] rfl) hk1 hr1
    · replace hf := z_ip hc1507 hf
      refine lv_aload_n hx hb dL_law_1510 rfl (lv_at hl 5 rfl) ?_
      refine lv_iconst (v := (0 : Int32)) hx hb dL_law_1511 (by decide) ?_
      obtain ⟨hg11, hf⟩ := z_g hf
      obtain ⟨hg12, hf⟩ := z_g hf
      refine z_lald B hW hg11 hg12 dL_law_1512 ?_
      refine lv_iload hx hb dL_law_1513 (lv_at hl 0 rfl) ?_
      refine lv_i2l (v := r6.toInt64) hx hb dL_law_1515 rfl ?_
      refine W.lcmp hx hb dL_law_1516 ?_
      refine lv_if_eq (tgt := 1522) hx hb dL_law_1517 (by decide) (fun hc1517 => ?_) (fun hc1517 => ?_)
      · replace hf := z_ip hc1517 hf
        exact t_L_law_1522 B hst hX HL hcl hf hW (lv_sub hl [2, 3, 4, 5, 6] rfl) hk1 hr1
      · replace hf := z_in hc1517 hf
        obtain ⟨w1, hf, ho13⟩ := z_x hf
        obtain rfl := hr1 _ ho13
        refine lv_iconst (v := (0 : Int32)) hx hb dL_law_1520 (by decide) ?_
        exact absurd (Option.some.inj hf) (by decide)
  · replace hf := z_in hc1500 hf
    obtain ⟨w1, hf, ho14⟩ := z_x hf
    obtain rfl := hr1 _ ho14
    refine lv_iconst (v := (0 : Int32)) hx hb dL_law_1503 (by decide) ?_
    exact absurd (Option.some.inj hf) (by decide)
set_option maxRecDepth 100000 in
def f_L_law_1525 (xs : Nat → Int32) (L : Nat) (σ : zSt) (l1 : Nat) (l2 : Nat) (l3 : Nat) (l4 : Int32) : Option ((zSt × Int32) ⊕ (Int32)) :=
(if z_ob σ l1 8 then (zb (f_X9_digest σ l1) (fun r3 => (if z_ob σ l2 9 then (zb2 (f_X10_digest σ l2) (fun r6 σ7 => (if (lg_cmp r3 r6) = 0 then
(f_L_law_1539 xs L σ7 l1 l2 l3 l4)
else
(zex (some (0 : Int32)))))) else none))) else none)
set_option maxRecDepth 20000 in
set_option maxHeartbeats 4000000 in
theorem t_L_law_1525 (B : z_B p s m #[Value.ref b] meth c D cA bs RL cL_law 9 ret) {cl sl : Nat} (hst : l.stackTraces = false) (hX : z_X bs s) (HL : z_L s bs b L xs) (hcl : cl + 1 ≤ 601024 ∧ sl + 6 ≤ 7293034)  {o1 : (zSt × Int32) ⊕ (Int32)} {σ : zSt} {l1 : Nat} {l2 : Nat} {l3 : Nat} {l4 : Int32} (hf : f_L_law_1525 xs L σ l1 l2 l3 l4 = some o1) {H : Heap} {locs : List Loc} {ls : Array Slot} (hW : z_Ok D cA bs s σ H locs) (hl : lv_has ls 9 [(0, .ref b), (1, .ref l1), (2, .ref l2), (3, .ref l3), (4, .int l4)]) (hk1 : ∀ (σ : zSt), o1 = .inl (σ, l4 + (4 : Int32)) → ∀ {H : Heap} {locs : List Loc} {ls : Array Slot}, z_Ok D cA bs s σ H locs → lv_has ls 9 [(0, .ref b), (1, .ref l1), (2, .ref l2), (3, .ref l3), (4, .int (l4 + (4 : Int32)))] → W p l e room_1 s m #[Value.ref b] below meth c H locs (cl + 1) (sl + 6) (lw_Z below #[Value.ref b] s) (F0 m 23 ls [])) (hr1 : ∀ x, o1 = .inr x → x = (1 : Int32)) : W p l e room_1 s m #[Value.ref b] below meth c H locs (cl + 0) (sl + 0) (lw_Z below #[Value.ref b] s) (F0 m 1525 ls []) := by
  have hx := B.1
  have hb := B.2.1
  have hown := B.2.2.2.1
  have hts := B.2.2.2.2.1
  unfold f_L_law_1525 at hf
  refine lv_aload_n hx hb dL_law_1525 rfl (lv_at hl 1 rfl) ?_
  obtain ⟨hg1, hf⟩ := z_g hf
  obtain ⟨r3, hq2, hf⟩ := z_b hf
  refine z_cl hW (z_runV (As := []) (rest := []) B hW zv_L_181 (K_X9_digest hq2) hg1 rfl rfl rfl (Nat.le_of_ble_eq_true rfl) hl.1 ⟨Nat.le_of_ble_eq_true rfl, Nat.le_of_ble_eq_true rfl⟩ dL_law_1526 ⟨by show (cl + 0) + 0 ≤ 601024; omega, by show (sl + 0) + 0 ≤ 7293034; omega⟩) (fun H locs hW => ?_)
  refine lv_aload_n hx hb dL_law_1529 rfl (lv_at hl 2 rfl) ?_
  obtain ⟨hg4, hf⟩ := z_g hf
  obtain ⟨r6, σ7, hq5, hf⟩ := z_b2 hf
  refine z_cl hW (z_runV (As := []) (rest := [.long r3]) B hW zv_L_185 (K_X10_digest hq5) hg4 rfl rfl rfl (Nat.le_of_ble_eq_true rfl) hl.1 ⟨Nat.le_of_ble_eq_true rfl, Nat.le_of_ble_eq_true rfl⟩ dL_law_1530 ⟨by show (cl + 0) + 0 ≤ 601024; omega, by show (sl + 0) + 0 ≤ 7293034; omega⟩) (fun H locs hW => ?_)
  refine W.lcmp hx hb dL_law_1533 ?_
  refine lv_if_eq (tgt := 1539) hx hb dL_law_1534 (by decide) (fun hc1534 => ?_) (fun hc1534 => ?_)
  · replace hf := z_ip hc1534 hf
    refine W.widen (k := cl + 1) (n := sl + 6) (by omega) (by omega) ?_
    exact t_L_law_1539 B hst hX HL hcl hf hW hl hk1 hr1
  · replace hf := z_in hc1534 hf
    obtain ⟨w1, hf, ho8⟩ := z_x hf
    obtain rfl := hr1 _ ho8
    refine lv_iconst (v := (0 : Int32)) hx hb dL_law_1537 (by decide) ?_
    exact absurd (Option.some.inj hf) (by decide)
set_option maxRecDepth 100000 in
def b_L_law_23 (xs : Nat → Int32) (L : Nat) (l1 : Nat) (l2 : Nat) (l3 : Nat) (σ : zSt) (l4 : Int32) : Option ((zSt × Int32) ⊕ (Int32)) :=
(if z_lim l4 then (if ((Int32.ofNat L) - (4 : Int32)) < l4 then
(zex (some (1 : Int32)))
else
(if z_ix l4 L then (if ((xs l4.toNatClampNeg) &&& (31 : Int32)) = (0 : Int32) then
(f_L_law_160 xs L σ l1 l2 l3 l4)
else
(if ((xs l4.toNatClampNeg) &&& (31 : Int32)) = (1 : Int32) then
(f_L_law_216 xs L σ l1 l2 l3 l4)
else
(if ((xs l4.toNatClampNeg) &&& (31 : Int32)) = (2 : Int32) then
(f_L_law_307 xs L σ l1 l2 l3 l4)
else
(if ((xs l4.toNatClampNeg) &&& (31 : Int32)) = (3 : Int32) then
(f_L_law_387 xs L σ l1 l2 l3 l4)
else
(if ((xs l4.toNatClampNeg) &&& (31 : Int32)) = (4 : Int32) then
(f_L_law_467 xs L σ l1 l2 l3 l4)
else
(if ((xs l4.toNatClampNeg) &&& (31 : Int32)) = (5 : Int32) then
(f_L_law_535 xs L σ l1 l2 l3 l4)
else
(if ((xs l4.toNatClampNeg) &&& (31 : Int32)) = (6 : Int32) then
(f_L_law_591 xs L σ l1 l2 l3 l4)
else
(if ((xs l4.toNatClampNeg) &&& (31 : Int32)) = (7 : Int32) then
(f_L_law_604 xs L σ l1 l2 l3 l4)
else
(if ((xs l4.toNatClampNeg) &&& (31 : Int32)) = (8 : Int32) then
(f_L_law_660 xs L σ l1 l2 l3 l4)
else
(if ((xs l4.toNatClampNeg) &&& (31 : Int32)) = (9 : Int32) then
(f_L_law_728 xs L σ l1 l2 l3 l4)
else
(if ((xs l4.toNatClampNeg) &&& (31 : Int32)) = (10 : Int32) then
(f_L_law_784 xs L σ l1 l2 l3 l4)
else
(if ((xs l4.toNatClampNeg) &&& (31 : Int32)) = (11 : Int32) then
(f_L_law_852 xs L σ l1 l2 l3 l4)
else
(if ((xs l4.toNatClampNeg) &&& (31 : Int32)) = (12 : Int32) then
(f_L_law_920 xs L σ l1 l2 l3 l4)
else
(if ((xs l4.toNatClampNeg) &&& (31 : Int32)) = (13 : Int32) then
(f_L_law_976 xs L σ l1 l2 l3 l4)
else
(if ((xs l4.toNatClampNeg) &&& (31 : Int32)) = (14 : Int32) then
(f_L_law_1039 xs L σ l1 l2 l3 l4)
else
(if ((xs l4.toNatClampNeg) &&& (31 : Int32)) = (15 : Int32) then
(f_L_law_1052 xs L σ l1 l2 l3 l4)
else
(if ((xs l4.toNatClampNeg) &&& (31 : Int32)) = (16 : Int32) then
(f_L_law_1120 xs L σ l1 l2 l3 l4)
else
(if ((xs l4.toNatClampNeg) &&& (31 : Int32)) = (17 : Int32) then
(f_L_law_1133 xs L σ l1 l2 l3 l4)
else
(if ((xs l4.toNatClampNeg) &&& (31 : Int32)) = (18 : Int32) then
(f_L_law_1202 xs L σ l1 l2 l3 l4)
else
(if ((xs l4.toNatClampNeg) &&& (31 : Int32)) = (19 : Int32) then
(f_L_law_1243 xs L σ l1 l2 l3 l4)
else
(if ((xs l4.toNatClampNeg) &&& (31 : Int32)) = (20 : Int32) then
(f_L_law_1299 xs L σ l1 l2 l3 l4)
else
(if ((xs l4.toNatClampNeg) &&& (31 : Int32)) = (21 : Int32) then
(f_L_law_1343 xs L σ l1 l2 l3 l4)
else
(if ((xs l4.toNatClampNeg) &&& (31 : Int32)) = (22 : Int32) then
(f_L_law_1399 xs L σ l1 l2 l3 l4)
else
(if ((xs l4.toNatClampNeg) &&& (31 : Int32)) = (23 : Int32) then
(f_L_law_1455 xs L σ l1 l2 l3 l4)
else
(if ((xs l4.toNatClampNeg) &&& (31 : Int32)) = (24 : Int32) then
(f_L_law_1468 xs L σ l1 l2 l3 l4)
else
(if ((xs l4.toNatClampNeg) &&& (31 : Int32)) = (25 : Int32) then
(f_L_law_1481 xs L σ l1 l2 l3 l4)
else
(if ((xs l4.toNatClampNeg) &&& (31 : Int32)) = (26 : Int32) then
(f_L_law_1525 xs L σ l1 l2 l3 l4)
else
(f_L_law_1539 xs L σ l1 l2 l3 l4)))))))))))))))))))))))))))) else none)) else none)
set_option maxRecDepth 100000 in
def f_L_law_23 (xs : Nat → Int32) (L : Nat) (l1 : Nat) (l2 : Nat) (l3 : Nat) (σ : zSt) (l4 : Int32) : Option (Int32) := zloop (fun (t : zSt × Int32) => b_L_law_23 xs L l1 l2 l3 t.1 t.2) zN (σ, l4)
set_option maxRecDepth 20000 in
set_option maxHeartbeats 4000000 in
theorem tb_L_law_23 (B : z_B p s m #[Value.ref b] meth c D cA bs RL cL_law 9 ret) {cl sl : Nat} (hst : l.stackTraces = false) (hX : z_X bs s) (HL : z_L s bs b L xs) (hcl : cl + 1 ≤ 601024 ∧ sl + 6 ≤ 7293034)  {o1 : (zSt × Int32) ⊕ (Int32)} {l1 : Nat} {l2 : Nat} {l3 : Nat} {σ : zSt} {l4 : Int32} (hf : b_L_law_23 xs L l1 l2 l3 σ l4 = some o1) {H : Heap} {locs : List Loc} {ls : Array Slot} (hW : z_Ok D cA bs s σ H locs) (hl : lv_has ls 9 [(0, .ref b), (1, .ref l1), (2, .ref l2), (3, .ref l3), (4, .int l4)]) (hk1 : ∀ (σ : zSt), o1 = .inl (σ, l4 + (4 : Int32)) → ∀ {H : Heap} {locs : List Loc} {ls : Array Slot}, z_Ok D cA bs s σ H locs → lv_has ls 9 [(0, .ref b), (1, .ref l1), (2, .ref l2), (3, .ref l3), (4, .int (l4 + (4 : Int32)))] → W p l e room_1 s m #[Value.ref b] below meth c H locs (cl + 1) (sl + 6) (lw_Z below #[Value.ref b] s) (F0 m 23 ls [])) (hr1 : ∀ x, o1 = .inr x → x = (1 : Int32)) : W p l e room_1 s m #[Value.ref b] below meth c H locs (cl + 0) (sl + 0) (lw_Z below #[Value.ref b] s) (F0 m 23 ls []) := by
  have hx := B.1
  have hb := B.2.1
  have hown := B.2.2.2.1
  have hts := B.2.2.2.2.1
  unfold b_L_law_23 at hf
  obtain ⟨hlim, hf⟩ := z_g hf
  refine lv_iload hx hb dL_law_23 (lv_at hl 4 rfl) ?_
  refine lv_aload_n hx hb dL_law_25 rfl (lv_at hl 0 rfl) ?_
  refine z_slen B hW HL dL_law_26 ?_
  refine lv_iconst (v := (4 : Int32)) hx hb dL_law_27 (by decide) ?_
  refine lv_isub hx hb dL_law_28 ?_
  refine lv_icmp_gt (tgt := 1545) hx hb dL_law_29 (by decide) (fun hc29 => ?_) (fun hc29 => ?_)
  · replace hf := z_ip hc29 hf
    obtain ⟨w1, hf, ho1⟩ := z_x hf
    obtain rfl := hr1 _ ho1
    refine lv_iconst (v := (1 : Int32)) hx hb dL_law_1545 (by decide) ?_
    exact z_rlaw B hW HL dL_law_1546 (by omega) (by omega)
  · replace hf := z_in hc29 hf
    refine lv_aload_n hx hb dL_law_32 rfl (lv_at hl 0 rfl) ?_
    refine lv_iload hx hb dL_law_33 (lv_at hl 4 rfl) ?_
    obtain ⟨hg2, hf⟩ := z_g hf
    refine z_sld B hW HL hg2 dL_law_35 ?_
    refine lv_bipush (v := (31 : Int32)) hx hb dL_law_36 (by decide) ?_
    refine lv_iand hx hb dL_law_38 ?_
    by_cases hw0 : ((xs l4.toNatClampNeg) &&& (31 : Int32)) = (0 : Int32)
    · replace hf := z_ip hw0 hf
      refine lv_tableIn (tgt := 160) (off := 121) hx hb dL_law_39 (by rw [hw0]; decide) (by rw [hw0]; decide) (by rw [hw0]; decide) (by decide) ?_
      exact t_L_law_160 B hst hX HL hcl hf hW hl hk1 hr1
    replace hf := z_in hw0 hf
    by_cases hw1 : ((xs l4.toNatClampNeg) &&& (31 : Int32)) = (1 : Int32)
    · replace hf := z_ip hw1 hf
      refine lv_tableIn (tgt := 216) (off := 177) hx hb dL_law_39 (by rw [hw1]; decide) (by rw [hw1]; decide) (by rw [hw1]; decide) (by decide) ?_
      exact t_L_law_216 B hst hX HL hcl hf hW hl hk1 hr1
    replace hf := z_in hw1 hf
    by_cases hw2 : ((xs l4.toNatClampNeg) &&& (31 : Int32)) = (2 : Int32)
    · replace hf := z_ip hw2 hf
      refine lv_tableIn (tgt := 307) (off := 268) hx hb dL_law_39 (by rw [hw2]; decide) (by rw [hw2]; decide) (by rw [hw2]; decide) (by decide) ?_
      exact t_L_law_307 B hst hX HL hcl hf hW hl hk1 hr1
    replace hf := z_in hw2 hf
    by_cases hw3 : ((xs l4.toNatClampNeg) &&& (31 : Int32)) = (3 : Int32)
    · replace hf := z_ip hw3 hf
      refine lv_tableIn (tgt := 387) (off := 348) hx hb dL_law_39 (by rw [hw3]; decide) (by rw [hw3]; decide) (by rw [hw3]; decide) (by decide) ?_
      exact t_L_law_387 B hst hX HL hcl hf hW hl hk1 hr1
    replace hf := z_in hw3 hf
    by_cases hw4 : ((xs l4.toNatClampNeg) &&& (31 : Int32)) = (4 : Int32)
    · replace hf := z_ip hw4 hf
      refine lv_tableIn (tgt := 467) (off := 428) hx hb dL_law_39 (by rw [hw4]; decide) (by rw [hw4]; decide) (by rw [hw4]; decide) (by decide) ?_
      exact t_L_law_467 B hst hX HL hcl hf hW hl hk1 hr1
    replace hf := z_in hw4 hf
    by_cases hw5 : ((xs l4.toNatClampNeg) &&& (31 : Int32)) = (5 : Int32)
    · replace hf := z_ip hw5 hf
      refine lv_tableIn (tgt := 535) (off := 496) hx hb dL_law_39 (by rw [hw5]; decide) (by rw [hw5]; decide) (by rw [hw5]; decide) (by decide) ?_
      exact t_L_law_535 B hst hX HL hcl hf hW hl hk1 hr1
    replace hf := z_in hw5 hf
    by_cases hw6 : ((xs l4.toNatClampNeg) &&& (31 : Int32)) = (6 : Int32)
    · replace hf := z_ip hw6 hf
      refine lv_tableIn (tgt := 591) (off := 552) hx hb dL_law_39 (by rw [hw6]; decide) (by rw [hw6]; decide) (by rw [hw6]; decide) (by decide) ?_
      exact t_L_law_591 B hst hX HL hcl hf hW hl hk1 hr1
    replace hf := z_in hw6 hf
    by_cases hw7 : ((xs l4.toNatClampNeg) &&& (31 : Int32)) = (7 : Int32)
    · replace hf := z_ip hw7 hf
      refine lv_tableIn (tgt := 604) (off := 565) hx hb dL_law_39 (by rw [hw7]; decide) (by rw [hw7]; decide) (by rw [hw7]; decide) (by decide) ?_
      exact t_L_law_604 B hst hX HL hcl hf hW hl hk1 hr1
    replace hf := z_in hw7 hf
    by_cases hw8 : ((xs l4.toNatClampNeg) &&& (31 : Int32)) = (8 : Int32)
    · replace hf := z_ip hw8 hf
      refine lv_tableIn (tgt := 660) (off := 621) hx hb dL_law_39 (by rw [hw8]; decide) (by rw [hw8]; decide) (by rw [hw8]; decide) (by decide) ?_
      exact t_L_law_660 B hst hX HL hcl hf hW hl hk1 hr1
    replace hf := z_in hw8 hf
    by_cases hw9 : ((xs l4.toNatClampNeg) &&& (31 : Int32)) = (9 : Int32)
    · replace hf := z_ip hw9 hf
      refine lv_tableIn (tgt := 728) (off := 689) hx hb dL_law_39 (by rw [hw9]; decide) (by rw [hw9]; decide) (by rw [hw9]; decide) (by decide) ?_
      exact t_L_law_728 B hst hX HL hcl hf hW hl hk1 hr1
    replace hf := z_in hw9 hf
    by_cases hw10 : ((xs l4.toNatClampNeg) &&& (31 : Int32)) = (10 : Int32)
    · replace hf := z_ip hw10 hf
      refine lv_tableIn (tgt := 784) (off := 745) hx hb dL_law_39 (by rw [hw10]; decide) (by rw [hw10]; decide) (by rw [hw10]; decide) (by decide) ?_
      exact t_L_law_784 B hst hX HL hcl hf hW hl hk1 hr1
    replace hf := z_in hw10 hf
    by_cases hw11 : ((xs l4.toNatClampNeg) &&& (31 : Int32)) = (11 : Int32)
    · replace hf := z_ip hw11 hf
      refine lv_tableIn (tgt := 852) (off := 813) hx hb dL_law_39 (by rw [hw11]; decide) (by rw [hw11]; decide) (by rw [hw11]; decide) (by decide) ?_
      exact t_L_law_852 B hst hX HL hcl hf hW hl hk1 hr1
    replace hf := z_in hw11 hf
    by_cases hw12 : ((xs l4.toNatClampNeg) &&& (31 : Int32)) = (12 : Int32)
    · replace hf := z_ip hw12 hf
      refine lv_tableIn (tgt := 920) (off := 881) hx hb dL_law_39 (by rw [hw12]; decide) (by rw [hw12]; decide) (by rw [hw12]; decide) (by decide) ?_
      exact t_L_law_920 B hst hX HL hcl hf hW hl hk1 hr1
    replace hf := z_in hw12 hf
    by_cases hw13 : ((xs l4.toNatClampNeg) &&& (31 : Int32)) = (13 : Int32)
    · replace hf := z_ip hw13 hf
      refine lv_tableIn (tgt := 976) (off := 937) hx hb dL_law_39 (by rw [hw13]; decide) (by rw [hw13]; decide) (by rw [hw13]; decide) (by decide) ?_
      exact t_L_law_976 B hst hX HL hcl hf hW hl hk1 hr1
    replace hf := z_in hw13 hf
    by_cases hw14 : ((xs l4.toNatClampNeg) &&& (31 : Int32)) = (14 : Int32)
    · replace hf := z_ip hw14 hf
      refine lv_tableIn (tgt := 1039) (off := 1000) hx hb dL_law_39 (by rw [hw14]; decide) (by rw [hw14]; decide) (by rw [hw14]; decide) (by decide) ?_
      exact t_L_law_1039 B hst hX HL hcl hf hW hl hk1 hr1
    replace hf := z_in hw14 hf
    by_cases hw15 : ((xs l4.toNatClampNeg) &&& (31 : Int32)) = (15 : Int32)
    · replace hf := z_ip hw15 hf
      refine lv_tableIn (tgt := 1052) (off := 1013) hx hb dL_law_39 (by rw [hw15]; decide) (by rw [hw15]; decide) (by rw [hw15]; decide) (by decide) ?_
      exact t_L_law_1052 B hst hX HL hcl hf hW hl hk1 hr1
    replace hf := z_in hw15 hf
    by_cases hw16 : ((xs l4.toNatClampNeg) &&& (31 : Int32)) = (16 : Int32)
    · replace hf := z_ip hw16 hf
      refine lv_tableIn (tgt := 1120) (off := 1081) hx hb dL_law_39 (by rw [hw16]; decide) (by rw [hw16]; decide) (by rw [hw16]; decide) (by decide) ?_
      exact t_L_law_1120 B hst hX HL hcl hf hW hl hk1 hr1
    replace hf := z_in hw16 hf
    by_cases hw17 : ((xs l4.toNatClampNeg) &&& (31 : Int32)) = (17 : Int32)
    · replace hf := z_ip hw17 hf
      refine lv_tableIn (tgt := 1133) (off := 1094) hx hb dL_law_39 (by rw [hw17]; decide) (by rw [hw17]; decide) (by rw [hw17]; decide) (by decide) ?_
      exact t_L_law_1133 B hst hX HL hcl hf hW hl hk1 hr1
    replace hf := z_in hw17 hf
    by_cases hw18 : ((xs l4.toNatClampNeg) &&& (31 : Int32)) = (18 : Int32)
    · replace hf := z_ip hw18 hf
      refine lv_tableIn (tgt := 1202) (off := 1163) hx hb dL_law_39 (by rw [hw18]; decide) (by rw [hw18]; decide) (by rw [hw18]; decide) (by decide) ?_
      exact t_L_law_1202 B hst hX HL hcl hf hW hl hk1 hr1
    replace hf := z_in hw18 hf
    by_cases hw19 : ((xs l4.toNatClampNeg) &&& (31 : Int32)) = (19 : Int32)
    · replace hf := z_ip hw19 hf
      refine lv_tableIn (tgt := 1243) (off := 1204) hx hb dL_law_39 (by rw [hw19]; decide) (by rw [hw19]; decide) (by rw [hw19]; decide) (by decide) ?_
      exact t_L_law_1243 B hst hX HL hcl hf hW hl hk1 hr1
    replace hf := z_in hw19 hf
    by_cases hw20 : ((xs l4.toNatClampNeg) &&& (31 : Int32)) = (20 : Int32)
    · replace hf := z_ip hw20 hf
      refine lv_tableIn (tgt := 1299) (off := 1260) hx hb dL_law_39 (by rw [hw20]; decide) (by rw [hw20]; decide) (by rw [hw20]; decide) (by decide) ?_
      exact t_L_law_1299 B hst hX HL hcl hf hW hl hk1 hr1
    replace hf := z_in hw20 hf
    by_cases hw21 : ((xs l4.toNatClampNeg) &&& (31 : Int32)) = (21 : Int32)
    · replace hf := z_ip hw21 hf
      refine lv_tableIn (tgt := 1343) (off := 1304) hx hb dL_law_39 (by rw [hw21]; decide) (by rw [hw21]; decide) (by rw [hw21]; decide) (by decide) ?_
      exact t_L_law_1343 B hst hX HL hcl hf hW hl hk1 hr1
    replace hf := z_in hw21 hf
    by_cases hw22 : ((xs l4.toNatClampNeg) &&& (31 : Int32)) = (22 : Int32)
    · replace hf := z_ip hw22 hf
      refine lv_tableIn (tgt := 1399) (off := 1360) hx hb dL_law_39 (by rw [hw22]; decide) (by rw [hw22]; decide) (by rw [hw22]; decide) (by decide) ?_
      exact t_L_law_1399 B hst hX HL hcl hf hW hl hk1 hr1
    replace hf := z_in hw22 hf
    by_cases hw23 : ((xs l4.toNatClampNeg) &&& (31 : Int32)) = (23 : Int32)
    · replace hf := z_ip hw23 hf
      refine lv_tableIn (tgt := 1455) (off := 1416) hx hb dL_law_39 (by rw [hw23]; decide) (by rw [hw23]; decide) (by rw [hw23]; decide) (by decide) ?_
      exact t_L_law_1455 B hst hX HL hcl hf hW hl hk1 hr1
    replace hf := z_in hw23 hf
    by_cases hw24 : ((xs l4.toNatClampNeg) &&& (31 : Int32)) = (24 : Int32)
    · replace hf := z_ip hw24 hf
      refine lv_tableIn (tgt := 1468) (off := 1429) hx hb dL_law_39 (by rw [hw24]; decide) (by rw [hw24]; decide) (by rw [hw24]; decide) (by decide) ?_
      exact t_L_law_1468 B hst hX HL hcl hf hW hl hk1 hr1
    replace hf := z_in hw24 hf
    by_cases hw25 : ((xs l4.toNatClampNeg) &&& (31 : Int32)) = (25 : Int32)
    · replace hf := z_ip hw25 hf
      refine lv_tableIn (tgt := 1481) (off := 1442) hx hb dL_law_39 (by rw [hw25]; decide) (by rw [hw25]; decide) (by rw [hw25]; decide) (by decide) ?_
      exact t_L_law_1481 B hst hX HL hcl hf hW hl hk1 hr1
    replace hf := z_in hw25 hf
    by_cases hw26 : ((xs l4.toNatClampNeg) &&& (31 : Int32)) = (26 : Int32)
    · replace hf := z_ip hw26 hf
      refine lv_tableIn (tgt := 1525) (off := 1486) hx hb dL_law_39 (by rw [hw26]; decide) (by rw [hw26]; decide) (by rw [hw26]; decide) (by decide) ?_
      exact t_L_law_1525 B hst hX HL hcl hf hW hl hk1 hr1
    replace hf := z_in hw26 hf
    refine lv_tableOut (tgt := 1539) hx hb dL_law_39 (z_tout (fun k h1 h2 => by rcases (by omega : k = 0 ∨ k = 1 ∨ k = 2 ∨ k = 3 ∨ k = 4 ∨ k = 5 ∨ k = 6 ∨ k = 7 ∨ k = 8 ∨ k = 9 ∨ k = 10 ∨ k = 11 ∨ k = 12 ∨ k = 13 ∨ k = 14 ∨ k = 15 ∨ k = 16 ∨ k = 17 ∨ k = 18 ∨ k = 19 ∨ k = 20 ∨ k = 21 ∨ k = 22 ∨ k = 23 ∨ k = 24 ∨ k = 25 ∨ k = 26) with rfl | rfl | rfl | rfl | rfl | rfl | rfl | rfl | rfl | rfl | rfl | rfl | rfl | rfl | rfl | rfl | rfl | rfl | rfl | rfl | rfl | rfl | rfl | rfl | rfl | rfl | rfl <;> assumption)) (by decide) ?_
    refine W.widen (k := cl + 1) (n := sl + 6) (by omega) (by omega) ?_
    exact t_L_law_1539 B hst hX HL hcl hf hW hl hk1 hr1
set_option maxRecDepth 20000 in
set_option maxHeartbeats 4000000 in
theorem t_L_law_23 (B : z_B p s m #[Value.ref b] meth c D cA bs RL cL_law 9 ret) (hst : l.stackTraces = false) (hX : z_X bs s) (HL : z_L s bs b L xs) {l1 : Nat} {l2 : Nat} {l3 : Nat} : ∀ (n k : Nat) {σ : zSt} {l4 : Int32}, zloop (fun (t : zSt × Int32) => b_L_law_23 xs L l1 l2 l3 t.1 t.2) n (σ, l4) = some (1 : Int32) → l4 = nI (4 * k) → k ≤ 513 → ∀ {H : Heap} {locs : List Loc} {ls : Array Slot}, z_Ok D cA bs s σ H locs → lv_has ls 9 [(0, .ref b), (1, .ref l1), (2, .ref l2), (3, .ref l3), (4, .int l4)] → W p l e room_1 s m #[Value.ref b] below meth c H locs (150 + k * 1) (15427 + k * 6) (lw_Z below #[Value.ref b] s) (F0 m 23 ls []) := by
  intro n
  induction n with
  | zero => intro k σ l4 hf; cases hf
  | succ n ih =>
    intro k σ l4 hf h4 hk H locs ls hW hl
    obtain ⟨o1, hb1, hf⟩ := z_lp hf
    have hb2 : b_L_law_23 xs L l1 l2 l3 σ l4 = some o1 := hb1
    have hlim : z_lim l4 = true := by
      unfold b_L_law_23 at hb2
      exact (z_g hb2).1
    have hk2 : k ≤ 512 := z_lim_k h4 hk hlim
    refine tb_L_law_23 B hst hX HL (cl := 150 + k * 1) (sl := 15427 + k * 6) ⟨by omega, by omega⟩ hb1 hW hl (fun σ he H locs ls hW hl => ?_) (fun x he => ?_)
    · rcases hf with ⟨t, ht, hf⟩ | hf
      · rw [he] at ht
        cases ht
        have e1 : 150 + (k + 1) * 1 = 150 + k * 1 + 1 := by omega
        have e2 : 15427 + (k + 1) * 6 = 15427 + k * 6 + 6 := by omega
        have g9 := ih (k + 1) hf (z_lim_4 h4) (by omega) hW hl
        rw [e1, e2] at g9
        exact g9
      · rw [he] at hf
        cases hf
    · rcases hf with ⟨t, ht, hf⟩ | hf
      · rw [he] at ht
        cases ht
      · rw [he] at hf
        exact Sum.inr.inj hf
set_option maxRecDepth 100000 in
def f_L_law (xs : Nat → Int32) (L : Nat) (σ : zSt) : Option (Int32) :=
(zl (z_nw σ (.inl 8)) (fun σ1 => (zb (f_X9_init σ1 (z_nx σ)) (fun σ4 => (zl (z_nw σ4 (.inl 9)) (fun σ5 => (zb (f_X10_init σ5 (z_nx σ4)) (fun σ8 => (zl (z_nw σ8 (.inr (2, 1))) (fun σ9 => (f_L_law_23 xs L (z_nx σ) (z_nx σ4) (z_nx σ8) σ9 (0 : Int32))))))))))))
set_option maxRecDepth 20000 in
set_option maxHeartbeats 4000000 in
theorem t_L_law (B : z_B p s m #[Value.ref b] meth c D cA bs RL cL_law 9 ret) (hst : l.stackTraces = false) (hX : z_X bs s) (HL : z_L s bs b L xs) {σ : zSt} (hf : f_L_law xs L σ = some (1 : Int32)) {H : Heap} {locs : List Loc} {ls : Array Slot} (hW : z_Ok D cA bs s σ H locs) (hl : lv_has ls 9 [(0, .ref b)]) : W p l e room_1 s m #[Value.ref b] below meth c H locs 0 0 (lw_Z below #[Value.ref b] s) (F0 m 0 ls []) := by
  have hx := B.1
  have hb := B.2.1
  have hown := B.2.2.2.1
  have hts := B.2.2.2.2.1
  unfold f_L_law at hf
  obtain ⟨σ1, hs2, hf⟩ := z_l hf
  refine z_newOb B hW zw_L_8 hs2 (Nat.le_of_ble_eq_true rfl) (Nat.le_of_ble_eq_true rfl) dL_law_0 (fun H hW => ?_)
  refine lv_dup hx hb dL_law_3 rfl ?_
  obtain ⟨σ4, hq3, hf⟩ := z_b hf
  refine z_cv hW (z_runI (As := []) (rest := [.ref (z_nx σ)]) B hW zv_L_80 (K_X9_init hq3) rfl rfl (Nat.le_of_ble_eq_true rfl) hl.1 ⟨Nat.le_of_ble_eq_true rfl, Nat.le_of_ble_eq_true rfl⟩ dL_law_4 ⟨Nat.le_of_ble_eq_true rfl, Nat.le_of_ble_eq_true rfl⟩) (fun H locs hW => ?_)
  refine lv_astore_n (lv' := [(1, .ref (z_nx σ)), (0, .ref b)]) hx hb dL_law_7 rfl hl (by decide) rfl (fun ls hl => ?_)
  obtain ⟨σ5, hs6, hf⟩ := z_l hf
  refine z_newOb B hW zw_L_81 hs6 (Nat.le_of_ble_eq_true rfl) (Nat.le_of_ble_eq_true rfl) dL_law_8 (fun H hW => ?_)
  refine lv_dup hx hb dL_law_11 rfl ?_
  obtain ⟨σ8, hq7, hf⟩ := z_b hf
  refine z_cv hW (z_runI (As := []) (rest := [.ref (z_nx σ4)]) B hW zv_L_83 (K_X10_init hq7) rfl rfl (Nat.le_of_ble_eq_true rfl) hl.1 ⟨Nat.le_of_ble_eq_true rfl, Nat.le_of_ble_eq_true rfl⟩ dL_law_12 ⟨Nat.le_of_ble_eq_true rfl, Nat.le_of_ble_eq_true rfl⟩) (fun H locs hW => ?_)
  refine lv_astore_n (lv' := [(2, .ref (z_nx σ4)), (1, .ref (z_nx σ)), (0, .ref b)]) hx hb dL_law_15 rfl hl (by decide) rfl (fun ls hl => ?_)
  refine lv_iconst (v := (1 : Int32)) hx hb dL_law_16 (by decide) ?_
  obtain ⟨σ9, hs10, hf⟩ := z_l hf
  refine z_newA (atype := .long) B hW (by decide) zac_long (N := 1) (by decide) (by decide) (by decide) hs10 (Nat.le_of_ble_eq_true rfl) (Nat.le_of_ble_eq_true rfl) dL_law_17 (fun H hW => ?_)
  refine lv_astore_n (lv' := [(3, .ref (z_nx σ8)), (2, .ref (z_nx σ4)), (1, .ref (z_nx σ)), (0, .ref b)]) hx hb dL_law_19 rfl hl (by decide) rfl (fun ls hl => ?_)
  refine lv_iconst (v := (0 : Int32)) hx hb dL_law_20 (by decide) ?_
  refine lv_istore (lv' := [(4, .int (0 : Int32)), (3, .ref (z_nx σ8)), (2, .ref (z_nx σ4)), (1, .ref (z_nx σ)), (0, .ref b)]) hx hb dL_law_21 hl (by decide) rfl (fun ls hl => ?_)
  unfold f_L_law_23 at hf
  exact t_L_law_23 B hst hX HL zN 0 hf rfl (by omega) hW (lv_sub hl [4, 3, 2, 1, 0] rfl)
end GEN
