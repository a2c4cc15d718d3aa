section GEN
variable {p : Program} {l : Launch} {e : Env} {s : State} {m : MethodId} {args : Array Value} {below : List Frame} {meth : Method} {c : Code} {D : va_G} {cA : Nat → ClassId} {bs : Nat} {b L : Nat} {xs : Nat → Int32}
set_option maxRecDepth 100000 in
def f_L_isStep_106 (σ : zSt) (s0 : Int32) : Option (Int32 × zSt) :=
(if z_bl s0 then (some (s0, σ)) else none)
set_option maxRecDepth 20000 in
set_option maxHeartbeats 4000000 in
theorem t_L_isStep_106 (B : z_B p s m args meth c D cA bs RL cL_isStep 7 (some .boolean)) {r : Int32} {σ' : zSt} {σ : zSt} {s0 : Int32} (hf : f_L_isStep_106 σ s0 = some (r, σ')) {H : Heap} {locs : List Loc} {ls : Array Slot} (hW : z_Ok D cA bs s σ H locs) (hl : lv_has ls 7 [])  : W p l e (zrm 6 0 0 172) s m args below meth c H locs 0 0 (MQ below (z_Qi D cA bs r σ') args s 0 0 (fun q => bs ≤ q)) (F0 m 106 ls [.int s0]) := by
  have hx := B.1
  have hb := B.2.1
  have hown := B.2.2.2.1
  have hts := B.2.2.2.2.1
  unfold f_L_isStep_106 at hf
  obtain ⟨hg1, hf⟩ := z_g hf
  obtain ⟨rfl, rfl⟩ := z_e2 hf
  exact z_rz hg1 B hW dL_isStep_106 (Nat.le_of_ble_eq_true rfl) (Nat.le_of_ble_eq_true rfl)
set_option maxRecDepth 100000 in
def f_L_isStep_95 (σ : zSt) (s0 : Int32) (s1 : Int32) (s2 : Option Nat) (s3 : Int32) : Option (Int32 × zSt) :=
(zc s2 none (fun a1 => (if z_ob σ a1 8 then (zb2 (f_X9_setOn σ a1 s1 s0) (fun r5 σ6 => (if s3 = r5 then
(f_L_isStep_106 σ6 (1 : Int32))
else
(f_L_isStep_106 σ6 (0 : Int32))))) else none)))
set_option maxRecDepth 20000 in
set_option maxHeartbeats 4000000 in
theorem t_L_isStep_95 (B : z_B p s m args meth c D cA bs RL cL_isStep 7 (some .boolean)) {r : Int32} {σ' : zSt} {σ : zSt} {s0 : Int32} {s1 : Int32} {s2 : Option Nat} {s3 : Int32} (hf : f_L_isStep_95 σ s0 s1 s2 s3 = some (r, σ')) {H : Heap} {locs : List Loc} {ls : Array Slot} (hW : z_Ok D cA bs s σ H locs) (hl : lv_has ls 7 [])  : W p l e (zrm 6 0 0 172) s m args below meth c H locs 0 0 (MQ below (z_Qi D cA bs r σ') args s 0 0 (fun q => bs ≤ q)) (F0 m 95 ls [.int s0, .int s1, va_rf s2, .int s3]) := by
  have hx := B.1
  have hb := B.2.1
  have hown := B.2.2.2.1
  have hts := B.2.2.2.2.1
  unfold f_L_isStep_95 at hf
  obtain ⟨a1, hn2, hf⟩ := z_nn hf
  subst hn2
  obtain ⟨hg3, hf⟩ := z_g hf
  obtain ⟨r5, σ6, hq4, hf⟩ := z_b2 hf
  refine z_ci hW (z_runV (As := [.int s1, .int s0]) (rest := [.int s3]) B hW zv_L_35 (K_X9_setOn hq4) hg3 rfl rfl rfl (Nat.le_of_ble_eq_true rfl) hl.1 ⟨Nat.le_of_ble_eq_true rfl, Nat.le_of_ble_eq_true rfl⟩ dL_isStep_95 ⟨Nat.le_of_ble_eq_true rfl, Nat.le_of_ble_eq_true rfl⟩) (fun H locs hW => ?_)
  refine lv_icmp_ne (tgt := 105) hx hb dL_isStep_98 (by decide) (fun hc98 => ?_) (fun hc98 => ?_)
  · replace hf := z_in hc98 hf
    refine lv_iconst (v := (0 : Int32)) hx hb dL_isStep_105 (by decide) ?_
    exact t_L_isStep_106 B hf hW hl 
  · replace hf := z_ip hc98 hf
    refine lv_iconst (v := (1 : Int32)) hx hb dL_isStep_101 (by decide) ?_
    refine lv_goto (tgt := 106) hx hb dL_isStep_102 (by decide) ?_
    exact t_L_isStep_106 B hf hW hl 
set_option maxRecDepth 100000 in
def f_L_isStep_76 (σ : zSt) (l1 : Nat) (l2 : Int32) (l3 : Int32) (s0 : Int32) (s1 : Int32) (s2 : Option Nat) : Option (Int32 × zSt) :=
(zc s2 none (fun a1 => (if z_ob σ a1 8 then (zb2 (f_X9_setOn σ a1 s1 s0) (fun r5 σ6 => (if ((l2 >>> ((8 : Int32) &&& 31)) &&& (3 : Int32)) ≤ 0 then
(f_L_isStep_95 σ6 (0 : Int32) l3 (some l1) r5)
else
(f_L_isStep_95 σ6 (1 : Int32) l3 (some l1) r5)))) else none)))
set_option maxRecDepth 20000 in
set_option maxHeartbeats 4000000 in
theorem t_L_isStep_76 (B : z_B p s m args meth c D cA bs RL cL_isStep 7 (some .boolean)) {r : Int32} {σ' : zSt} {σ : zSt} {l1 : Nat} {l2 : Int32} {l3 : Int32} {s0 : Int32} {s1 : Int32} {s2 : Option Nat} (hf : f_L_isStep_76 σ l1 l2 l3 s0 s1 s2 = some (r, σ')) {H : Heap} {locs : List Loc} {ls : Array Slot} (hW : z_Ok D cA bs s σ H locs) (hl : lv_has ls 7 [(1, .ref l1), (2, .int l2), (3, .int l3)])  : W p l e (zrm 6 0 0 172) s m args below meth c H locs 0 0 (MQ below (z_Qi D cA bs r σ') args s 0 0 (fun q => bs ≤ q)) (F0 m 76 ls [.int s0, .int s1, va_rf s2]) := by
  have hx := B.1
  have hb := B.2.1
  have hown := B.2.2.2.1
  have hts := B.2.2.2.2.1
  unfold f_L_isStep_76 at hf
  obtain ⟨a1, hn2, hf⟩ := z_nn hf
  subst hn2
  obtain ⟨hg3, hf⟩ := z_g hf
  obtain ⟨r5, σ6, hq4, hf⟩ := z_b2 hf
  refine z_ci hW (z_runV (As := [.int s1, .int s0]) (rest := []) B hW zv_L_35 (K_X9_setOn hq4) hg3 rfl rfl rfl (Nat.le_of_ble_eq_true rfl) hl.1 ⟨Nat.le_of_ble_eq_true rfl, Nat.le_of_ble_eq_true rfl⟩ dL_isStep_76 ⟨Nat.le_of_ble_eq_true rfl, Nat.le_of_ble_eq_true rfl⟩) (fun H locs hW => ?_)
  refine lv_aload_n hx hb dL_isStep_79 rfl (lv_at hl 0 rfl) ?_
  refine lv_iload_n hx hb dL_isStep_80 rfl (lv_at hl 2 rfl) ?_
  refine lv_iload_n hx hb dL_isStep_81 rfl (lv_at hl 1 rfl) ?_
  refine lv_bipush (v := (8 : Int32)) hx hb dL_isStep_82 (by decide) ?_
  refine lv_ishr hx hb dL_isStep_84 ?_
  refine lv_iconst (v := (3 : Int32)) hx hb dL_isStep_85 (by decide) ?_
  refine lv_iand hx hb dL_isStep_86 ?_
  refine lv_if_le (tgt := 94) hx hb dL_isStep_87 (by decide) (fun hc87 => ?_) (fun hc87 => ?_)
  · replace hf := z_ip hc87 hf
    refine lv_iconst (v := (0 : Int32)) hx hb dL_isStep_94 (by decide) ?_
    exact t_L_isStep_95 B hf hW (lv_sub hl [] rfl) 
  · replace hf := z_in hc87 hf
    refine lv_iconst (v := (1 : Int32)) hx hb dL_isStep_90 (by decide) ?_
    refine lv_goto (tgt := 95) hx hb dL_isStep_91 (by decide) ?_
    exact t_L_isStep_95 B hf hW (lv_sub hl [] rfl) 
set_option maxRecDepth 100000 in
def f_L_isStep_176 (σ : zSt) (s0 : Int32) : Option (Int32 × zSt) :=
(if z_bl s0 then (some (s0, σ)) else none)
set_option maxRecDepth 20000 in
set_option maxHeartbeats 4000000 in
theorem t_L_isStep_176 (B : z_B p s m args meth c D cA bs RL cL_isStep 7 (some .boolean)) {r : Int32} {σ' : zSt} {σ : zSt} {s0 : Int32} (hf : f_L_isStep_176 σ s0 = some (r, σ')) {H : Heap} {locs : List Loc} {ls : Array Slot} (hW : z_Ok D cA bs s σ H locs) (hl : lv_has ls 7 [])  : W p l e (zrm 6 0 0 172) s m args below meth c H locs 0 0 (MQ below (z_Qi D cA bs r σ') args s 0 0 (fun q => bs ≤ q)) (F0 m 176 ls [.int s0]) := by
  have hx := B.1
  have hb := B.2.1
  have hown := B.2.2.2.1
  have hts := B.2.2.2.2.1
  unfold f_L_isStep_176 at hf
  obtain ⟨hg1, hf⟩ := z_g hf
  obtain ⟨rfl, rfl⟩ := z_e2 hf
  exact z_rz hg1 B hW dL_isStep_176 (Nat.le_of_ble_eq_true rfl) (Nat.le_of_ble_eq_true rfl)
set_option maxRecDepth 100000 in
def f_L_isStep_171 (σ : zSt) : Option (Int32 × zSt) :=
(f_L_isStep_176 σ (1 : Int32))
set_option maxRecDepth 20000 in
set_option maxHeartbeats 4000000 in
theorem t_L_isStep_171 (B : z_B p s m args meth c D cA bs RL cL_isStep 7 (some .boolean)) {r : Int32} {σ' : zSt} {σ : zSt} (hf : f_L_isStep_171 σ = some (r, σ')) {H : Heap} {locs : List Loc} {ls : Array Slot} (hW : z_Ok D cA bs s σ H locs) (hl : lv_has ls 7 [])  : W p l e (zrm 6 0 0 172) s m args below meth c H locs 0 0 (MQ below (z_Qi D cA bs r σ') args s 0 0 (fun q => bs ≤ q)) (F0 m 171 ls []) := by
  have hx := B.1
  have hb := B.2.1
  have hown := B.2.2.2.1
  have hts := B.2.2.2.2.1
  unfold f_L_isStep_171 at hf
  refine lv_iconst (v := (1 : Int32)) hx hb dL_isStep_171 (by decide) ?_
  refine lv_goto (tgt := 176) hx hb dL_isStep_172 (by decide) ?_
  exact t_L_isStep_176 B hf hW hl 
set_option maxRecDepth 100000 in
def f_L_isStep_269 (σ : zSt) (s0 : Int32) : Option (Int32 × zSt) :=
(if z_bl s0 then (some (s0, σ)) else none)
set_option maxRecDepth 20000 in
set_option maxHeartbeats 4000000 in
theorem t_L_isStep_269 (B : z_B p s m args meth c D cA bs RL cL_isStep 7 (some .boolean)) {r : Int32} {σ' : zSt} {σ : zSt} {s0 : Int32} (hf : f_L_isStep_269 σ s0 = some (r, σ')) {H : Heap} {locs : List Loc} {ls : Array Slot} (hW : z_Ok D cA bs s σ H locs) (hl : lv_has ls 7 [])  : W p l e (zrm 6 0 0 172) s m args below meth c H locs 0 0 (MQ below (z_Qi D cA bs r σ') args s 0 0 (fun q => bs ≤ q)) (F0 m 269 ls [.int s0]) := by
  have hx := B.1
  have hb := B.2.1
  have hown := B.2.2.2.1
  have hts := B.2.2.2.2.1
  unfold f_L_isStep_269 at hf
  obtain ⟨hg1, hf⟩ := z_g hf
  obtain ⟨rfl, rfl⟩ := z_e2 hf
  exact z_rz hg1 B hW dL_isStep_269 (Nat.le_of_ble_eq_true rfl) (Nat.le_of_ble_eq_true rfl)
set_option maxRecDepth 100000 in
def f_L_isStep_264 (σ : zSt) : Option (Int32 × zSt) :=
(f_L_isStep_269 σ (1 : Int32))
set_option maxRecDepth 20000 in
set_option maxHeartbeats 4000000 in
theorem t_L_isStep_264 (B : z_B p s m args meth c D cA bs RL cL_isStep 7 (some .boolean)) {r : Int32} {σ' : zSt} {σ : zSt} (hf : f_L_isStep_264 σ = some (r, σ')) {H : Heap} {locs : List Loc} {ls : Array Slot} (hW : z_Ok D cA bs s σ H locs) (hl : lv_has ls 7 [])  : W p l e (zrm 6 0 0 172) s m args below meth c H locs 0 0 (MQ below (z_Qi D cA bs r σ') args s 0 0 (fun q => bs ≤ q)) (F0 m 264 ls []) := by
  have hx := B.1
  have hb := B.2.1
  have hown := B.2.2.2.1
  have hts := B.2.2.2.2.1
  unfold f_L_isStep_264 at hf
  refine lv_iconst (v := (1 : Int32)) hx hb dL_isStep_264 (by decide) ?_
  refine lv_goto (tgt := 269) hx hb dL_isStep_265 (by decide) ?_
  exact t_L_isStep_269 B hf hW hl 
set_option maxRecDepth 100000 in
def f_L_isStep_268 (σ : zSt) : Option (Int32 × zSt) :=
(f_L_isStep_269 σ (0 : Int32))
set_option maxRecDepth 20000 in
set_option maxHeartbeats 4000000 in
theorem t_L_isStep_268 (B : z_B p s m args meth c D cA bs RL cL_isStep 7 (some .boolean)) {r : Int32} {σ' : zSt} {σ : zSt} (hf : f_L_isStep_268 σ = some (r, σ')) {H : Heap} {locs : List Loc} {ls : Array Slot} (hW : z_Ok D cA bs s σ H locs) (hl : lv_has ls 7 [])  : W p l e (zrm 6 0 0 172) s m args below meth c H locs 0 0 (MQ below (z_Qi D cA bs r σ') args s 0 0 (fun q => bs ≤ q)) (F0 m 268 ls []) := by
  have hx := B.1
  have hb := B.2.1
  have hown := B.2.2.2.1
  have hts := B.2.2.2.2.1
  unfold f_L_isStep_268 at hf
  refine lv_iconst (v := (0 : Int32)) hx hb dL_isStep_268 (by decide) ?_
  exact t_L_isStep_269 B hf hW hl 
set_option maxRecDepth 100000 in
def f_L_isStep_216 (σ : zSt) (l0 : Nat) (l1 : Nat) (l4 : Int32) (s0 : Int32) (s1 : Int32) (s2 : Int32) : Option (Int32 × zSt) :=
(zb (f_L_up σ s1 s0) (fun r2 => (zl (s2 + r2) (fun x3 => (if z_ob σ l0 8 then (zb (f_X9_setting σ l0 (5 : Int32)) (fun r7 => (if (18 : Int32) < r7 then
(f_L_isStep_264 σ)
else
(zb2 (f_X9_addNoise σ l0 l4 x3) (fun r9 σ10 => (if r9 ≤ 0 then
(f_L_isStep_268 σ10)
else
(if z_ob σ10 l0 8 then (zb2 (f_X9_addNoise σ10 l0 l4 x3) (fun r13 σ14 => (if z_ob σ14 l1 8 then (zb2 (f_X9_addNoise σ14 l1 l4 x3) (fun r17 σ18 => (if r13 = ((2 : Int32) * r17) then
(f_L_isStep_264 σ18)
else
(f_L_isStep_268 σ18)))) else none))) else none))))))) else none)))))
set_option maxRecDepth 20000 in
set_option maxHeartbeats 4000000 in
theorem t_L_isStep_216 (B : z_B p s m args meth c D cA bs RL cL_isStep 7 (some .boolean)) {r : Int32} {σ' : zSt} {σ : zSt} {l0 : Nat} {l1 : Nat} {l4 : Int32} {s0 : Int32} {s1 : Int32} {s2 : Int32} (hf : f_L_isStep_216 σ l0 l1 l4 s0 s1 s2 = some (r, σ')) {H : Heap} {locs : List Loc} {ls : Array Slot} (hW : z_Ok D cA bs s σ H locs) (hl : lv_has ls 7 [(0, .ref l0), (1, .ref l1), (4, .int l4)])  : W p l e (zrm 6 0 0 172) s m args below meth c H locs 0 0 (MQ below (z_Qi D cA bs r σ') args s 0 0 (fun q => bs ≤ q)) (F0 m 216 ls [.int s0, .int s1, .int s2]) := by
  have hx := B.1
  have hb := B.2.1
  have hown := B.2.2.2.1
  have hts := B.2.2.2.2.1
  unfold f_L_isStep_216 at hf
  obtain ⟨r2, hq1, hf⟩ := z_b hf
  refine z_ci hW (z_runS (As := [.int s1, .int s0]) (rest := [.int s2]) B hW zv_L_15 (K_L_up hq1) rfl rfl (Nat.le_of_ble_eq_true rfl) hl.1 ⟨Nat.le_of_ble_eq_true rfl, Nat.le_of_ble_eq_true rfl⟩ dL_isStep_216 ⟨Nat.le_of_ble_eq_true rfl, Nat.le_of_ble_eq_true rfl⟩) (fun H locs hW => ?_)
  refine lv_iadd hx hb dL_isStep_219 ?_
  obtain ⟨x3, hx4, hf⟩ := z_l hf
  rw [hx4]
  refine lv_istore (lv' := [(5, .int x3), (0, .ref l0), (1, .ref l1), (4, .int l4)]) hx hb dL_isStep_220 hl (by decide) rfl (fun ls hl => ?_)
  refine lv_aload_n hx hb dL_isStep_222 rfl (lv_at hl 1 rfl) ?_
  refine lv_iconst (v := (5 : Int32)) hx hb dL_isStep_223 (by decide) ?_
  obtain ⟨hg5, hf⟩ := z_g hf
  obtain ⟨r7, hq6, hf⟩ := z_b hf
  refine z_ci hW (z_runV (As := [.int (5 : Int32)]) (rest := []) B hW zv_L_29 (K_X9_setting hq6) hg5 rfl rfl rfl (Nat.le_of_ble_eq_true rfl) hl.1 ⟨Nat.le_of_ble_eq_true rfl, Nat.le_of_ble_eq_true rfl⟩ dL_isStep_224 ⟨Nat.le_of_ble_eq_true rfl, Nat.le_of_ble_eq_true rfl⟩) (fun H locs hW => ?_)
  refine lv_bipush (v := (18 : Int32)) hx hb dL_isStep_227 (by decide) ?_
  refine lv_icmp_gt (tgt := 264) hx hb dL_isStep_229 (by decide) (fun hc229 => ?_) (fun hc229 => ?_)
  · replace hf := z_ip hc229 hf
    exact t_L_isStep_264 B hf hW (lv_sub hl [] rfl) 
  · replace hf := z_in hc229 hf
    refine lv_aload_n hx hb dL_isStep_232 rfl (lv_at hl 1 rfl) ?_
    refine lv_iload hx hb dL_isStep_233 (lv_at hl 3 rfl) ?_
    refine lv_iload hx hb dL_isStep_235 (lv_at hl 0 rfl) ?_
    obtain ⟨r9, σ10, hq8, hf⟩ := z_b2 hf
    refine z_ci hW (z_runV (As := [.int l4, .int x3]) (rest := []) B hW zv_L_42 (K_X9_addNoise hq8) hg5 rfl rfl rfl (Nat.le_of_ble_eq_true rfl) hl.1 ⟨Nat.le_of_ble_eq_true rfl, Nat.le_of_ble_eq_true rfl⟩ dL_isStep_237 ⟨Nat.le_of_ble_eq_true rfl, Nat.le_of_ble_eq_true rfl⟩) (fun H locs hW => ?_)
    refine lv_if_le (tgt := 268) hx hb dL_isStep_240 (by decide) (fun hc240 => ?_) (fun hc240 => ?_)
    · replace hf := z_ip hc240 hf
      exact t_L_isStep_268 B hf hW (lv_sub hl [] rfl) 
    · replace hf := z_in hc240 hf
      refine lv_aload_n hx hb dL_isStep_243 rfl (lv_at hl 1 rfl) ?_
      refine lv_iload hx hb dL_isStep_244 (lv_at hl 3 rfl) ?_
      refine lv_iload hx hb dL_isStep_246 (lv_at hl 0 rfl) ?_
      obtain ⟨hg11, hf⟩ := z_g hf
      obtain ⟨r13, σ14, hq12, hf⟩ := z_b2 hf
      refine z_ci hW (z_runV (As := [.int l4, .int x3]) (rest := []) B hW zv_L_42 (K_X9_addNoise hq12) hg11 rfl rfl rfl (Nat.le_of_ble_eq_true rfl) hl.1 ⟨Nat.le_of_ble_eq_true rfl, Nat.le_of_ble_eq_true rfl⟩ dL_isStep_248 ⟨Nat.le_of_ble_eq_true rfl, Nat.le_of_ble_eq_true rfl⟩) (fun H locs hW => ?_)
      refine lv_iconst (v := (2 : Int32)) hx hb dL_isStep_251 (by decide) ?_
      refine lv_aload_n hx hb dL_isStep_252 rfl (lv_at hl 2 rfl) ?_
      refine lv_iload hx hb dL_isStep_253 (lv_at hl 3 rfl) ?_
      refine lv_iload hx hb dL_isStep_255 (lv_at hl 0 rfl) ?_
      obtain ⟨hg15, hf⟩ := z_g hf
      obtain ⟨r17, σ18, hq16, hf⟩ := z_b2 hf
      refine z_ci hW (z_runV (As := [.int l4, .int x3]) (rest := [.int (2 : Int32), .int r13]) B hW zv_L_42 (K_X9_addNoise hq16) hg15 rfl rfl rfl (Nat.le_of_ble_eq_true rfl) hl.1 ⟨Nat.le_of_ble_eq_true rfl, Nat.le_of_ble_eq_true rfl⟩ dL_isStep_257 ⟨Nat.le_of_ble_eq_true rfl, Nat.le_of_ble_eq_true rfl⟩) (fun H locs hW => ?_)
      refine lv_imul hx hb dL_isStep_260 ?_
      refine lv_icmp_ne (tgt := 268) hx hb dL_isStep_261 (by decide) (fun hc261 => ?_) (fun hc261 => ?_)
      · replace hf := z_in hc261 hf
        exact t_L_isStep_268 B hf hW (lv_sub hl [] rfl) 
      · replace hf := z_ip hc261 hf
        exact t_L_isStep_264 B hf hW (lv_sub hl [] rfl) 
set_option maxRecDepth 100000 in
def f_L_isStep_295 (σ : zSt) (s0 : Int32) : Option (Int32 × zSt) :=
(if z_bl s0 then (some (s0, σ)) else none)
set_option maxRecDepth 20000 in
set_option maxHeartbeats 4000000 in
theorem t_L_isStep_295 (B : z_B p s m args meth c D cA bs RL cL_isStep 7 (some .boolean)) {r : Int32} {σ' : zSt} {σ : zSt} {s0 : Int32} (hf : f_L_isStep_295 σ s0 = some (r, σ')) {H : Heap} {locs : List Loc} {ls : Array Slot} (hW : z_Ok D cA bs s σ H locs) (hl : lv_has ls 7 [])  : W p l e (zrm 6 0 0 172) s m args below meth c H locs 0 0 (MQ below (z_Qi D cA bs r σ') args s 0 0 (fun q => bs ≤ q)) (F0 m 295 ls [.int s0]) := by
  have hx := B.1
  have hb := B.2.1
  have hown := B.2.2.2.1
  have hts := B.2.2.2.2.1
  unfold f_L_isStep_295 at hf
  obtain ⟨hg1, hf⟩ := z_g hf
  obtain ⟨rfl, rfl⟩ := z_e2 hf
  exact z_rz hg1 B hW dL_isStep_295 (Nat.le_of_ble_eq_true rfl) (Nat.le_of_ble_eq_true rfl)
set_option maxRecDepth 100000 in
def f_L_isStep_290 (σ : zSt) : Option (Int32 × zSt) :=
(f_L_isStep_295 σ (1 : Int32))
set_option maxRecDepth 20000 in
set_option maxHeartbeats 4000000 in
theorem t_L_isStep_290 (B : z_B p s m args meth c D cA bs RL cL_isStep 7 (some .boolean)) {r : Int32} {σ' : zSt} {σ : zSt} (hf : f_L_isStep_290 σ = some (r, σ')) {H : Heap} {locs : List Loc} {ls : Array Slot} (hW : z_Ok D cA bs s σ H locs) (hl : lv_has ls 7 [])  : W p l e (zrm 6 0 0 172) s m args below meth c H locs 0 0 (MQ below (z_Qi D cA bs r σ') args s 0 0 (fun q => bs ≤ q)) (F0 m 290 ls []) := by
  have hx := B.1
  have hb := B.2.1
  have hown := B.2.2.2.1
  have hts := B.2.2.2.2.1
  unfold f_L_isStep_290 at hf
  refine lv_iconst (v := (1 : Int32)) hx hb dL_isStep_290 (by decide) ?_
  refine lv_goto (tgt := 295) hx hb dL_isStep_291 (by decide) ?_
  exact t_L_isStep_295 B hf hW hl 
set_option maxRecDepth 100000 in
def f_L_isStep_365 (σ : zSt) (s0 : Int32) : Option (Int32 × zSt) :=
(if z_bl s0 then (some (s0, σ)) else none)
set_option maxRecDepth 20000 in
set_option maxHeartbeats 4000000 in
theorem t_L_isStep_365 (B : z_B p s m args meth c D cA bs RL cL_isStep 7 (some .boolean)) {r : Int32} {σ' : zSt} {σ : zSt} {s0 : Int32} (hf : f_L_isStep_365 σ s0 = some (r, σ')) {H : Heap} {locs : List Loc} {ls : Array Slot} (hW : z_Ok D cA bs s σ H locs) (hl : lv_has ls 7 [])  : W p l e (zrm 6 0 0 172) s m args below meth c H locs 0 0 (MQ below (z_Qi D cA bs r σ') args s 0 0 (fun q => bs ≤ q)) (F0 m 365 ls [.int s0]) := by
  have hx := B.1
  have hb := B.2.1
  have hown := B.2.2.2.1
  have hts := B.2.2.2.2.1
  unfold f_L_isStep_365 at hf
  obtain ⟨hg1, hf⟩ := z_g hf
  obtain ⟨rfl, rfl⟩ := z_e2 hf
  exact z_rz hg1 B hW dL_isStep_365 (Nat.le_of_ble_eq_true rfl) (Nat.le_of_ble_eq_true rfl)
set_option maxRecDepth 100000 in
def f_L_isStep_364 (σ : zSt) : Option (Int32 × zSt) :=
(f_L_isStep_365 σ (0 : Int32))
set_option maxRecDepth 20000 in
set_option maxHeartbeats 4000000 in
theorem t_L_isStep_364 (B : z_B p s m args meth c D cA bs RL cL_isStep 7 (some .boolean)) {r : Int32} {σ' : zSt} {σ : zSt} (hf : f_L_isStep_364 σ = some (r, σ')) {H : Heap} {locs : List Loc} {ls : Array Slot} (hW : z_Ok D cA bs s σ H locs) (hl : lv_has ls 7 [])  : W p l e (zrm 6 0 0 172) s m args below meth c H locs 0 0 (MQ below (z_Qi D cA bs r σ') args s 0 0 (fun q => bs ≤ q)) (F0 m 364 ls []) := by
  have hx := B.1
  have hb := B.2.1
  have hown := B.2.2.2.1
  have hts := B.2.2.2.2.1
  unfold f_L_isStep_364 at hf
  refine lv_iconst (v := (0 : Int32)) hx hb dL_isStep_364 (by decide) ?_
  exact t_L_isStep_365 B hf hW hl 
set_option maxRecDepth 100000 in
def f_L_isStep_325 (σ : zSt) (l0 : Nat) (l1 : Nat) (l4 : Int32) (s0 : Int32) : Option (Int32 × zSt) :=
(if z_ob σ l0 8 then (zb2 (f_X9_run σ l0 l4) (fun r3 σ4 => (if z_ob σ4 l1 8 then (zb2 (f_X9_run σ4 l1 s0) (fun r7 σ8 => (if r3 < r7 then
(f_L_isStep_364 σ8)
else
(if z_ob σ8 l1 8 then (zb2 (f_X9_run σ8 l1 (l4 - s0)) (fun r11 σ12 => (if r11 = r3 then
(f_L_isStep_365 σ12 (1 : Int32))
else
(f_L_isStep_364 σ12)))) else none)))) else none))) else none)
set_option maxRecDepth 20000 in
set_option maxHeartbeats 4000000 in
theorem t_L_isStep_325 (B : z_B p s m args meth c D cA bs RL cL_isStep 7 (some .boolean)) {r : Int32} {σ' : zSt} {σ : zSt} {l0 : Nat} {l1 : Nat} {l4 : Int32} {s0 : Int32} (hf : f_L_isStep_325 σ l0 l1 l4 s0 = some (r, σ')) {H : Heap} {locs : List Loc} {ls : Array Slot} (hW : z_Ok D cA bs s σ H locs) (hl : lv_has ls 7 [(0, .ref l0), (1, .ref l1), (4, .int l4)])  : W p l e (zrm 6 0 0 172) s m args below meth c H locs 0 0 (MQ below (z_Qi D cA bs r σ') args s 0 0 (fun q => bs ≤ q)) (F0 m 325 ls [.int s0]) := by
  have hx := B.1
  have hb := B.2.1
  have hown := B.2.2.2.1
  have hts := B.2.2.2.2.1
  unfold f_L_isStep_325 at hf
  refine lv_istore (lv' := [(5, .int s0), (0, .ref l0), (1, .ref l1), (4, .int l4)]) hx hb dL_isStep_325 hl (by decide) rfl (fun ls hl => ?_)
  refine lv_aload_n hx hb dL_isStep_327 rfl (lv_at hl 1 rfl) ?_
  refine lv_iload hx hb dL_isStep_328 (lv_at hl 3 rfl) ?_
  obtain ⟨hg1, hf⟩ := z_g hf
  obtain ⟨r3, σ4, hq2, hf⟩ := z_b2 hf
  refine z_ci hW (z_runV (As := [.int l4]) (rest := []) B hW zv_L_49 (K_X9_run hq2) hg1 rfl rfl rfl (Nat.le_of_ble_eq_true rfl) hl.1 ⟨Nat.le_of_ble_eq_true rfl, Nat.le_of_ble_eq_true rfl⟩ dL_isStep_330 ⟨Nat.le_of_ble_eq_true rfl, Nat.le_of_ble_eq_true rfl⟩) (fun H locs hW => ?_)
  refine lv_istore (lv' := [(6, .int r3), (5, .int s0), (0, .ref l0), (1, .ref l1), (4, .int l4)]) hx hb dL_isStep_333 hl (by decide) rfl (fun ls hl => ?_)
  refine lv_aload_n hx hb dL_isStep_335 rfl (lv_at hl 3 rfl) ?_
  refine lv_iload hx hb dL_isStep_336 (lv_at hl 1 rfl) ?_
  obtain ⟨hg5, hf⟩ := z_g hf
  obtain ⟨r7, σ8, hq6, hf⟩ := z_b2 hf
  refine z_ci hW (z_runV (As := [.int s0]) (rest := []) B hW zv_L_49 (K_X9_run hq6) hg5 rfl rfl rfl (Nat.le_of_ble_eq_true rfl) hl.1 ⟨Nat.le_of_ble_eq_true rfl, Nat.le_of_ble_eq_true rfl⟩ dL_isStep_338 ⟨Nat.le_of_ble_eq_true rfl, Nat.le_of_ble_eq_true rfl⟩) (fun H locs hW => ?_)
  refine lv_iload hx hb dL_isStep_341 (lv_at hl 0 rfl) ?_
  refine lv_icmp_gt (tgt := 364) hx hb dL_isStep_343 (by decide) (fun hc343 => ?_) (fun hc343 => ?_)
  · replace hf := z_ip hc343 hf
    exact t_L_isStep_364 B hf hW (lv_sub hl [] rfl) 
  · replace hf := z_in hc343 hf
    refine lv_aload_n hx hb dL_isStep_346 rfl (lv_at hl 3 rfl) ?_
    refine lv_iload hx hb dL_isStep_347 (lv_at hl 4 rfl) ?_
    refine lv_iload hx hb dL_isStep_349 (lv_at hl 1 rfl) ?_
    refine lv_isub hx hb dL_isStep_351 ?_
    obtain ⟨hg9, hf⟩ := z_g hf
    obtain ⟨r11, σ12, hq10, hf⟩ := z_b2 hf
    refine z_ci hW (z_runV (As := [.int (l4 - s0)]) (rest := []) B hW zv_L_49 (K_X9_run hq10) hg9 rfl rfl rfl (Nat.le_of_ble_eq_true rfl) hl.1 ⟨Nat.le_of_ble_eq_true rfl, Nat.le_of_ble_eq_true rfl⟩ dL_isStep_352 ⟨Nat.le_of_ble_eq_true rfl, Nat.le_of_ble_eq_true rfl⟩) (fun H locs hW => ?_)
    refine lv_iload hx hb dL_isStep_355 (lv_at hl 0 rfl) ?_
    refine lv_icmp_ne (tgt := 364) hx hb dL_isStep_357 (by decide) (fun hc357 => ?_) (fun hc357 => ?_)
    · replace hf := z_in hc357 hf
      exact t_L_isStep_364 B hf hW (lv_sub hl [] rfl) 
    · replace hf := z_ip hc357 hf
      refine lv_iconst (v := (1 : Int32)) hx hb dL_isStep_360 (by decide) ?_
      refine lv_goto (tgt := 365) hx hb dL_isStep_361 (by decide) ?_
      exact t_L_isStep_365 B hf hW (lv_sub hl [] rfl) 
set_option maxRecDepth 100000 in
def f_L_isStep (σ : zSt) (l0 : Nat) (l1 : Nat) (l2 : Int32) : Option (Int32 × zSt) :=
(if z_ob σ l0 8 then (zb (f_X9_setting σ l0 (3 : Int32)) (fun r3 => (zb (f_L_up σ (l2 >>> ((4 : Int32) &&& 31)) r3) (fun r5 => (zb (f_X9_addressAt σ l0 r5) (fun r7 => (if (l2 &&& (7 : Int32)) = (0 : Int32) then
(if ((l2 >>> ((8 : Int32) &&& 31)) &&& (3 : Int32)) ≤ 0 then
(f_L_isStep_76 σ l1 l2 r7 (0 : Int32) r7 (some l0))
else
(f_L_isStep_76 σ l1 l2 r7 (1 : Int32) r7 (some l0)))
else
(if (l2 &&& (7 : Int32)) = (1 : Int32) then
(zb (f_X9_setting σ l0 (8 : Int32)) (fun r9 => (if (99 : Int32) < r9 then
(f_L_isStep_171 σ)
else
(zb (f_L_up σ (l2 >>> ((8 : Int32) &&& 31)) (20 : Int32)) (fun r11 => (zb (f_L_up σ (l2 >>> ((13 : Int32) &&& 31)) (10 : Int32)) (fun r13 => (zb2 (f_X9_give σ l0 r7 ((1 : Int32) + r11) r13) (fun r15 σ16 => (zb (f_L_up σ16 (l2 >>> ((8 : Int32) &&& 31)) (20 : Int32)) (fun r18 => (zb (f_L_up σ16 (l2 >>> ((13 : Int32) &&& 31)) (10 : Int32)) (fun r20 => (if z_ob σ16 l1 8 then (zb2 (f_X9_give σ16 l1 r7 ((1 : Int32) + r18) r20) (fun r23 σ24 => (if r15 = r23 then
(f_L_isStep_171 σ24)
else
(f_L_isStep_176 σ24 (0 : Int32))))) else none))))))))))))))
else
(if (l2 &&& (7 : Int32)) = (2 : Int32) then
(zb (f_X9_setting σ l0 (8 : Int32)) (fun r26 => (if (99 : Int32) < r26 then
(f_L_isStep_171 σ)
else
(zb (f_L_up σ (l2 >>> ((8 : Int32) &&& 31)) (20 : Int32)) (fun r28 => (zb (f_L_up σ (l2 >>> ((13 : Int32) &&& 31)) (10 : Int32)) (fun r30 => (zb2 (f_X9_give σ l0 r7 ((1 : Int32) + r28) r30) (fun r32 σ33 => (zb (f_L_up σ33 (l2 >>> ((8 : Int32) &&& 31)) (20 : Int32)) (fun r35 => (zb (f_L_up σ33 (l2 >>> ((13 : Int32) &&& 31)) (10 : Int32)) (fun r37 => (if z_ob σ33 l1 8 then (zb2 (f_X9_give σ33 l1 r7 ((1 : Int32) + r35) r37) (fun r40 σ41 => (if r32 = r40 then
(f_L_isStep_171 σ41)
else
(f_L_isStep_176 σ41 (0 : Int32))))) else none))))))))))))))
else
(if (l2 &&& (7 : Int32)) = (3 : Int32) then
(zb (f_X9_setting σ l0 (8 : Int32)) (fun r43 => (if (99 : Int32) < r43 then
(f_L_isStep_171 σ)
else
(zb (f_L_up σ (l2 >>> ((8 : Int32) &&& 31)) (20 : Int32)) (fun r45 => (zb (f_L_up σ (l2 >>> ((13 : Int32) &&& 31)) (10 : Int32)) (fun r47 => (zb2 (f_X9_give σ l0 r7 ((1 : Int32) + r45) r47) (fun r49 σ50 => (zb (f_L_up σ50 (l2 >>> ((8 : Int32) &&& 31)) (20 : Int32)) (fun r52 => (zb (f_L_up σ50 (l2 >>> ((13 : Int32) &&& 31)) (10 : Int32)) (fun r54 => (if z_ob σ50 l1 8 then (zb2 (f_X9_give σ50 l1 r7 ((1 : Int32) + r52) r54) (fun r57 σ58 => (if r49 = r57 then
(f_L_isStep_171 σ58)
else
(f_L_isStep_176 σ58 (0 : Int32))))) else none))))))))))))))
else
(if (l2 &&& (7 : Int32)) = (4 : Int32) then
(zb (f_X9_setting σ l0 (6 : Int32)) (fun r60 => (zb (f_L_up σ (l2 >>> ((8 : Int32) &&& 31)) (60 : Int32)) (fun r62 => (zl (r60 + r62) (fun x63 => (if ((l2 >>> ((25 : Int32) &&& 31)) &&& (1 : Int32)) = 0 then
(f_L_isStep_216 σ l0 l1 x63 (3 : Int32) (l2 >>> ((14 : Int32) &&& 31)) x63)
else
(f_L_isStep_216 σ l0 l1 x63 (90 : Int32) (l2 >>> ((14 : Int32) &&& 31)) x63))))))))
else
(if (l2 &&& (7 : Int32)) = (5 : Int32) then
(if 0 < ((l2 >>> ((8 : Int32) &&& 31)) &&& (3 : Int32)) then
(f_L_isStep_290 σ)
else
(zb2 (f_X9_loseToken σ l0) (fun r66 σ67 => (if z_ob σ67 l1 8 then (zb2 (f_X9_loseToken σ67 l1) (fun r70 σ71 => (if r66 = r70 then
(f_L_isStep_290 σ71)
else
(f_L_isStep_295 σ71 (0 : Int32))))) else none))))
else
(zb (f_L_up σ (l2 >>> ((8 : Int32) &&& 31)) (60 : Int32)) (fun r73 => (if r73 = 0 then
(f_L_isStep_325 σ l0 l1 r73 (0 : Int32))
else
(zb (f_L_up σ (l2 >>> ((16 : Int32) &&& 31)) r73) (fun r75 => (f_L_isStep_325 σ l0 l1 r73 r75)))))))))))))))))) else none)
set_option maxRecDepth 20000 in
set_option maxHeartbeats 4000000 in
theorem K_L_isStep {σ : zSt} {l0 : Nat} {l1 : Nat} {l2 : Int32} {r : Int32} {σ' : zSt} (hf : f_L_isStep σ l0 l1 l2 = some (r, σ')) : z_M l D cA bs yL_isStep cL_isStep 7 (some .boolean) 6 172 0 0 [.ref l0, .ref l1, .int l2] σ (z_Qi D cA bs r σ') := by
  refine z_met (own := RL) (lv := [(0, .ref l0), (1, .ref l1), (2, .int l2)]) (by decide) rfl (Nat.le_of_ble_eq_true rfl) rfl (fun p e s m below meth c ls B hnm hW hl => ?_)
  have hx := B.1
  have hb := B.2.1
  have hown := B.2.2.2.1
  have hts := B.2.2.2.2.1
  unfold f_L_isStep at hf
  refine lv_aload_n hx hb dL_isStep_0 rfl (lv_at hl 0 rfl) ?_
  refine lv_iload_n hx hb dL_isStep_1 rfl (lv_at hl 2 rfl) ?_
  refine lv_iconst (v := (4 : Int32)) hx hb dL_isStep_2 (by decide) ?_
  refine lv_ishr hx hb dL_isStep_3 ?_
  refine lv_aload_n hx hb dL_isStep_4 rfl (lv_at hl 0 rfl) ?_
  refine lv_iconst (v := (3 : Int32)) hx hb dL_isStep_5 (by decide) ?_
  obtain ⟨hg1, hf⟩ := z_g hf
  obtain ⟨r3, hq2, hf⟩ := z_b hf
  refine z_ci hW (z_runV (As := [.int (3 : Int32)]) (rest := [.int (l2 >>> ((4 : Int32) &&& 31)), .ref l0]) B hW zv_L_29 (K_X9_setting hq2) hg1 rfl rfl rfl (Nat.le_of_ble_eq_true rfl) hl.1 ⟨Nat.le_of_ble_eq_true rfl, Nat.le_of_ble_eq_true rfl⟩ dL_isStep_6 ⟨Nat.le_of_ble_eq_true rfl, Nat.le_of_ble_eq_true rfl⟩) (fun H locs hW => ?_)
  obtain ⟨r5, hq4, hf⟩ := z_b hf
  refine z_ci hW (z_runS (As := [.int (l2 >>> ((4 : Int32) &&& 31)), .int r3]) (rest := [.ref l0]) B hW zv_L_15 (K_L_up hq4) rfl rfl (Nat.le_of_ble_eq_true rfl) hl.1 ⟨Nat.le_of_ble_eq_true rfl, Nat.le_of_ble_eq_true rfl⟩ dL_isStep_9 ⟨Nat.le_of_ble_eq_true rfl, Nat.le_of_ble_eq_true rfl⟩) (fun H locs hW => ?_)
  obtain ⟨r7, hq6, hf⟩ := z_b hf
  refine z_ci hW (z_runV (As := [.int r5]) (rest := []) B hW zv_L_32 (K_X9_addressAt hq6) hg1 rfl rfl rfl (Nat.le_of_ble_eq_true rfl) hl.1 ⟨Nat.le_of_ble_eq_true rfl, Nat.le_of_ble_eq_true rfl⟩ dL_isStep_12 ⟨Nat.le_of_ble_eq_true rfl, Nat.le_of_ble_eq_true rfl⟩) (fun H locs hW => ?_)
  refine lv_istore_n (lv' := [(3, .int r7), (0, .ref l0), (1, .ref l1), (2, .int l2)]) hx hb dL_isStep_15 rfl hl (by decide) rfl (fun ls hl => ?_)
  refine lv_iload_n hx hb dL_isStep_16 rfl (lv_at hl 3 rfl) ?_
  refine lv_bipush (v := (7 : Int32)) hx hb dL_isStep_17 (by decide) ?_
  refine lv_iand hx hb dL_isStep_19 ?_
  by_cases hw0 : (l2 &&& (7 : Int32)) = (0 : Int32)
  · replace hf := z_ip hw0 hf
    refine lv_tableIn (tgt := 60) (off := 40) hx hb dL_isStep_20 (by rw [hw0]; decide) (by rw [hw0]; decide) (by rw [hw0]; decide) (by decide) ?_
    refine lv_aload_n hx hb dL_isStep_60 rfl (lv_at hl 1 rfl) ?_
    refine lv_iload_n hx hb dL_isStep_61 rfl (lv_at hl 0 rfl) ?_
    refine lv_iload_n hx hb dL_isStep_62 rfl (lv_at hl 3 rfl) ?_
    refine lv_bipush (v := (8 : Int32)) hx hb dL_isStep_63 (by decide) ?_
    refine lv_ishr hx hb dL_isStep_65 ?_
    refine lv_iconst (v := (3 : Int32)) hx hb dL_isStep_66 (by decide) ?_
    refine lv_iand hx hb dL_isStep_67 ?_
    refine lv_if_le (tgt := 75) hx hb dL_isStep_68 (by decide) (fun hc68 => ?_) (fun hc68 => ?_)
    · replace hf := z_ip hc68 hf
      refine lv_iconst (v := (0 : Int32)) hx hb dL_isStep_75 (by decide) ?_
      exact t_L_isStep_76 B hf hW (lv_sub hl [2, 3, 0] rfl) 
    · replace hf := z_in hc68 hf
      refine lv_iconst (v := (1 : Int32)) hx hb dL_isStep_71 (by decide) ?_
      refine lv_goto (tgt := 76) hx hb dL_isStep_72 (by decide) ?_
      exact t_L_isStep_76 B hf hW (lv_sub hl [2, 3, 0] rfl) 
  replace hf := z_in hw0 hf
  by_cases hw1 : (l2 &&& (7 : Int32)) = (1 : Int32)
  · replace hf := z_ip hw1 hf
    refine lv_tableIn (tgt := 107) (off := 87) hx hb dL_isStep_20 (by rw [hw1]; decide) (by rw [hw1]; decide) (by rw [hw1]; decide) (by decide) ?_
    refine lv_aload_n hx hb dL_isStep_107 rfl (lv_at hl 1 rfl) ?_
    refine lv_bipush (v := (8 : Int32)) hx hb dL_isStep_108 (by decide) ?_
    obtain ⟨r9, hq8, hf⟩ := z_b hf
    refine z_ci hW (z_runV (As := [.int (8 : Int32)]) (rest := []) B hW zv_L_29 (K_X9_setting hq8) hg1 rfl rfl rfl (Nat.le_of_ble_eq_true rfl) hl.1 ⟨Nat.le_of_ble_eq_true rfl, Nat.le_of_ble_eq_true rfl⟩ dL_isStep_110 ⟨Nat.le_of_ble_eq_true rfl, Nat.le_of_ble_eq_true rfl⟩) (fun H locs hW => ?_)
    refine lv_bipush (v := (99 : Int32)) hx hb dL_isStep_113 (by decide) ?_
    refine lv_icmp_gt (tgt := 171) hx hb dL_isStep_115 (by decide) (fun hc115 => ?_) (fun hc115 => ?_)
    · replace hf := z_ip hc115 hf
      exact t_L_isStep_171 B hf hW (lv_sub hl [] rfl) 
    · replace hf := z_in hc115 hf
      refine lv_aload_n hx hb dL_isStep_118 rfl (lv_at hl 1 rfl) ?_
      refine lv_iload_n hx hb dL_isStep_119 rfl (lv_at hl 0 rfl) ?_
      refine lv_iconst (v := (1 : Int32)) hx hb dL_isStep_120 (by decide) ?_
      refine lv_iload_n hx hb dL_isStep_121 rfl (lv_at hl 3 rfl) ?_
      refine lv_bipush (v := (8 : Int32)) hx hb dL_isStep_122 (by decide) ?_
      refine lv_ishr hx hb dL_isStep_124 ?_
      refine lv_bipush (v := (20 : Int32)) hx hb dL_isStep_125 (by decide) ?_
      obtain ⟨r11, hq10, hf⟩ := z_b hf
      refine z_ci hW (z_runS (As := [.int (l2 >>> ((8 : Int32) &&& 31)), .int (20 : Int32)]) (rest := [.int (1 : Int32), .int r7, .ref l0]) B hW zv_L_15 (K_L_up hq10) rfl rfl (Nat.le_of_ble_eq_true rfl) hl.1 ⟨Nat.le_of_ble_eq_true rfl, Nat.le_of_ble_eq_true rfl⟩ dL_isStep_127 ⟨Nat.le_of_ble_eq_true rfl, Nat.le_of_ble_eq_true rfl⟩) (fun H locs hW => ?_)
      refine lv_iadd hx hb dL_isStep_130 ?_
      refine lv_iload_n hx hb dL_isStep_131 rfl (lv_at hl 3 rfl) ?_
      refine lv_bipush (v := (13 : Int32)) hx hb dL_isStep_132 (by decide) ?_
      refine lv_ishr hx hb dL_isStep_134 ?_
      refine lv_bipush (v := (10 : Int32)) hx hb dL_isStep_135 (by decide) ?_
      obtain ⟨r13, hq12, hf⟩ := z_b hf
      refine z_ci hW (z_runS (As := [.int (l2 >>> ((13 : Int32) &&& 31)), .int (10 : Int32)]) (rest := [.int ((1 : Int32) + r11), .int r7, .ref l0]) B hW zv_L_15 (K_L_up hq12) rfl rfl (Nat.le_of_ble_eq_true rfl) hl.1 ⟨Nat.le_of_ble_eq_true rfl, Nat.le_of_ble_eq_true rfl⟩ dL_isStep_137 ⟨Nat.le_of_ble_eq_true rfl, Nat.le_of_ble_eq_true rfl⟩) (fun H locs hW => ?_)
      obtain ⟨r15, σ16, hq14, hf⟩ := z_b2 hf
      refine z_ci hW (z_runV (As := [.int r7, .int ((1 : Int32) + r11), .int r13]) (rest := []) B hW zv_L_39 (K_X9_give hq14) hg1 rfl rfl rfl (Nat.le_of_ble_eq_true rfl) hl.1 ⟨Nat.le_of_ble_eq_true rfl, Nat.le_of_ble_eq_true rfl⟩ dL_isStep_140 ⟨Nat.le_of_ble_eq_true rfl, Nat.le_of_ble_eq_true rfl⟩) (fun H locs hW => ?_)
      refine lv_aload_n hx hb dL_isStep_143 rfl (lv_at hl 2 rfl) ?_
      refine lv_iload_n hx hb dL_isStep_144 rfl (lv_at hl 0 rfl) ?_
      refine lv_iconst (v := (1 : Int32)) hx hb dL_isStep_145 (by decide) ?_
      refine lv_iload_n hx hb dL_isStep_146 rfl (lv_at hl 3 rfl) ?_
      refine lv_bipush (v := (8 : Int32)) hx hb dL_isStep_147 (by decide) ?_
      refine lv_ishr hx hb dL_isStep_149 ?_
      refine lv_bipush (v := (20 : Int32)) hx hb dL_isStep_150 (by decide) ?_
      obtain ⟨r18, hq17, hf⟩ := z_b hf
      refine z_ci hW (z_runS (As := [.int (l2 >>> ((8 : Int32) &&& 31)), .int (20 : Int32)]) (rest := [.int (1 : Int32), .int r7, .ref l1, .int r15]) B hW zv_L_15 (K_L_up hq17) rfl rfl (Nat.le_of_ble_eq_true rfl) hl.1 ⟨Nat.le_of_ble_eq_true rfl, Nat.le_of_ble_eq_true rfl⟩ dL_isStep_152 ⟨Nat.le_of_ble_eq_true rfl, Nat.le_of_ble_eq_true rfl⟩) (fun H locs hW => ?_)
      refine lv_iadd hx hb dL_isStep_155 ?_
      refine lv_iload_n hx hb dL_isStep_156 rfl (lv_at hl 3 rfl) ?_
      refine lv_bipush (v := (13 : Int32)) hx hb dL_isStep_157 (by decide) ?_
      refine lv_ishr hx hb dL_isStep_159 ?_
      refine lv_bipush (v := (10 : Int32)) hx hb dL_isStep_160 (by decide) ?_
      obtain ⟨r20, hq19, hf⟩ := z_b hf
      refine z_ci hW (z_runS (As := [.int (l2 >>> ((13 : Int32) &&& 31)), .int (10 : Int32)]) (rest := [.int ((1 : Int32) + r18), .int r7, .ref l1, .int r15]) B hW zv_L_15 (K_L_up hq19) rfl rfl (Nat.le_of_ble_eq_true rfl) hl.1 ⟨Nat.le_of_ble_eq_true rfl, Nat.le_of_ble_eq_true rfl⟩ dL_isStep_162 ⟨Nat.le_of_ble_eq_true rfl, Nat.le_of_ble_eq_true rfl⟩) (fun H locs hW => ?_)
      obtain ⟨hg21, hf⟩ := z_g hf
      obtain ⟨r23, σ24, hq22, hf⟩ := z_b2 hf
      refine z_ci hW (z_runV (As := [.int r7, .int ((1 : Int32) + r18), .int r20]) (rest := [.int r15]) B hW zv_L_39 (K_X9_give hq22) hg21 rfl rfl rfl (Nat.le_of_ble_eq_true rfl) hl.1 ⟨Nat.le_of_ble_eq_true rfl, Nat.le_of_ble_eq_true rfl⟩ dL_isStep_165 ⟨Nat.le_of_ble_eq_true rfl, Nat.le_of_ble_eq_true rfl⟩) (fun H locs hW => ?_)
      refine lv_icmp_ne (tgt := 175) hx hb dL_isStep_168 (by decide) (fun hc168 => ?_) (fun hc168 => ?_)
      · replace hf := z_in hc168 hf
        refine lv_iconst (v := (0 : Int32)) hx hb dL_isStep_175 (by decide) ?_
        exact t_L_isStep_176 B hf hW (lv_sub hl [] rfl) 
      · replace hf := z_ip hc168 hf
        exact t_L_isStep_171 B hf hW (lv_sub hl [] rfl) 
  replace hf := z_in hw1 hf
  by_cases hw2 : (l2 &&& (7 : Int32)) = (2 : Int32)
  · replace hf := z_ip hw2 hf
    refine lv_tableIn (tgt := 107) (off := 87) hx hb dL_isStep_20 (by rw [hw2]; decide) (by rw [hw2]; decide) (by rw [hw2]; decide) (by decide) ?_
    refine lv_aload_n hx hb dL_isStep_107 rfl (lv_at hl 1 rfl) ?_
    refine lv_bipush (v := (8 : Int32)) hx hb dL_isStep_108 (by decide) ?_
    obtain ⟨r26, hq25, hf⟩ := z_b hf
    refine z_ci hW (z_runV (As := [.int (8 : Int32)]) (rest := []) B hW zv_L_29 (K_X9_setting hq25) hg1 rfl rfl rfl (Nat.le_of_ble_eq_true rfl) hl.1 ⟨Nat.le_of_ble_eq_true rfl, Nat.le_of_ble_eq_true rfl⟩ dL_isStep_110 ⟨Nat.le_of_ble_eq_true rfl, Nat.le_of_ble_eq_true rfl⟩) (fun H locs hW => ?_)
    refine lv_bipush (v := (99 : Int32)) hx hb dL_isStep_113 (by decide) ?_
    refine lv_icmp_gt (tgt := 171) hx hb dL_isStep_115 (by decide) (fun hc115 => ?_) (fun hc115 => ?_)
    · replace hf := z_ip hc115 hf
      exact t_L_isStep_171 B hf hW (lv_sub hl [] rfl) 
    · replace hf := z_in hc115 hf
      refine lv_aload_n hx hb dL_isStep_118 rfl (lv_at hl 1 rfl) ?_
      refine lv_iload_n hx hb dL_isStep_119 rfl (lv_at hl 0 rfl) ?_
      refine lv_iconst (v := (1 : Int32)) hx hb dL_isStep_120 (by decide) ?_
      refine lv_iload_n hx hb dL_isStep_121 rfl (lv_at hl 3 rfl) ?_
      refine lv_bipush (v := (8 : Int32)) hx hb dL_isStep_122 (by decide) ?_
      refine lv_ishr hx hb dL_isStep_124 ?_
      refine lv_bipush (v := (20 : Int32)) hx hb dL_isStep_125 (by decide) ?_
      obtain ⟨r28, hq27, hf⟩ := z_b hf
      refine z_ci hW (z_runS (As := [.int (l2 >>> ((8 : Int32) &&& 31)), .int (20 : Int32)]) (rest := [.int (1 : Int32), .int r7, .ref l0]) B hW zv_L_15 (K_L_up hq27) rfl rfl (Nat.le_of_ble_eq_true rfl) hl.1 ⟨Nat.le_of_ble_eq_true rfl, Nat.le_of_ble_eq_true rfl⟩ dL_isStep_127 ⟨Nat.le_of_ble_eq_true rfl, Nat.le_of_ble_eq_true rfl⟩) (fun H locs hW => ?_)
      refine lv_iadd hx hb dL_isStep_130 ?_
      refine lv_iload_n hx hb dL_isStep_131 rfl (lv_at hl 3 rfl) ?_
      refine lv_bipush (v := (13 : Int32)) hx hb dL_isStep_132 (by decide) ?_
      refine lv_ishr hx hb dL_isStep_134 ?_
      refine lv_bipush (v := (10 : Int32)) hx hb dL_isStep_135 (by decide) ?_
      obtain ⟨r30, hq29, hf⟩ := z_b hf
      refine z_ci hW (z_runS (As := [.int (l2 >>> ((13 : Int32) &&& 31)), .int (10 : Int32)]) (rest := [.int ((1 : Int32) + r28), .int r7, .ref l0]) B hW zv_L_15 (K_L_up hq29) rfl rfl (Nat.le_of_ble_eq_true rfl) hl.1 ⟨Nat.le_of_ble_eq_true rfl, Nat.le_of_ble_eq_true rfl⟩ dL_isStep_137 ⟨Nat.le_of_ble_eq_true rfl, Nat.le_of_ble_eq_true rfl⟩) (fun H locs hW => ?_)
      obtain ⟨r32, σ33, hq31, hf⟩ := z_b2 hf
      refine z_ci hW (z_runV (As := [.int r7, .int ((1 : Int32) + r28), .int r30]) (rest := []) B hW zv_L_39 (K_X9_give hq31) hg1 rfl rfl rfl (Nat.le_of_ble_eq_true rfl) hl.1 ⟨Nat.le_of_ble_eq_true rfl, Nat.le_of_ble_eq_true rfl⟩ dL_isStep_140 ⟨Nat.le_of_ble_eq_true rfl, Nat.le_of_ble_eq_true rfl⟩) (fun H locs hW => ?_)
      refine lv_aload_n hx hb dL_isStep_143 rfl (lv_at hl 2 rfl) ?_
      refine lv_iload_n hx hb dL_isStep_144 rfl (lv_at hl 0 rfl) ?_
      refine lv_iconst (v := (1 : Int32)) hx hb dL_isStep_145 (by decide) ?_
      refine lv_iload_n hx hb dL_isStep_146 rfl (lv_at hl 3 rfl) ?_
      refine lv_bipush (v := (8 : Int32)) hx hb dL_isStep_147 (by decide) ?_
      refine lv_ishr hx hb dL_isStep_149 ?_
      refine lv_bipush (v := (20 : Int32)) hx hb dL_isStep_150 (by decide) ?_
      obtain ⟨r35, hq34, hf⟩ := z_b hf
      refine z_ci hW (z_runS (As := [.int (l2 >>> ((8 : Int32) &&& 31)), .int (20 : Int32)]) (rest := [.int (1 : Int32), .int r7, .ref l1, .int r32]) B hW zv_L_15 (K_L_up hq34) rfl rfl (Nat.le_of_ble_eq_true rfl) hl.1 ⟨Nat.le_of_ble_eq_true rfl, Nat.le_of_ble_eq_true rfl⟩ dL_isStep_152 ⟨Nat.le_of_ble_eq_true rfl, Nat.le_of_ble_eq_true rfl⟩) (fun H locs hW => ?_)
      refine lv_iadd hx hb dL_isStep_155 ?_
      refine lv_iload_n hx hb dL_isStep_156 rfl (lv_at hl 3 rfl) ?_
      refine lv_bipush (v := (13 : Int32)) hx hb dL_isStep_157 (by decide) ?_
      refine lv_ishr hx hb dL_isStep_159 ?_
      refine lv_bipush (v := (10 : Int32)) hx hb dL_isStep_160 (by decide) ?_
      obtain ⟨r37, hq36, hf⟩ := z_b hf
      refine z_ci hW (z_runS (As := [.int (l2 >>> ((13 : Int32) &&& 31)), .int (10 : Int32)]) (rest := [.int ((1 : Int32) + r35), .int r7, .ref l1, .int r32]) B hW zv_L_15 (K_L_up hq36) rfl rfl (Nat.le_of_ble_eq_true rfl) hl.1 ⟨Nat.le_of_ble_eq_true rfl, Nat.le_of_ble_eq_true rfl⟩ dL_isStep_162 ⟨Nat.le_of_ble_eq_true rfl, Nat.le_of_ble_eq_true rfl⟩) (fun H locs hW => ?_)
      obtain ⟨hg38, hf⟩ := z_g hf
      obtain ⟨r40, σ41, hq39, hf⟩ := z_b2 hf
      refine z_ci hW (z_runV (As := [.int r7, .int ((1 : Int32) + r35), .int r37]) (rest := [.int r32]) B hW zv_L_39 (K_X9_give hq39) hg38 rfl rfl rfl (Nat.le_of_ble_eq_true rfl) hl.1 ⟨Nat.le_of_ble_eq_true rfl, Nat.le_of_ble_eq_true rfl⟩ dL_isStep_165 ⟨Nat.le_of_ble_eq_true rfl, Nat.le_of_ble_eq_true rfl⟩) (fun H locs hW => ?_)
      refine lv_icmp_ne (tgt := 175) hx hb dL_isStep_168 (by decide) (fun hc168 => ?_) (fun hc168 => ?_)
      · replace hf := z_in hc168 hf
        refine lv_iconst (v := (0 : Int32)) hx hb dL_isStep_175 (by decide) ?_
        exact t_L_isStep_176 B hf hW (lv_sub hl [] rfl) 
      · replace hf := z_ip hc168 hf
        exact t_L_isStep_171 B hf hW (lv_sub hl [] rfl) 
  replace hf := z_in hw2 hf
  by_cases hw3 : (l2 &&& (7 : Int32)) = (3 : Int32)
  · replace hf := z_ip hw3 hf
    refine lv_tableIn (tgt := 107) (off := 87) hx hb dL_isStep_20 (by rw [hw3]; decide) (by rw [hw3]; decide) (by rw [hw3]; decide) (by decide) ?_
    refine lv_aload_n hx hb dL_isStep_107 rfl (lv_at hl 1 rfl) ?_
    refine lv_bipush (v := (8 : Int32)) hx hb dL_isStep_108 (by decide) ?_
    obtain ⟨r43, hq42, hf⟩ := z_b hf
    refine z_ci hW (z_runV (As := [.int (8 : Int32)]) (rest := []) B hW zv_L_29 (K_X9_setting hq42) hg1 rfl rfl rfl (Nat.le_of_ble_eq_true rfl) hl.1 ⟨Nat.le_of_ble_eq_true rfl, Nat.le_of_ble_eq_true rfl⟩ dL_isStep_110 ⟨Nat.le_of_ble_eq_true rfl, Nat.le_of_ble_eq_true rfl⟩) (fun H locs hW => ?_)
    refine lv_bipush (v := (99 : Int32)) hx hb dL_isStep_113 (by decide) ?_
    refine lv_icmp_gt (tgt := 171) hx hb dL_isStep_115 (by decide) (fun hc115 => ?_) (fun hc115 => ?_)
    · replace hf := z_ip hc115 hf
      exact t_L_isStep_171 B hf hW (lv_sub hl [] rfl) 
    · replace hf := z_in hc115 hf
      refine lv_aload_n hx hb dL_isStep_118 rfl (lv_at hl 1 rfl) ?_
      refine lv_iload_n hx hb dL_isStep_119 rfl (lv_at hl 0 rfl) ?_
      refine lv_iconst (v := (1 : Int32)) hx hb dL_isStep_120 (by decide) ?_
      refine lv_iload_n hx hb dL_isStep_121 rfl (lv_at hl 3 rfl) ?_
      refine lv_bipush (v := (8 : Int32)) hx hb dL_isStep_122 (by decide) ?_
      refine lv_ishr hx hb dL_isStep_124 ?_
      refine lv_bipush (v := (20 : Int32)) hx hb dL_isStep_125 (by decide) ?_
      obtain ⟨r45, hq44, hf⟩ := z_b hf
      refine z_ci hW (z_runS (As := [.int (l2 >>> ((8 : Int32) &&& 31)), .int (20 : Int32)]) (rest := [.int (1 : Int32), .int r7, .ref l0]) B hW zv_L_15 (K_L_up hq44) rfl rfl (Nat.le_of_ble_eq_true rfl) hl.1 ⟨Nat.le_of_ble_eq_true rfl, Nat.le_of_ble_eq_true rfl⟩ dL_isStep_127 ⟨Nat.le_of_ble_eq_true rfl, Nat.le_of_ble_eq_true rfl⟩) (fun H locs hW => ?_)
      refine lv_iadd hx hb dL_isStep_130 ?_
      refine lv_iload_n hx hb dL_isStep_131 rfl (lv_at hl 3 rfl) ?_
      refine lv_bipush (v := (13 : Int32)) hx hb dL_isStep_132 (by decide) ?_
      refine lv_ishr hx hb dL_isStep_134 ?_
      refine lv_bipush (v := (10 : Int32)) hx hb dL_isStep_135 (by decide) ?_
      obtain ⟨r47, hq46, hf⟩ := z_b hf
      refine z_ci hW (z_runS (As := [.int (l2 >>> ((13 : Int32) &&& 31)), .int (10 : Int32)]) (rest := [.int ((1 : Int32) + r45), .int r7, .ref l0]) B hW zv_L_15 (K_L_up hq46) rfl rfl (Nat.le_of_ble_eq_true rfl) hl.1 ⟨Nat.le_of_ble_eq_true rfl, Nat.le_of_ble_eq_true rfl⟩ dL_isStep_137 ⟨Nat.le_of_ble_eq_true rfl, Nat.le_of_ble_eq_true rfl⟩) (fun H locs hW => ?_)
      obtain ⟨r49, σ50, hq48, hf⟩ := z_b2 hf
      refine z_ci hW (z_runV (As := [.int r7, .int ((1 : Int32) + r45), .int r47]) (rest := []) B hW zv_L_39 (K_X9_give hq48) hg1 rfl rfl rfl (Nat.le_of_ble_eq_true rfl) hl.1 ⟨Nat.le_of_ble_eq_true rfl, Nat.le_of_ble_eq_true rfl⟩ dL_isStep_140 ⟨Nat.le_of_ble_eq_true rfl, Nat.le_of_ble_eq_true rfl⟩) (fun H locs hW => ?_)
      refine lv_aload_n hx hb dL_isStep_143 rfl (lv_at hl 2 rfl) ?_
      refine lv_iload_n hx hb dL_isStep_144 rfl (lv_at hl 0 rfl) ?_
      refine lv_iconst (v := (1 : Int32)) hx hb dL_isStep_145 (by decide) ?_
      refine lv_iload_n hx hb dL_isStep_146 rfl (lv_at hl 3 rfl) ?_
      refine lv_bipush (v := (8 : Int32)) hx hb dL_isStep_147 (by decide) ?_
      refine lv_ishr hx hb dL_isStep_149 ?_
      refine lv_bipush (v := (20 : Int32)) hx hb dL_isStep_150 (by decide) ?_
      obtain ⟨r52, hq51, hf⟩ := z_b hf
      refine z_ci hW (z_runS (As := [.int (l2 >>> ((8 : Int32) &&& 31)), .int (20 : Int32)]) (rest := [.int (1 : Int32), .int r7, .ref l1, .int r49]) B hW zv_L_15 (K_L_up hq51) rfl rfl (Nat.le_of_ble_eq_true rfl) hl.1 ⟨Nat.le_of_ble_eq_true rfl, Nat.le_of_ble_eq_true rfl⟩ dL_isStep_152 ⟨Nat.le_of_ble_eq_true rfl, Nat.le_of_ble_eq_true rfl⟩) (fun H locs hW => ?_)
      refine lv_iadd hx hb dL_isStep_155 ?_
      refine lv_iload_n hx hb dL_isStep_156 rfl (lv_at hl 3 rfl) ?_
      refine lv_bipush (v := (13 : Int32)) hx hb dL_isStep_157 (by decide) ?_
      refine lv_ishr hx hb dL_isStep_159 ?_
      refine lv_bipush (v := (10 : Int32)) hx hb dL_isStep_160 (by decide) ?_
      obtain ⟨r54, hq53, hf⟩ := z_b hf
      refine z_ci hW (z_runS (As := [.int (l2 >>> ((13 : Int32) &&& 31)), .int (10 : Int32)]) (rest := [.int ((1 : Int32) + r52), .int r7, .ref l1, .int r49]) B hW zv_L_15 (K_L_up hq53) rfl rfl (Nat.le_of_ble_eq_true rfl) hl.1 ⟨Nat.le_of_ble_eq_true rfl, Nat.le_of_ble_eq_true rfl⟩ dL_isStep_162 ⟨Nat.le_of_ble_eq_true rfl, Nat.le_of_ble_eq_true rfl⟩) (fun H locs hW => ?_)
      obtain ⟨hg55, hf⟩ := z_g hf
      obtain ⟨r57, σ58, hq56, hf⟩ := z_b2 hf
      refine z_ci hW (z_runV (As := [.int r7, .int ((1 : Int32) + r52), .int r54]) (rest := [.int r49]) B hW zv_L_39 (K_X9_give hq56) hg55 rfl rfl rfl (Nat.le_of_ble_eq_true rfl) hl.1 ⟨Nat.le_of_ble_eq_true rfl, Nat.le_of_ble_eq_true rfl⟩ dL_isStep_165 ⟨Nat.le_of_ble_eq_true rfl, Nat.le_of_ble_eq_true rfl⟩) (fun H locs hW => ?_)
      refine lv_icmp_ne (tgt := 175) hx hb dL_isStep_168 (by decide) (fun hc168 => ?_) (fun hc168 => ?_)
      · replace hf := z_in hc168 hf
        refine lv_iconst (v := (0 : Int32)) hx hb dL_isStep_175 (by decide) ?_
        exact t_L_isStep_176 B hf hW (lv_sub hl [] rfl) 
      · replace hf := z_ip hc168 hf
        exact t_L_isStep_171 B hf hW (lv_sub hl [] rfl) 
  replace hf := z_in hw3 hf
  by_cases hw4 : (l2 &&& (7 : Int32)) = (4 : Int32)
  · replace hf := z_ip hw4 hf
    refine lv_tableIn (tgt := 177) (off := 157) hx hb dL_isStep_20 (by rw [hw4]; decide) (by rw [hw4]; decide) (by rw [hw4]; decide) (by decide) ?_
    refine lv_aload_n hx hb dL_isStep_177 rfl (lv_at hl 1 rfl) ?_
    refine lv_bipush (v := (6 : Int32)) hx hb dL_isStep_178 (by decide) ?_
    obtain ⟨r60, hq59, hf⟩ := z_b hf
    refine z_ci hW (z_runV (As := [.int (6 : Int32)]) (rest := []) B hW zv_L_29 (K_X9_setting hq59) hg1 rfl rfl rfl (Nat.le_of_ble_eq_true rfl) hl.1 ⟨Nat.le_of_ble_eq_true rfl, Nat.le_of_ble_eq_true rfl⟩ dL_isStep_180 ⟨Nat.le_of_ble_eq_true rfl, Nat.le_of_ble_eq_true rfl⟩) (fun H locs hW => ?_)
    refine lv_iload_n hx hb dL_isStep_183 rfl (lv_at hl 3 rfl) ?_
    refine lv_bipush (v := (8 : Int32)) hx hb dL_isStep_184 (by decide) ?_
    refine lv_ishr hx hb dL_isStep_186 ?_
    refine lv_bipush (v := (60 : Int32)) hx hb dL_isStep_187 (by decide) ?_
    obtain ⟨r62, hq61, hf⟩ := z_b hf
    refine z_ci hW (z_runS (As := [.int (l2 >>> ((8 : Int32) &&& 31)), .int (60 : Int32)]) (rest := [.int r60]) B hW zv_L_15 (K_L_up hq61) rfl rfl (Nat.le_of_ble_eq_true rfl) hl.1 ⟨Nat.le_of_ble_eq_true rfl, Nat.le_of_ble_eq_true rfl⟩ dL_isStep_189 ⟨Nat.le_of_ble_eq_true rfl, Nat.le_of_ble_eq_true rfl⟩) (fun H locs hW => ?_)
    refine lv_iadd hx hb dL_isStep_192 ?_
    obtain ⟨x63, hx64, hf⟩ := z_l hf
    rw [hx64]
    refine lv_istore (lv' := [(4, .int x63), (3, .int r7), (0, .ref l0), (1, .ref l1), (2, .int l2)]) hx hb dL_isStep_193 hl (by decide) rfl (fun ls hl => ?_)
    refine lv_iload hx hb dL_isStep_195 (lv_at hl 0 rfl) ?_
    refine lv_iload_n hx hb dL_isStep_197 rfl (lv_at hl 4 rfl) ?_
    refine lv_bipush (v := (14 : Int32)) hx hb dL_isStep_198 (by decide) ?_
    refine lv_ishr hx hb dL_isStep_200 ?_
    refine lv_iload_n hx hb dL_isStep_201 rfl (lv_at hl 4 rfl) ?_
    refine lv_bipush (v := (25 : Int32)) hx hb dL_isStep_202 (by decide) ?_
    refine lv_ishr hx hb dL_isStep_204 ?_
    refine lv_iconst (v := (1 : Int32)) hx hb dL_isStep_205 (by decide) ?_
    refine lv_iand hx hb dL_isStep_206 ?_
    refine lv_if_ne (tgt := 214) hx hb dL_isStep_207 (by decide) (fun hc207 => ?_) (fun hc207 => ?_)
    · replace hf := z_in hc207 hf
      refine lv_bipush (v := (90 : Int32)) hx hb dL_isStep_214 (by decide) ?_
      exact t_L_isStep_216 B hf hW (lv_sub hl [2, 3, 0] rfl) 
    · replace hf := z_ip hc207 hf
      refine lv_iconst (v := (3 : Int32)) hx hb dL_isStep_210 (by decide) ?_
      refine lv_goto (tgt := 216) hx hb dL_isStep_211 (by decide) ?_
      exact t_L_isStep_216 B hf hW (lv_sub hl [2, 3, 0] rfl) 
  replace hf := z_in hw4 hf
  by_cases hw5 : (l2 &&& (7 : Int32)) = (5 : Int32)
  · replace hf := z_ip hw5 hf
    refine lv_tableIn (tgt := 270) (off := 250) hx hb dL_isStep_20 (by rw [hw5]; decide) (by rw [hw5]; decide) (by rw [hw5]; decide) (by decide) ?_
    refine lv_iload_n hx hb dL_isStep_270 rfl (lv_at hl 3 rfl) ?_
    refine lv_bipush (v := (8 : Int32)) hx hb dL_isStep_271 (by decide) ?_
    refine lv_ishr hx hb dL_isStep_273 ?_
    refine lv_iconst (v := (3 : Int32)) hx hb dL_isStep_274 (by decide) ?_
    refine lv_iand hx hb dL_isStep_275 ?_
    refine lv_if_gt (tgt := 290) hx hb dL_isStep_276 (by decide) (fun hc276 => ?_) (fun hc276 => ?_)
    · replace hf := z_ip hc276 hf
      exact t_L_isStep_290 B hf hW (lv_sub hl [] rfl) 
    · replace hf := z_in hc276 hf
      refine lv_aload_n hx hb dL_isStep_279 rfl (lv_at hl 1 rfl) ?_
      obtain ⟨r66, σ67, hq65, hf⟩ := z_b2 hf
      refine z_ci hW (z_runV (As := []) (rest := []) B hW zv_L_45 (K_X9_loseToken hq65) hg1 rfl rfl rfl (Nat.le_of_ble_eq_true rfl) hl.1 ⟨Nat.le_of_ble_eq_true rfl, Nat.le_of_ble_eq_true rfl⟩ dL_isStep_280 ⟨Nat.le_of_ble_eq_true rfl, Nat.le_of_ble_eq_true rfl⟩) (fun H locs hW => ?_)
      refine lv_aload_n hx hb dL_isStep_283 rfl (lv_at hl 2 rfl) ?_
      obtain ⟨hg68, hf⟩ := z_g hf
      obtain ⟨r70, σ71, hq69, hf⟩ := z_b2 hf
      refine z_ci hW (z_runV (As := []) (rest := [.int r66]) B hW zv_L_45 (K_X9_loseToken hq69) hg68 rfl rfl rfl (Nat.le_of_ble_eq_true rfl) hl.1 ⟨Nat.le_of_ble_eq_true rfl, Nat.le_of_ble_eq_true rfl⟩ dL_isStep_284 ⟨Nat.le_of_ble_eq_true rfl, Nat.le_of_ble_eq_true rfl⟩) (fun H locs hW => ?_)
      refine lv_icmp_ne (tgt := 294) hx hb dL_isStep_287 (by decide) (fun hc287 => ?_) (fun hc287 => ?_)
      · replace hf := z_in hc287 hf
        refine lv_iconst (v := (0 : Int32)) hx hb dL_isStep_294 (by decide) ?_
        exact t_L_isStep_295 B hf hW (lv_sub hl [] rfl) 
      · replace hf := z_ip hc287 hf
        exact t_L_isStep_290 B hf hW (lv_sub hl [] rfl) 
  replace hf := z_in hw5 hf
  refine lv_tableOut (tgt := 296) hx hb dL_isStep_20 (z_tout (fun k h1 h2 => by rcases (by omega : k = 0 ∨ k = 1 ∨ k = 2 ∨ k = 3 ∨ k = 4 ∨ k = 5) with rfl | rfl | rfl | rfl | rfl | rfl <;> assumption)) (by decide) ?_
  refine lv_iload_n hx hb dL_isStep_296 rfl (lv_at hl 3 rfl) ?_
  refine lv_bipush (v := (8 : Int32)) hx hb dL_isStep_297 (by decide) ?_
  refine lv_ishr hx hb dL_isStep_299 ?_
  refine lv_bipush (v := (60 : Int32)) hx hb dL_isStep_300 (by decide) ?_
  obtain ⟨r73, hq72, hf⟩ := z_b hf
  refine z_ci hW (z_runS (As := [.int (l2 >>> ((8 : Int32) &&& 31)), .int (60 : Int32)]) (rest := []) B hW zv_L_15 (K_L_up hq72) rfl rfl (Nat.le_of_ble_eq_true rfl) hl.1 ⟨Nat.le_of_ble_eq_true rfl, Nat.le_of_ble_eq_true rfl⟩ dL_isStep_302 ⟨Nat.le_of_ble_eq_true rfl, Nat.le_of_ble_eq_true rfl⟩) (fun H locs hW => ?_)
  refine lv_istore (lv' := [(4, .int r73), (3, .int r7), (0, .ref l0), (1, .ref l1), (2, .int l2)]) hx hb dL_isStep_305 hl (by decide) rfl (fun ls hl => ?_)
  refine lv_iload hx hb dL_isStep_307 (lv_at hl 0 rfl) ?_
  refine lv_if_ne (tgt := 316) hx hb dL_isStep_309 (by decide) (fun hc309 => ?_) (fun hc309 => ?_)
  · replace hf := z_in hc309 hf
    refine lv_iload_n hx hb dL_isStep_316 rfl (lv_at hl 4 rfl) ?_
    refine lv_bipush (v := (16 : Int32)) hx hb dL_isStep_317 (by decide) ?_
    refine lv_ishr hx hb dL_isStep_319 ?_
    refine lv_iload hx hb dL_isStep_320 (lv_at hl 0 rfl) ?_
    obtain ⟨r75, hq74, hf⟩ := z_b hf
    refine z_ci hW (z_runS (As := [.int (l2 >>> ((16 : Int32) &&& 31)), .int r73]) (rest := []) B hW zv_L_15 (K_L_up hq74) rfl rfl (Nat.le_of_ble_eq_true rfl) hl.1 ⟨Nat.le_of_ble_eq_true rfl, Nat.le_of_ble_eq_true rfl⟩ dL_isStep_322 ⟨Nat.le_of_ble_eq_true rfl, Nat.le_of_ble_eq_true rfl⟩) (fun H locs hW => ?_)
    exact t_L_isStep_325 B hf hW (lv_sub hl [2, 3, 0] rfl) 
  · replace hf := z_ip hc309 hf
    refine lv_iconst (v := (0 : Int32)) hx hb dL_isStep_312 (by decide) ?_
    refine lv_goto (tgt := 325) hx hb dL_isStep_313 (by decide) ?_
    exact t_L_isStep_325 B hf hW (lv_sub hl [2, 3, 0] rfl) 
end GEN
