section GEN
variable {p : Program} {l : Launch} {e : Env} {s : State} {m : MethodId} {args : Array Value} {below : List Frame} {meth : Method} {c : Code} {D : va_G} {cA : Nat → ClassId} {bs : Nat} {b L : Nat} {xs : Nat → Int32}
set_option maxRecDepth 100000 in
def f_L_areAlike_307 (σ : zSt) (s0 : Int32) : Option (Int32) :=
(if z_bl s0 then (some s0) else none)
set_option maxRecDepth 20000 in
set_option maxHeartbeats 4000000 in
theorem t_L_areAlike_307 (B : z_B p s m args meth c D cA bs RL cL_areAlike 6 (some .boolean)) {r : Int32} {σ : zSt} {s0 : Int32} (hf : f_L_areAlike_307 σ s0 = some r) {H : Heap} {locs : List Loc} {ls : Array Slot} (hW : z_Ok D cA bs s σ H locs) (hl : lv_has ls 6 [])  : W p l e (zrm 4 0 0 90) s m args below meth c H locs 0 0 (MQ below (z_Qi D cA bs r σ) args s 0 0 (fun q => bs ≤ q)) (F0 m 307 ls [.int s0]) := by
  have hx := B.1
  have hb := B.2.1
  have hown := B.2.2.2.1
  have hts := B.2.2.2.2.1
  unfold f_L_areAlike_307 at hf
  obtain ⟨hg1, hf⟩ := z_g hf
  obtain rfl := z_e1 hf
  exact z_rz hg1 B hW dL_areAlike_307 (Nat.le_of_ble_eq_true rfl) (Nat.le_of_ble_eq_true rfl)
set_option maxRecDepth 100000 in
def f_L_areAlike_306 (σ : zSt) : Option (Int32) :=
(f_L_areAlike_307 σ (0 : Int32))
set_option maxRecDepth 20000 in
set_option maxHeartbeats 4000000 in
theorem t_L_areAlike_306 (B : z_B p s m args meth c D cA bs RL cL_areAlike 6 (some .boolean)) {r : Int32} {σ : zSt} (hf : f_L_areAlike_306 σ = some r) {H : Heap} {locs : List Loc} {ls : Array Slot} (hW : z_Ok D cA bs s σ H locs) (hl : lv_has ls 6 [])  : W p l e (zrm 4 0 0 90) s m args below meth c H locs 0 0 (MQ below (z_Qi D cA bs r σ) args s 0 0 (fun q => bs ≤ q)) (F0 m 306 ls []) := by
  have hx := B.1
  have hb := B.2.1
  have hown := B.2.2.2.1
  have hts := B.2.2.2.2.1
  unfold f_L_areAlike_306 at hf
  refine lv_iconst (v := (0 : Int32)) hx hb dL_areAlike_306 (by decide) ?_
  exact t_L_areAlike_307 B hf hW hl 
set_option maxRecDepth 100000 in
def f_L_areAlike_247 (σ : zSt) (l0 : Nat) (l1 : Nat) (l2 : Int32) : Option (Int32) :=
(if l2 = 0 then
(f_L_areAlike_306 σ)
else
(if z_ob σ l0 8 then (zb (f_X9_logged σ l0) (fun r3 => (if z_ob σ l1 8 then (zb (f_X9_logged σ l1) (fun r6 => (if r3 = r6 then
(zb (f_X9_waits σ l0 (1 : Int32)) (fun r8 => (zb (f_X9_waits σ l1 (1 : Int32)) (fun r10 => (if (Op.cmpValue (FP.dcmp r8 r10) .l) = 0 then
(zb (f_X9_waits σ l0 (0 : Int32)) (fun r12 => (zb (f_X9_waits σ l1 (0 : Int32)) (fun r14 => (if (Op.cmpValue (FP.dcmp r12 r14) .l) = 0 then
(zb (f_X9_use σ l0) (fun r16 => (zb (f_X9_use σ l1) (fun r18 => (if (Op.cmpValue (FP.dcmp r16 r18) .l) = 0 then
(f_L_areAlike_307 σ (1 : Int32))
else
(f_L_areAlike_306 σ))))))
else
(f_L_areAlike_306 σ))))))
else
(f_L_areAlike_306 σ))))))
else
(f_L_areAlike_306 σ)))) else none))) else none))
set_option maxRecDepth 20000 in
set_option maxHeartbeats 4000000 in
theorem t_L_areAlike_247 (B : z_B p s m args meth c D cA bs RL cL_areAlike 6 (some .boolean)) {r : Int32} {σ : zSt} {l0 : Nat} {l1 : Nat} {l2 : Int32} (hf : f_L_areAlike_247 σ l0 l1 l2 = some r) {H : Heap} {locs : List Loc} {ls : Array Slot} (hW : z_Ok D cA bs s σ H locs) (hl : lv_has ls 6 [(0, .ref l0), (1, .ref l1), (2, .int l2)])  : W p l e (zrm 4 0 0 90) s m args below meth c H locs 0 0 (MQ below (z_Qi D cA bs r σ) args s 0 0 (fun q => bs ≤ q)) (F0 m 247 ls []) := by
  have hx := B.1
  have hb := B.2.1
  have hown := B.2.2.2.1
  have hts := B.2.2.2.2.1
  unfold f_L_areAlike_247 at hf
  refine lv_iload_n hx hb dL_areAlike_247 rfl (lv_at hl 2 rfl) ?_
  refine lv_if_eq (tgt := 306) hx hb dL_areAlike_248 (by decide) (fun hc248 => ?_) (fun hc248 => ?_)
  · replace hf := z_ip hc248 hf
    exact t_L_areAlike_306 B hf hW (lv_sub hl [] rfl) 
  · replace hf := z_in hc248 hf
    refine lv_aload_n hx hb dL_areAlike_251 rfl (lv_at hl 0 rfl) ?_
    obtain ⟨hg1, hf⟩ := z_g hf
    obtain ⟨r3, hq2, hf⟩ := z_b hf
    refine z_ci hW (z_runV (As := []) (rest := []) B hW zv_L_58 (K_X9_logged hq2) hg1 rfl rfl rfl (Nat.le_of_ble_eq_true rfl) hl.1 ⟨Nat.le_of_ble_eq_true rfl, Nat.le_of_ble_eq_true rfl⟩ dL_areAlike_252 ⟨Nat.le_of_ble_eq_true rfl, Nat.le_of_ble_eq_true rfl⟩) (fun H locs hW => ?_)
    refine lv_aload_n hx hb dL_areAlike_255 rfl (lv_at hl 1 rfl) ?_
    obtain ⟨hg4, hf⟩ := z_g hf
    obtain ⟨r6, hq5, hf⟩ := z_b hf
    refine z_ci hW (z_runV (As := []) (rest := [.int r3]) B hW zv_L_58 (K_X9_logged hq5) hg4 rfl rfl rfl (Nat.le_of_ble_eq_true rfl) hl.1 ⟨Nat.le_of_ble_eq_true rfl, Nat.le_of_ble_eq_true rfl⟩ dL_areAlike_256 ⟨Nat.le_of_ble_eq_true rfl, Nat.le_of_ble_eq_true rfl⟩) (fun H locs hW => ?_)
    refine lv_icmp_ne (tgt := 306) hx hb dL_areAlike_259 (by decide) (fun hc259 => ?_) (fun hc259 => ?_)
    · replace hf := z_in hc259 hf
      exact t_L_areAlike_306 B hf hW (lv_sub hl [] rfl) 
    · replace hf := z_ip hc259 hf
      refine lv_aload_n hx hb dL_areAlike_262 rfl (lv_at hl 0 rfl) ?_
      refine lv_iconst (v := (1 : Int32)) hx hb dL_areAlike_263 (by decide) ?_
      obtain ⟨r8, hq7, hf⟩ := z_b hf
      refine z_cd hW (z_runV (As := [.int (1 : Int32)]) (rest := []) B hW zv_L_64 (K_X9_waits hq7) hg1 rfl rfl rfl (Nat.le_of_ble_eq_true rfl) hl.1 ⟨Nat.le_of_ble_eq_true rfl, Nat.le_of_ble_eq_true rfl⟩ dL_areAlike_264 ⟨Nat.le_of_ble_eq_true rfl, Nat.le_of_ble_eq_true rfl⟩) (fun H locs hW => ?_)
      refine lv_aload_n hx hb dL_areAlike_267 rfl (lv_at hl 1 rfl) ?_
      refine lv_iconst (v := (1 : Int32)) hx hb dL_areAlike_268 (by decide) ?_
      obtain ⟨r10, hq9, hf⟩ := z_b hf
      refine z_cd hW (z_runV (As := [.int (1 : Int32)]) (rest := [.double r8]) B hW zv_L_64 (K_X9_waits hq9) hg4 rfl rfl rfl (Nat.le_of_ble_eq_true rfl) hl.1 ⟨Nat.le_of_ble_eq_true rfl, Nat.le_of_ble_eq_true rfl⟩ dL_areAlike_269 ⟨Nat.le_of_ble_eq_true rfl, Nat.le_of_ble_eq_true rfl⟩) (fun H locs hW => ?_)
      refine lv_dcmp hx hb dL_areAlike_272 ?_
      refine lv_if_ne (tgt := 306) hx hb dL_areAlike_273 (by decide) (fun hc273 => ?_) (fun hc273 => ?_)
      · replace hf := z_in hc273 hf
        exact t_L_areAlike_306 B hf hW (lv_sub hl [] rfl) 
      · replace hf := z_ip hc273 hf
        refine lv_aload_n hx hb dL_areAlike_276 rfl (lv_at hl 0 rfl) ?_
        refine lv_iconst (v := (0 : Int32)) hx hb dL_areAlike_277 (by decide) ?_
        obtain ⟨r12, hq11, hf⟩ := z_b hf
        refine z_cd hW (z_runV (As := [.int (0 : Int32)]) (rest := []) B hW zv_L_64 (K_X9_waits hq11) hg1 rfl rfl rfl (Nat.le_of_ble_eq_true rfl) hl.1 ⟨Nat.le_of_ble_eq_true rfl, Nat.le_of_ble_eq_true rfl⟩ dL_areAlike_278 ⟨Nat.le_of_ble_eq_true rfl, Nat.le_of_ble_eq_true rfl⟩) (fun H locs hW => ?_)
        refine lv_aload_n hx hb dL_areAlike_281 rfl (lv_at hl 1 rfl) ?_
        refine lv_iconst (v := (0 : Int32)) hx hb dL_areAlike_282 (by decide) ?_
        obtain ⟨r14, hq13, hf⟩ := z_b hf
        refine z_cd hW (z_runV (As := [.int (0 : Int32)]) (rest := [.double r12]) B hW zv_L_64 (K_X9_waits hq13) hg4 rfl rfl rfl (Nat.le_of_ble_eq_true rfl) hl.1 ⟨Nat.le_of_ble_eq_true rfl, Nat.le_of_ble_eq_true rfl⟩ dL_areAlike_283 ⟨Nat.le_of_ble_eq_true rfl, Nat.le_of_ble_eq_true rfl⟩) (fun H locs hW => ?_)
        refine lv_dcmp hx hb dL_areAlike_286 ?_
        refine lv_if_ne (tgt := 306) hx hb dL_areAlike_287 (by decide) (fun hc287 => ?_) (fun hc287 => ?_)
        · replace hf := z_in hc287 hf
          exact t_L_areAlike_306 B hf hW (lv_sub hl [] rfl) 
        · replace hf := z_ip hc287 hf
          refine lv_aload_n hx hb dL_areAlike_290 rfl (lv_at hl 0 rfl) ?_
          obtain ⟨r16, hq15, hf⟩ := z_b hf
          refine z_cd hW (z_runV (As := []) (rest := []) B hW zv_L_68 (K_X9_use hq15) hg1 rfl rfl rfl (Nat.le_of_ble_eq_true rfl) hl.1 ⟨Nat.le_of_ble_eq_true rfl, Nat.le_of_ble_eq_true rfl⟩ dL_areAlike_291 ⟨Nat.le_of_ble_eq_true rfl, Nat.le_of_ble_eq_true rfl⟩) (fun H locs hW => ?_)
          refine lv_aload_n hx hb dL_areAlike_294 rfl (lv_at hl 1 rfl) ?_
          obtain ⟨r18, hq17, hf⟩ := z_b hf
          refine z_cd hW (z_runV (As := []) (rest := [.double r16]) B hW zv_L_68 (K_X9_use hq17) hg4 rfl rfl rfl (Nat.le_of_ble_eq_true rfl) hl.1 ⟨Nat.le_of_ble_eq_true rfl, Nat.le_of_ble_eq_true rfl⟩ dL_areAlike_295 ⟨Nat.le_of_ble_eq_true rfl, Nat.le_of_ble_eq_true rfl⟩) (fun H locs hW => ?_)
          refine lv_dcmp hx hb dL_areAlike_298 ?_
          refine lv_if_ne (tgt := 306) hx hb dL_areAlike_299 (by decide) (fun hc299 => ?_) (fun hc299 => ?_)
          · replace hf := z_in hc299 hf
            exact t_L_areAlike_306 B hf hW (lv_sub hl [] rfl) 
          · replace hf := z_ip hc299 hf
            refine lv_iconst (v := (1 : Int32)) hx hb dL_areAlike_302 (by decide) ?_
            refine lv_goto (tgt := 307) hx hb dL_areAlike_303 (by decide) ?_
            exact t_L_areAlike_307 B hf hW (lv_sub hl [] rfl) 
set_option maxRecDepth 100000 in
def f_L_areAlike_234 (σ : zSt) (l0 : Nat) (l1 : Nat) (l3 : Int32) (l4 : Int32) (s0 : Int32) : Option ((Int32 × Int32) ⊕ ((Int32 × Int32) ⊕ (Int32))) :=
(some (.inl (s0, (l4 + (1 : Int32)))))
set_option maxRecDepth 20000 in
set_option maxHeartbeats 4000000 in
theorem t_L_areAlike_234 (B : z_B p s m args meth c D cA bs RL cL_areAlike 6 (some .boolean)) {r : Int32} {o1 : (Int32 × Int32) ⊕ (Int32)} {o2 : (Int32 × Int32) ⊕ ((Int32 × Int32) ⊕ (Int32))} {σ : zSt} {l0 : Nat} {l1 : Nat} {l3 : Int32} {l4 : Int32} {s0 : Int32} (hf : f_L_areAlike_234 σ l0 l1 l3 l4 s0 = some o2) {H : Heap} {locs : List Loc} {ls : Array Slot} (hW : z_Ok D cA bs s σ H locs) (hl : lv_has ls 6 [(0, .ref l0), (1, .ref l1), (3, .int l3), (4, .int l4)]) (hk1 : ∀ (l2 : Int32) (l3 : Int32), o1 = .inl (l2, l3) → ∀ {H : Heap} {locs : List Loc} {ls : Array Slot}, z_Ok D cA bs s σ H locs → lv_has ls 6 [(0, .ref l0), (1, .ref l1), (2, .int l2), (3, .int l3)] → W p l e (zrm 4 0 0 90) s m args below meth c H locs 0 0 (MQ below (z_Qi D cA bs r σ) args s 0 0 (fun q => bs ≤ q)) (F0 m 187 ls [])) (hr1 : ∀ x, o1 = .inr x → x = r) (hk2 : ∀ (l2 : Int32) (l4 : Int32), o2 = .inl (l2, l4) → ∀ {H : Heap} {locs : List Loc} {ls : Array Slot}, z_Ok D cA bs s σ H locs → lv_has ls 6 [(0, .ref l0), (1, .ref l1), (2, .int l2), (3, .int l3), (4, .int l4)] → W p l e (zrm 4 0 0 90) s m args below meth c H locs 0 0 (MQ below (z_Qi D cA bs r σ) args s 0 0 (fun q => bs ≤ q)) (F0 m 202 ls [])) (hr2 : ∀ x, o2 = .inr x → x = o1) : W p l e (zrm 4 0 0 90) s m args below meth c H locs 0 0 (MQ below (z_Qi D cA bs r σ) args s 0 0 (fun q => bs ≤ q)) (F0 m 234 ls [.int s0]) := by
  have hx := B.1
  have hb := B.2.1
  have hown := B.2.2.2.1
  have hts := B.2.2.2.2.1
  unfold f_L_areAlike_234 at hf
  refine lv_istore_n (lv' := [(2, .int s0), (0, .ref l0), (1, .ref l1), (3, .int l3), (4, .int l4)]) hx hb dL_areAlike_234 rfl hl (by decide) rfl (fun ls hl => ?_)
  refine lv_iinc (v := (l4 + (1 : Int32))) (lv' := [(4, .int (l4 + (1 : Int32))), (2, .int s0), (0, .ref l0), (1, .ref l1), (3, .int l3)]) hx hb dL_areAlike_235 hl (k := 4) rfl rfl (by decide) rfl (fun ls hl => ?_)
  refine lv_goto (tgt := 202) hx hb dL_areAlike_238 (by decide) ?_
  exact hk2 _ _ (Option.some.inj hf).symm hW (lv_sub hl [2, 3, 1, 4, 0] rfl)
set_option maxRecDepth 100000 in
def f_L_areAlike_233 (σ : zSt) (l0 : Nat) (l1 : Nat) (l3 : Int32) (l4 : Int32) : Option ((Int32 × Int32) ⊕ ((Int32 × Int32) ⊕ (Int32))) :=
(f_L_areAlike_234 σ l0 l1 l3 l4 (0 : Int32))
set_option maxRecDepth 20000 in
set_option maxHeartbeats 4000000 in
theorem t_L_areAlike_233 (B : z_B p s m args meth c D cA bs RL cL_areAlike 6 (some .boolean)) {r : Int32} {o1 : (Int32 × Int32) ⊕ (Int32)} {o2 : (Int32 × Int32) ⊕ ((Int32 × Int32) ⊕ (Int32))} {σ : zSt} {l0 : Nat} {l1 : Nat} {l3 : Int32} {l4 : Int32} (hf : f_L_areAlike_233 σ l0 l1 l3 l4 = some o2) {H : Heap} {locs : List Loc} {ls : Array Slot} (hW : z_Ok D cA bs s σ H locs) (hl : lv_has ls 6 [(0, .ref l0), (1, .ref l1), (3, .int l3), (4, .int l4)]) (hk1 : ∀ (l2 : Int32) (l3 : Int32), o1 = .inl (l2, l3) → ∀ {H : Heap} {locs : List Loc} {ls : Array Slot}, z_Ok D cA bs s σ H locs → lv_has ls 6 [(0, .ref l0), (1, .ref l1), (2, .int l2), (3, .int l3)] → W p l e (zrm 4 0 0 90) s m args below meth c H locs 0 0 (MQ below (z_Qi D cA bs r σ) args s 0 0 (fun q => bs ≤ q)) (F0 m 187 ls [])) (hr1 : ∀ x, o1 = .inr x → x = r) (hk2 : ∀ (l2 : Int32) (l4 : Int32), o2 = .inl (l2, l4) → ∀ {H : Heap} {locs : List Loc} {ls : Array Slot}, z_Ok D cA bs s σ H locs → lv_has ls 6 [(0, .ref l0), (1, .ref l1), (2, .int l2), (3, .int l3), (4, .int l4)] → W p l e (zrm 4 0 0 90) s m args below meth c H locs 0 0 (MQ below (z_Qi D cA bs r σ) args s 0 0 (fun q => bs ≤ q)) (F0 m 202 ls [])) (hr2 : ∀ x, o2 = .inr x → x = o1) : W p l e (zrm 4 0 0 90) s m args below meth c H locs 0 0 (MQ below (z_Qi D cA bs r σ) args s 0 0 (fun q => bs ≤ q)) (F0 m 233 ls []) := by
  have hx := B.1
  have hb := B.2.1
  have hown := B.2.2.2.1
  have hts := B.2.2.2.2.1
  unfold f_L_areAlike_233 at hf
  refine lv_iconst (v := (0 : Int32)) hx hb dL_areAlike_233 (by decide) ?_
  exact t_L_areAlike_234 B hf hW hl hk1 hr1 hk2 hr2
set_option maxRecDepth 100000 in
def b_L_areAlike_202 (σ : zSt) (l0 : Nat) (l1 : Nat) (l3 : Int32) (l2 : Int32) (l4 : Int32) : Option ((Int32 × Int32) ⊕ ((Int32 × Int32) ⊕ (Int32))) :=
(if (4 : Int32) ≤ l4 then
(zex (some (.inl (l2, (l3 + (1 : Int32))))))
else
(if l2 = 0 then
(f_L_areAlike_233 σ l0 l1 l3 l4)
else
(if z_ob σ l0 8 then (zb (f_X9_visit σ l0 l3 l4) (fun r4 => (if z_ob σ l1 8 then (zb (f_X9_visit σ l1 l3 l4) (fun r7 => (if r4 = r7 then
(f_L_areAlike_234 σ l0 l1 l3 l4 (1 : Int32))
else
(f_L_areAlike_233 σ l0 l1 l3 l4)))) else none))) else none)))
set_option maxRecDepth 100000 in
def f_L_areAlike_202 (σ : zSt) (l0 : Nat) (l1 : Nat) (l3 : Int32) (l2 : Int32) (l4 : Int32) : Option ((Int32 × Int32) ⊕ (Int32)) := zloop (fun (t : Int32 × Int32) => b_L_areAlike_202 σ l0 l1 l3 t.1 t.2) zN (l2, l4)
set_option maxRecDepth 20000 in
set_option maxHeartbeats 4000000 in
theorem tb_L_areAlike_202 (B : z_B p s m args meth c D cA bs RL cL_areAlike 6 (some .boolean)) {r : Int32} {o1 : (Int32 × Int32) ⊕ (Int32)} {o2 : (Int32 × Int32) ⊕ ((Int32 × Int32) ⊕ (Int32))} {σ : zSt} {l0 : Nat} {l1 : Nat} {l3 : Int32} {l2 : Int32} {l4 : Int32} (hf : b_L_areAlike_202 σ l0 l1 l3 l2 l4 = some o2) {H : Heap} {locs : List Loc} {ls : Array Slot} (hW : z_Ok D cA bs s σ H locs) (hl : lv_has ls 6 [(0, .ref l0), (1, .ref l1), (2, .int l2), (3, .int l3), (4, .int l4)]) (hk1 : ∀ (l2 : Int32) (l3 : Int32), o1 = .inl (l2, l3) → ∀ {H : Heap} {locs : List Loc} {ls : Array Slot}, z_Ok D cA bs s σ H locs → lv_has ls 6 [(0, .ref l0), (1, .ref l1), (2, .int l2), (3, .int l3)] → W p l e (zrm 4 0 0 90) s m args below meth c H locs 0 0 (MQ below (z_Qi D cA bs r σ) args s 0 0 (fun q => bs ≤ q)) (F0 m 187 ls [])) (hr1 : ∀ x, o1 = .inr x → x = r) (hk2 : ∀ (l2 : Int32) (l4 : Int32), o2 = .inl (l2, l4) → ∀ {H : Heap} {locs : List Loc} {ls : Array Slot}, z_Ok D cA bs s σ H locs → lv_has ls 6 [(0, .ref l0), (1, .ref l1), (2, .int l2), (3, .int l3), (4, .int l4)] → W p l e (zrm 4 0 0 90) s m args below meth c H locs 0 0 (MQ below (z_Qi D cA bs r σ) args s 0 0 (fun q => bs ≤ q)) (F0 m 202 ls [])) (hr2 : ∀ x, o2 = .inr x → x = o1) : W p l e (zrm 4 0 0 90) s m args below meth c H locs 0 0 (MQ below (z_Qi D cA bs r σ) args s 0 0 (fun q => bs ≤ q)) (F0 m 202 ls []) := by
  have hx := B.1
  have hb := B.2.1
  have hown := B.2.2.2.1
  have hts := B.2.2.2.2.1
  unfold b_L_areAlike_202 at hf
  refine lv_iload hx hb dL_areAlike_202 (lv_at hl 4 rfl) ?_
  refine lv_iconst (v := (4 : Int32)) hx hb dL_areAlike_204 (by decide) ?_
  refine lv_icmp_ge (tgt := 241) hx hb dL_areAlike_205 (by decide) (fun hc205 => ?_) (fun hc205 => ?_)
  · replace hf := z_ip hc205 hf
    obtain ⟨w2, hf, ho1⟩ := z_x hf
    obtain rfl := hr2 _ ho1
    refine lv_iinc (v := (l3 + (1 : Int32))) (lv' := [(3, .int (l3 + (1 : Int32))), (0, .ref l0), (1, .ref l1), (2, .int l2), (4, .int l4)]) hx hb dL_areAlike_241 hl (k := 3) rfl rfl (by decide) rfl (fun ls hl => ?_)
    refine lv_goto (tgt := 187) hx hb dL_areAlike_244 (by decide) ?_
    exact hk1 _ _ (Option.some.inj hf).symm hW (lv_sub hl [1, 2, 3, 0] rfl)
  · replace hf := z_in hc205 hf
    refine lv_iload_n hx hb dL_areAlike_208 rfl (lv_at hl 2 rfl) ?_
    refine lv_if_eq (tgt := 233) hx hb dL_areAlike_209 (by decide) (fun hc209 => ?_) (fun hc209 => ?_)
    · replace hf := z_ip hc209 hf
      exact t_L_areAlike_233 B hf hW (lv_sub hl [0, 1, 3, 4] rfl) hk1 hr1 hk2 hr2
    · replace hf := z_in hc209 hf
      refine lv_aload_n hx hb dL_areAlike_212 rfl (lv_at hl 0 rfl) ?_
      refine lv_iload_n hx hb dL_areAlike_213 rfl (lv_at hl 3 rfl) ?_
      refine lv_iload hx hb dL_areAlike_214 (lv_at hl 4 rfl) ?_
      obtain ⟨hg2, hf⟩ := z_g hf
      obtain ⟨r4, hq3, hf⟩ := z_b hf
      refine z_ci hW (z_runV (As := [.int l3, .int l4]) (rest := []) B hW zv_L_61 (K_X9_visit hq3) hg2 rfl rfl rfl (Nat.le_of_ble_eq_true rfl) hl.1 ⟨Nat.le_of_ble_eq_true rfl, Nat.le_of_ble_eq_true rfl⟩ dL_areAlike_216 ⟨Nat.le_of_ble_eq_true rfl, Nat.le_of_ble_eq_true rfl⟩) (fun H locs hW => ?_)
      refine lv_aload_n hx hb dL_areAlike_219 rfl (lv_at hl 1 rfl) ?_
      refine lv_iload_n hx hb dL_areAlike_220 rfl (lv_at hl 3 rfl) ?_
      refine lv_iload hx hb dL_areAlike_221 (lv_at hl 4 rfl) ?_
      obtain ⟨hg5, hf⟩ := z_g hf
      obtain ⟨r7, hq6, hf⟩ := z_b hf
      refine z_ci hW (z_runV (As := [.int l3, .int l4]) (rest := [.int r4]) B hW zv_L_61 (K_X9_visit hq6) hg5 rfl rfl rfl (Nat.le_of_ble_eq_true rfl) hl.1 ⟨Nat.le_of_ble_eq_true rfl, Nat.le_of_ble_eq_true rfl⟩ dL_areAlike_223 ⟨Nat.le_of_ble_eq_true rfl, Nat.le_of_ble_eq_true rfl⟩) (fun H locs hW => ?_)
      refine lv_icmp_ne (tgt := 233) hx hb dL_areAlike_226 (by decide) (fun hc226 => ?_) (fun hc226 => ?_)
      · replace hf := z_in hc226 hf
        exact t_L_areAlike_233 B hf hW (lv_sub hl [0, 1, 3, 4] rfl) hk1 hr1 hk2 hr2
      · replace hf := z_ip hc226 hf
        refine lv_iconst (v := (1 : Int32)) hx hb dL_areAlike_229 (by decide) ?_
        refine lv_goto (tgt := 234) hx hb dL_areAlike_230 (by decide) ?_
        exact t_L_areAlike_234 B hf hW (lv_sub hl [0, 1, 3, 4] rfl) hk1 hr1 hk2 hr2
set_option maxRecDepth 20000 in
set_option maxHeartbeats 4000000 in
theorem t_L_areAlike_202 (B : z_B p s m args meth c D cA bs RL cL_areAlike 6 (some .boolean)) {r : Int32} {o1 : (Int32 × Int32) ⊕ (Int32)} {σ : zSt} {l0 : Nat} {l1 : Nat} {l3 : Int32} (hk1 : ∀ (l2 : Int32) (l3 : Int32), o1 = .inl (l2, l3) → ∀ {H : Heap} {locs : List Loc} {ls : Array Slot}, z_Ok D cA bs s σ H locs → lv_has ls 6 [(0, .ref l0), (1, .ref l1), (2, .int l2), (3, .int l3)] → W p l e (zrm 4 0 0 90) s m args below meth c H locs 0 0 (MQ below (z_Qi D cA bs r σ) args s 0 0 (fun q => bs ≤ q)) (F0 m 187 ls [])) (hr1 : ∀ x, o1 = .inr x → x = r) : ∀ (n : Nat) {l2 : Int32} {l4 : Int32}, zloop (fun (t : Int32 × Int32) => b_L_areAlike_202 σ l0 l1 l3 t.1 t.2) n (l2, l4) = some o1 → ∀ {H : Heap} {locs : List Loc} {ls : Array Slot}, z_Ok D cA bs s σ H locs → lv_has ls 6 [(0, .ref l0), (1, .ref l1), (2, .int l2), (3, .int l3), (4, .int l4)] → W p l e (zrm 4 0 0 90) s m args below meth c H locs 0 0 (MQ below (z_Qi D cA bs r σ) args s 0 0 (fun q => bs ≤ q)) (F0 m 202 ls []) := by
  intro n
  induction n with
  | zero => intro l2 l4 hf; cases hf
  | succ n ih =>
    intro l2 l4 hf H locs ls hW hl
    obtain ⟨o2, hb1, hf⟩ := z_lp hf
    refine tb_L_areAlike_202 B hb1 hW hl hk1 hr1 (fun l2 l4 he H locs ls hW hl => ?_) (fun x he => ?_)
    · rcases hf with ⟨t, ht, hf⟩ | hf
      · rw [he] at ht
        cases ht
        exact ih hf hW hl
      · rw [he] at hf
        cases hf
    · rcases hf with ⟨t, ht, hf⟩ | hf
      · rw [he] at ht
        cases ht
      · rw [he] at hf
        exact Sum.inr.inj hf
set_option maxRecDepth 100000 in
def b_L_areAlike_187 (σ : zSt) (l0 : Nat) (l1 : Nat) (l2 : Int32) (l3 : Int32) : Option ((Int32 × Int32) ⊕ (Int32)) :=
(if z_ob σ l0 8 then (zb (f_X9_logged σ l0) (fun r3 => (if r3 ≤ l3 then
(zex (f_L_areAlike_247 σ l0 l1 l2))
else
(if l2 = 0 then
(zex (f_L_areAlike_247 σ l0 l1 l2))
else
(f_L_areAlike_202 σ l0 l1 l3 l2 (0 : Int32)))))) else none)
set_option maxRecDepth 100000 in
def f_L_areAlike_187 (σ : zSt) (l0 : Nat) (l1 : Nat) (l2 : Int32) (l3 : Int32) : Option (Int32) := zloop (fun (t : Int32 × Int32) => b_L_areAlike_187 σ l0 l1 t.1 t.2) zN (l2, l3)
set_option maxRecDepth 20000 in
set_option maxHeartbeats 4000000 in
theorem tb_L_areAlike_187 (B : z_B p s m args meth c D cA bs RL cL_areAlike 6 (some .boolean)) {r : Int32} {o1 : (Int32 × Int32) ⊕ (Int32)} {σ : zSt} {l0 : Nat} {l1 : Nat} {l2 : Int32} {l3 : Int32} (hf : b_L_areAlike_187 σ l0 l1 l2 l3 = some o1) {H : Heap} {locs : List Loc} {ls : Array Slot} (hW : z_Ok D cA bs s σ H locs) (hl : lv_has ls 6 [(0, .ref l0), (1, .ref l1), (2, .int l2), (3, .int l3)]) (hk1 : ∀ (l2 : Int32) (l3 : Int32), o1 = .inl (l2, l3) → ∀ {H : Heap} {locs : List Loc} {ls : Array Slot}, z_Ok D cA bs s σ H locs → lv_has ls 6 [(0, .ref l0), (1, .ref l1), (2, .int l2), (3, .int l3)] → W p l e (zrm 4 0 0 90) s m args below meth c H locs 0 0 (MQ below (z_Qi D cA bs r σ) args s 0 0 (fun q => bs ≤ q)) (F0 m 187 ls [])) (hr1 : ∀ x, o1 = .inr x → x = r) : W p l e (zrm 4 0 0 90) s m args below meth c H locs 0 0 (MQ below (z_Qi D cA bs r σ) args s 0 0 (fun q => bs ≤ q)) (F0 m 187 ls []) := by
  have hx := B.1
  have hb := B.2.1
  have hown := B.2.2.2.1
  have hts := B.2.2.2.2.1
  unfold b_L_areAlike_187 at hf
  refine lv_iload_n hx hb dL_areAlike_187 rfl (lv_at hl 3 rfl) ?_
  refine lv_aload_n hx hb dL_areAlike_188 rfl (lv_at hl 0 rfl) ?_
  obtain ⟨hg1, hf⟩ := z_g hf
  obtain ⟨r3, hq2, hf⟩ := z_b hf
  refine z_ci hW (z_runV (As := []) (rest := [.int l3]) B hW zv_L_58 (K_X9_logged hq2) hg1 rfl rfl rfl (Nat.le_of_ble_eq_true rfl) hl.1 ⟨Nat.le_of_ble_eq_true rfl, Nat.le_of_ble_eq_true rfl⟩ dL_areAlike_189 ⟨Nat.le_of_ble_eq_true rfl, Nat.le_of_ble_eq_true rfl⟩) (fun H locs hW => ?_)
  refine lv_icmp_ge (tgt := 247) hx hb dL_areAlike_192 (by decide) (fun hc192 => ?_) (fun hc192 => ?_)
  · replace hf := z_ip hc192 hf
    obtain ⟨w1, hf, ho4⟩ := z_x hf
    obtain rfl := hr1 _ ho4
    exact t_L_areAlike_247 B hf hW (lv_sub hl [0, 1, 2] rfl) 
  · replace hf := z_in hc192 hf
    refine lv_iload_n hx hb dL_areAlike_195 rfl (lv_at hl 2 rfl) ?_
    refine lv_if_eq (tgt := 247) hx hb dL_areAlike_196 (by decide) (fun hc196 => ?_) (fun hc196 => ?_)
    · replace hf := z_ip hc196 hf
      obtain ⟨w1, hf, ho5⟩ := z_x hf
      obtain rfl := hr1 _ ho5
      exact t_L_areAlike_247 B hf hW (lv_sub hl [0, 1, 2] rfl) 
    · replace hf := z_in hc196 hf
      refine lv_iconst (v := (0 : Int32)) hx hb dL_areAlike_199 (by decide) ?_
      refine lv_istore (lv' := [(4, .int (0 : Int32)), (0, .ref l0), (1, .ref l1), (2, .int l2), (3, .int l3)]) hx hb dL_areAlike_200 hl (by decide) rfl (fun ls hl => ?_)
      unfold f_L_areAlike_202 at hf
      exact t_L_areAlike_202 B hk1 hr1 zN hf hW (lv_sub hl [1, 2, 3, 4, 0] rfl)
set_option maxRecDepth 20000 in
set_option maxHeartbeats 4000000 in
theorem t_L_areAlike_187 (B : z_B p s m args meth c D cA bs RL cL_areAlike 6 (some .boolean)) {r : Int32} {σ : zSt} {l0 : Nat} {l1 : Nat}  : ∀ (n : Nat) {l2 : Int32} {l3 : Int32}, zloop (fun (t : Int32 × Int32) => b_L_areAlike_187 σ l0 l1 t.1 t.2) n (l2, l3) = some r → ∀ {H : Heap} {locs : List Loc} {ls : Array Slot}, z_Ok D cA bs s σ H locs → lv_has ls 6 [(0, .ref l0), (1, .ref l1), (2, .int l2), (3, .int l3)] → W p l e (zrm 4 0 0 90) s m args below meth c H locs 0 0 (MQ below (z_Qi D cA bs r σ) args s 0 0 (fun q => bs ≤ q)) (F0 m 187 ls []) := by
  intro n
  induction n with
  | zero => intro l2 l3 hf; cases hf
  | succ n ih =>
    intro l2 l3 hf H locs ls hW hl
    obtain ⟨o1, hb1, hf⟩ := z_lp hf
    refine tb_L_areAlike_187 B hb1 hW hl  (fun l2 l3 he H locs ls hW hl => ?_) (fun x he => ?_)
    · rcases hf with ⟨t, ht, hf⟩ | hf
      · rw [he] at ht
        cases ht
        exact ih hf hW hl
      · rw [he] at hf
        cases hf
    · rcases hf with ⟨t, ht, hf⟩ | hf
      · rw [he] at ht
        cases ht
      · rw [he] at hf
        exact Sum.inr.inj hf
set_option maxRecDepth 100000 in
def f_L_areAlike_172 (σ : zSt) (l0 : Nat) (l1 : Nat) (l3 : Int32) (l4 : Int32) (l5 : Int32) (s0 : Int32) : Option ((Int32 × Int32) ⊕ ((Int32 × Int32) ⊕ (Int32))) :=
(some (.inl (s0, (l5 + (1 : Int32)))))
set_option maxRecDepth 20000 in
set_option maxHeartbeats 4000000 in
theorem t_L_areAlike_172 (B : z_B p s m args meth c D cA bs RL cL_areAlike 6 (some .boolean)) {r : Int32} {o1 : (Int32 × Int32) ⊕ (Int32)} {o2 : (Int32 × Int32) ⊕ ((Int32 × Int32) ⊕ (Int32))} {σ : zSt} {l0 : Nat} {l1 : Nat} {l3 : Int32} {l4 : Int32} {l5 : Int32} {s0 : Int32} (hf : f_L_areAlike_172 σ l0 l1 l3 l4 l5 s0 = some o2) {H : Heap} {locs : List Loc} {ls : Array Slot} (hW : z_Ok D cA bs s σ H locs) (hl : lv_has ls 6 [(0, .ref l0), (1, .ref l1), (3, .int l3), (4, .int l4), (5, .int l5)]) (hk1 : ∀ (l2 : Int32) (l3 : Int32), o1 = .inl (l2, l3) → ∀ {H : Heap} {locs : List Loc} {ls : Array Slot}, z_Ok D cA bs s σ H locs → lv_has ls 6 [(0, .ref l0), (1, .ref l1), (2, .int l2), (3, .int l3)] → W p l e (zrm 4 0 0 90) s m args below meth c H locs 0 0 (MQ below (z_Qi D cA bs r σ) args s 0 0 (fun q => bs ≤ q)) (F0 m 118 ls [])) (hr1 : ∀ x, o1 = .inr x → x = r) (hk2 : ∀ (l2 : Int32) (l5 : Int32), o2 = .inl (l2, l5) → ∀ {H : Heap} {locs : List Loc} {ls : Array Slot}, z_Ok D cA bs s σ H locs → lv_has ls 6 [(0, .ref l0), (1, .ref l1), (2, .int l2), (3, .int l3), (4, .int l4), (5, .int l5)] → W p l e (zrm 4 0 0 90) s m args below meth c H locs 0 0 (MQ below (z_Qi D cA bs r σ) args s 0 0 (fun q => bs ≤ q)) (F0 m 137 ls [])) (hr2 : ∀ x, o2 = .inr x → x = o1) : W p l e (zrm 4 0 0 90) s m args below meth c H locs 0 0 (MQ below (z_Qi D cA bs r σ) args s 0 0 (fun q => bs ≤ q)) (F0 m 172 ls [.int s0]) := by
  have hx := B.1
  have hb := B.2.1
  have hown := B.2.2.2.1
  have hts := B.2.2.2.2.1
  unfold f_L_areAlike_172 at hf
  refine lv_istore_n (lv' := [(2, .int s0), (0, .ref l0), (1, .ref l1), (3, .int l3), (4, .int l4), (5, .int l5)]) hx hb dL_areAlike_172 rfl hl (by decide) rfl (fun ls hl => ?_)
  refine lv_iinc (v := (l5 + (1 : Int32))) (lv' := [(5, .int (l5 + (1 : Int32))), (2, .int s0), (0, .ref l0), (1, .ref l1), (3, .int l3), (4, .int l4)]) hx hb dL_areAlike_173 hl (k := 5) rfl rfl (by decide) rfl (fun ls hl => ?_)
  refine lv_goto (tgt := 137) hx hb dL_areAlike_176 (by decide) ?_
  exact hk2 _ _ (Option.some.inj hf).symm hW (lv_sub hl [2, 3, 1, 4, 5, 0] rfl)
set_option maxRecDepth 100000 in
def f_L_areAlike_171 (σ : zSt) (l0 : Nat) (l1 : Nat) (l3 : Int32) (l4 : Int32) (l5 : Int32) : Option ((Int32 × Int32) ⊕ ((Int32 × Int32) ⊕ (Int32))) :=
(f_L_areAlike_172 σ l0 l1 l3 l4 l5 (0 : Int32))
set_option maxRecDepth 20000 in
set_option maxHeartbeats 4000000 in
theorem t_L_areAlike_171 (B : z_B p s m args meth c D cA bs RL cL_areAlike 6 (some .boolean)) {r : Int32} {o1 : (Int32 × Int32) ⊕ (Int32)} {o2 : (Int32 × Int32) ⊕ ((Int32 × Int32) ⊕ (Int32))} {σ : zSt} {l0 : Nat} {l1 : Nat} {l3 : Int32} {l4 : Int32} {l5 : Int32} (hf : f_L_areAlike_171 σ l0 l1 l3 l4 l5 = some o2) {H : Heap} {locs : List Loc} {ls : Array Slot} (hW : z_Ok D cA bs s σ H locs) (hl : lv_has ls 6 [(0, .ref l0), (1, .ref l1), (3, .int l3), (4, .int l4), (5, .int l5)]) (hk1 : ∀ (l2 : Int32) (l3 : Int32), o1 = .inl (l2, l3) → ∀ {H : Heap} {locs : List Loc} {ls : Array Slot}, z_Ok D cA bs s σ H locs → lv_has ls 6 [(0, .ref l0), (1, .ref l1), (2, .int l2), (3, .int l3)] → W p l e (zrm 4 0 0 90) s m args below meth c H locs 0 0 (MQ below (z_Qi D cA bs r σ) args s 0 0 (fun q => bs ≤ q)) (F0 m 118 ls [])) (hr1 : ∀ x, o1 = .inr x → x = r) (hk2 : ∀ (l2 : Int32) (l5 : Int32), o2 = .inl (l2, l5) → ∀ {H : Heap} {locs : List Loc} {ls : Array Slot}, z_Ok D cA bs s σ H locs → lv_has ls 6 [(0, .ref l0), (1, .ref l1), (2, .int l2), (3, .int l3), (4, .int l4), (5, .int l5)] → W p l e (zrm 4 0 0 90) s m args below meth c H locs 0 0 (MQ below (z_Qi D cA bs r σ) args s 0 0 (fun q => bs ≤ q)) (F0 m 137 ls [])) (hr2 : ∀ x, o2 = .inr x → x = o1) : W p l e (zrm 4 0 0 90) s m args below meth c H locs 0 0 (MQ below (z_Qi D cA bs r σ) args s 0 0 (fun q => bs ≤ q)) (F0 m 171 ls []) := by
  have hx := B.1
  have hb := B.2.1
  have hown := B.2.2.2.1
  have hts := B.2.2.2.2.1
  unfold f_L_areAlike_171 at hf
  refine lv_iconst (v := (0 : Int32)) hx hb dL_areAlike_171 (by decide) ?_
  exact t_L_areAlike_172 B hf hW hl hk1 hr1 hk2 hr2
set_option maxRecDepth 100000 in
def b_L_areAlike_137 (σ : zSt) (l0 : Nat) (l1 : Nat) (l3 : Int32) (l4 : Int32) (l2 : Int32) (l5 : Int32) : Option ((Int32 × Int32) ⊕ ((Int32 × Int32) ⊕ (Int32))) :=
(if (7 : Int32) ≤ l5 then
(zex (some (.inl (l2, (l3 + (1 : Int32))))))
else
(if l2 = 0 then
(f_L_areAlike_171 σ l0 l1 l3 l4 l5)
else
(if z_ob σ l0 8 then (zb (f_X9_station σ l0 l4 l5) (fun r4 => (if z_ob σ l1 8 then (zb (f_X9_station σ l1 l4 l5) (fun r7 => (if r4 = r7 then
(f_L_areAlike_172 σ l0 l1 l3 l4 l5 (1 : Int32))
else
(f_L_areAlike_171 σ l0 l1 l3 l4 l5)))) else none))) else none)))
set_option maxRecDepth 100000 in
def f_L_areAlike_137 (σ : zSt) (l0 : Nat) (l1 : Nat) (l3 : Int32) (l4 : Int32) (l2 : Int32) (l5 : Int32) : Option ((Int32 × Int32) ⊕ (Int32)) := zloop (fun (t : Int32 × Int32) => b_L_areAlike_137 σ l0 l1 l3 l4 t.1 t.2) zN (l2, l5)
set_option maxRecDepth 20000 in
set_option maxHeartbeats 4000000 in
theorem tb_L_areAlike_137 (B : z_B p s m args meth c D cA bs RL cL_areAlike 6 (some .boolean)) {r : Int32} {o1 : (Int32 × Int32) ⊕ (Int32)} {o2 : (Int32 × Int32) ⊕ ((Int32 × Int32) ⊕ (Int32))} {σ : zSt} {l0 : Nat} {l1 : Nat} {l3 : Int32} {l4 : Int32} {l2 : Int32} {l5 : Int32} (hf : b_L_areAlike_137 σ l0 l1 l3 l4 l2 l5 = some o2) {H : Heap} {locs : List Loc} {ls : Array Slot} (hW : z_Ok D cA bs s σ H locs) (hl : lv_has ls 6 [(0, .ref l0), (1, .ref l1), (2, .int l2), (3, .int l3), (4, .int l4), (5, .int l5)]) (hk1 : ∀ (l2 : Int32) (l3 : Int32), o1 = .inl (l2, l3) → ∀ {H : Heap} {locs : List Loc} {ls : Array Slot}, z_Ok D cA bs s σ H locs → lv_has ls 6 [(0, .ref l0), (1, .ref l1), (2, .int l2), (3, .int l3)] → W p l e (zrm 4 0 0 90) s m args below meth c H locs 0 0 (MQ below (z_Qi D cA bs r σ) args s 0 0 (fun q => bs ≤ q)) (F0 m 118 ls [])) (hr1 : ∀ x, o1 = .inr x → x = r) (hk2 : ∀ (l2 : Int32) (l5 : Int32), o2 = .inl (l2, l5) → ∀ {H : Heap} {locs : List Loc} {ls : Array Slot}, z_Ok D cA bs s σ H locs → lv_has ls 6 [(0, .ref l0), (1, .ref l1), (2, .int l2), (3, .int l3), (4, .int l4), (5, .int l5)] → W p l e (zrm 4 0 0 90) s m args below meth c H locs 0 0 (MQ below (z_Qi D cA bs r σ) args s 0 0 (fun q => bs ≤ q)) (F0 m 137 ls [])) (hr2 : ∀ x, o2 = .inr x → x = o1) : W p l e (zrm 4 0 0 90) s m args below meth c H locs 0 0 (MQ below (z_Qi D cA bs r σ) args s 0 0 (fun q => bs ≤ q)) (F0 m 137 ls []) := by
  have hx := B.1
  have hb := B.2.1
  have hown := B.2.2.2.1
  have hts := B.2.2.2.2.1
  unfold b_L_areAlike_137 at hf
  refine lv_iload hx hb dL_areAlike_137 (lv_at hl 5 rfl) ?_
  refine lv_bipush (v := (7 : Int32)) hx hb dL_areAlike_139 (by decide) ?_
  refine lv_icmp_ge (tgt := 179) hx hb dL_areAlike_141 (by decide) (fun hc141 => ?_) (fun hc141 => ?_)
  · replace hf := z_ip hc141 hf
    obtain ⟨w2, hf, ho1⟩ := z_x hf
    obtain rfl := hr2 _ ho1
    refine lv_iinc (v := (l3 + (1 : Int32))) (lv' := [(3, .int (l3 + (1 : Int32))), (0, .ref l0), (1, .ref l1), (2, .int l2), (4, .int l4), (5, .int l5)]) hx hb dL_areAlike_179 hl (k := 3) rfl rfl (by decide) rfl (fun ls hl => ?_)
    refine lv_goto (tgt := 118) hx hb dL_areAlike_182 (by decide) ?_
    exact hk1 _ _ (Option.some.inj hf).symm hW (lv_sub hl [1, 2, 3, 0] rfl)
  · replace hf := z_in hc141 hf
    refine lv_iload_n hx hb dL_areAlike_144 rfl (lv_at hl 2 rfl) ?_
    refine lv_if_eq (tgt := 171) hx hb dL_areAlike_145 (by decide) (fun hc145 => ?_) (fun hc145 => ?_)
    · replace hf := z_ip hc145 hf
      exact t_L_areAlike_171 B hf hW (lv_sub hl [0, 1, 3, 4, 5] rfl) hk1 hr1 hk2 hr2
    · replace hf := z_in hc145 hf
      refine lv_aload_n hx hb dL_areAlike_148 rfl (lv_at hl 0 rfl) ?_
      refine lv_iload hx hb dL_areAlike_149 (lv_at hl 4 rfl) ?_
      refine lv_iload hx hb dL_areAlike_151 (lv_at hl 5 rfl) ?_
      obtain ⟨hg2, hf⟩ := z_g hf
      obtain ⟨r4, hq3, hf⟩ := z_b hf
      refine z_ci hW (z_runV (As := [.int l4, .int l5]) (rest := []) B hW zv_L_55 (K_X9_station hq3) hg2 rfl rfl rfl (Nat.le_of_ble_eq_true rfl) hl.1 ⟨Nat.le_of_ble_eq_true rfl, Nat.le_of_ble_eq_true rfl⟩ dL_areAlike_153 ⟨Nat.le_of_ble_eq_true rfl, Nat.le_of_ble_eq_true rfl⟩) (fun H locs hW => ?_)
      refine lv_aload_n hx hb dL_areAlike_156 rfl (lv_at hl 1 rfl) ?_
      refine lv_iload hx hb dL_areAlike_157 (lv_at hl 4 rfl) ?_
      refine lv_iload hx hb dL_areAlike_159 (lv_at hl 5 rfl) ?_
      obtain ⟨hg5, hf⟩ := z_g hf
      obtain ⟨r7, hq6, hf⟩ := z_b hf
      refine z_ci hW (z_runV (As := [.int l4, .int l5]) (rest := [.int r4]) B hW zv_L_55 (K_X9_station hq6) hg5 rfl rfl rfl (Nat.le_of_ble_eq_true rfl) hl.1 ⟨Nat.le_of_ble_eq_true rfl, Nat.le_of_ble_eq_true rfl⟩ dL_areAlike_161 ⟨Nat.le_of_ble_eq_true rfl, Nat.le_of_ble_eq_true rfl⟩) (fun H locs hW => ?_)
      refine lv_icmp_ne (tgt := 171) hx hb dL_areAlike_164 (by decide) (fun hc164 => ?_) (fun hc164 => ?_)
      · replace hf := z_in hc164 hf
        exact t_L_areAlike_171 B hf hW (lv_sub hl [0, 1, 3, 4, 5] rfl) hk1 hr1 hk2 hr2
      · replace hf := z_ip hc164 hf
        refine lv_iconst (v := (1 : Int32)) hx hb dL_areAlike_167 (by decide) ?_
        refine lv_goto (tgt := 172) hx hb dL_areAlike_168 (by decide) ?_
        exact t_L_areAlike_172 B hf hW (lv_sub hl [0, 1, 3, 4, 5] rfl) hk1 hr1 hk2 hr2
set_option maxRecDepth 20000 in
set_option maxHeartbeats 4000000 in
theorem t_L_areAlike_137 (B : z_B p s m args meth c D cA bs RL cL_areAlike 6 (some .boolean)) {r : Int32} {o1 : (Int32 × Int32) ⊕ (Int32)} {σ : zSt} {l0 : Nat} {l1 : Nat} {l3 : Int32} {l4 : Int32} (hk1 : ∀ (l2 : Int32) (l3 : Int32), o1 = .inl (l2, l3) → ∀ {H : Heap} {locs : List Loc} {ls : Array Slot}, z_Ok D cA bs s σ H locs → lv_has ls 6 [(0, .ref l0), (1, .ref l1), (2, .int l2), (3, .int l3)] → W p l e (zrm 4 0 0 90) s m args below meth c H locs 0 0 (MQ below (z_Qi D cA bs r σ) args s 0 0 (fun q => bs ≤ q)) (F0 m 118 ls [])) (hr1 : ∀ x, o1 = .inr x → x = r) : ∀ (n : Nat) {l2 : Int32} {l5 : Int32}, zloop (fun (t : Int32 × Int32) => b_L_areAlike_137 σ l0 l1 l3 l4 t.1 t.2) n (l2, l5) = some o1 → ∀ {H : Heap} {locs : List Loc} {ls : Array Slot}, z_Ok D cA bs s σ H locs → lv_has ls 6 [(0, .ref l0), (1, .ref l1), (2, .int l2), (3, .int l3), (4, .int l4), (5, .int l5)] → W p l e (zrm 4 0 0 90) s m args below meth c H locs 0 0 (MQ below (z_Qi D cA bs r σ) args s 0 0 (fun q => bs ≤ q)) (F0 m 137 ls []) := by
  intro n
  induction n with
  | zero => intro l2 l5 hf; cases hf
  | succ n ih =>
    intro l2 l5 hf H locs ls hW hl
    obtain ⟨o2, hb1, hf⟩ := z_lp hf
    refine tb_L_areAlike_137 B hb1 hW hl hk1 hr1 (fun l2 l5 he H locs ls hW hl => ?_) (fun x he => ?_)
    · rcases hf with ⟨t, ht, hf⟩ | hf
      · rw [he] at ht
        cases ht
        exact ih hf hW hl
      · rw [he] at hf
        cases hf
    · rcases hf with ⟨t, ht, hf⟩ | hf
      · rw [he] at ht
        cases ht
      · rw [he] at hf
        exact Sum.inr.inj hf
set_option maxRecDepth 100000 in
def b_L_areAlike_118 (σ : zSt) (l0 : Nat) (l1 : Nat) (l2 : Int32) (l3 : Int32) : Option ((Int32 × Int32) ⊕ (Int32)) :=
(if z_ob σ l0 8 then (zb (f_X9_setting σ l0 (3 : Int32)) (fun r3 => (if r3 ≤ l3 then
(zex (f_L_areAlike_187 σ l0 l1 l2 (0 : Int32)))
else
(zb (f_X9_addressAt σ l0 l3) (fun r6 => (f_L_areAlike_137 σ l0 l1 l3 r6 l2 (0 : Int32))))))) else none)
set_option maxRecDepth 100000 in
def f_L_areAlike_118 (σ : zSt) (l0 : Nat) (l1 : Nat) (l2 : Int32) (l3 : Int32) : Option (Int32) := zloop (fun (t : Int32 × Int32) => b_L_areAlike_118 σ l0 l1 t.1 t.2) zN (l2, l3)
set_option maxRecDepth 20000 in
set_option maxHeartbeats 4000000 in
theorem tb_L_areAlike_118 (B : z_B p s m args meth c D cA bs RL cL_areAlike 6 (some .boolean)) {r : Int32} {o1 : (Int32 × Int32) ⊕ (Int32)} {σ : zSt} {l0 : Nat} {l1 : Nat} {l2 : Int32} {l3 : Int32} (hf : b_L_areAlike_118 σ l0 l1 l2 l3 = some o1) {H : Heap} {locs : List Loc} {ls : Array Slot} (hW : z_Ok D cA bs s σ H locs) (hl : lv_has ls 6 [(0, .ref l0), (1, .ref l1), (2, .int l2), (3, .int l3)]) (hk1 : ∀ (l2 : Int32) (l3 : Int32), o1 = .inl (l2, l3) → ∀ {H : Heap} {locs : List Loc} {ls : Array Slot}, z_Ok D cA bs s σ H locs → lv_has ls 6 [(0, .ref l0), (1, .ref l1), (2, .int l2), (3, .int l3)] → W p l e (zrm 4 0 0 90) s m args below meth c H locs 0 0 (MQ below (z_Qi D cA bs r σ) args s 0 0 (fun q => bs ≤ q)) (F0 m 118 ls [])) (hr1 : ∀ x, o1 = .inr x → x = r) : W p l e (zrm 4 0 0 90) s m args below meth c H locs 0 0 (MQ below (z_Qi D cA bs r σ) args s 0 0 (fun q => bs ≤ q)) (F0 m 118 ls []) := by
  have hx := B.1
  have hb := B.2.1
  have hown := B.2.2.2.1
  have hts := B.2.2.2.2.1
  unfold b_L_areAlike_118 at hf
  refine lv_iload_n hx hb dL_areAlike_118 rfl (lv_at hl 3 rfl) ?_
  refine lv_aload_n hx hb dL_areAlike_119 rfl (lv_at hl 0 rfl) ?_
  refine lv_iconst (v := (3 : Int32)) hx hb dL_areAlike_120 (by decide) ?_
  obtain ⟨hg1, hf⟩ := z_g hf
  obtain ⟨r3, hq2, hf⟩ := z_b hf
  refine z_ci hW (z_runV (As := [.int (3 : Int32)]) (rest := [.int l3]) B hW zv_L_29 (K_X9_setting hq2) hg1 rfl rfl rfl (Nat.le_of_ble_eq_true rfl) hl.1 ⟨Nat.le_of_ble_eq_true rfl, Nat.le_of_ble_eq_true rfl⟩ dL_areAlike_121 ⟨Nat.le_of_ble_eq_true rfl, Nat.le_of_ble_eq_true rfl⟩) (fun H locs hW => ?_)
  refine lv_icmp_ge (tgt := 185) hx hb dL_areAlike_124 (by decide) (fun hc124 => ?_) (fun hc124 => ?_)
  · replace hf := z_ip hc124 hf
    obtain ⟨w1, hf, ho4⟩ := z_x hf
    obtain rfl := hr1 _ ho4
    refine lv_iconst (v := (0 : Int32)) hx hb dL_areAlike_185 (by decide) ?_
    refine lv_istore_n (lv' := [(3, .int (0 : Int32)), (0, .ref l0), (1, .ref l1), (2, .int l2)]) hx hb dL_areAlike_186 rfl hl (by decide) rfl (fun ls hl => ?_)
    unfold f_L_areAlike_187 at hf
    exact t_L_areAlike_187 B  zN hf hW (lv_sub hl [1, 2, 3, 0] rfl)
  · replace hf := z_in hc124 hf
    refine lv_aload_n hx hb dL_areAlike_127 rfl (lv_at hl 0 rfl) ?_
    refine lv_iload_n hx hb dL_areAlike_128 rfl (lv_at hl 3 rfl) ?_
    obtain ⟨r6, hq5, hf⟩ := z_b hf
    refine z_ci hW (z_runV (As := [.int l3]) (rest := []) B hW zv_L_32 (K_X9_addressAt hq5) hg1 rfl rfl rfl (Nat.le_of_ble_eq_true rfl) hl.1 ⟨Nat.le_of_ble_eq_true rfl, Nat.le_of_ble_eq_true rfl⟩ dL_areAlike_129 ⟨Nat.le_of_ble_eq_true rfl, Nat.le_of_ble_eq_true rfl⟩) (fun H locs hW => ?_)
    refine lv_istore (lv' := [(4, .int r6), (0, .ref l0), (1, .ref l1), (2, .int l2), (3, .int l3)]) hx hb dL_areAlike_132 hl (by decide) rfl (fun ls hl => ?_)
    refine lv_iconst (v := (0 : Int32)) hx hb dL_areAlike_134 (by decide) ?_
    refine lv_istore (lv' := [(5, .int (0 : Int32)), (4, .int r6), (0, .ref l0), (1, .ref l1), (2, .int l2), (3, .int l3)]) hx hb dL_areAlike_135 hl (by decide) rfl (fun ls hl => ?_)
    unfold f_L_areAlike_137 at hf
    exact t_L_areAlike_137 B hk1 hr1 zN hf hW (lv_sub hl [2, 3, 4, 5, 1, 0] rfl)
set_option maxRecDepth 20000 in
set_option maxHeartbeats 4000000 in
theorem t_L_areAlike_118 (B : z_B p s m args meth c D cA bs RL cL_areAlike 6 (some .boolean)) {r : Int32} {σ : zSt} {l0 : Nat} {l1 : Nat}  : ∀ (n : Nat) {l2 : Int32} {l3 : Int32}, zloop (fun (t : Int32 × Int32) => b_L_areAlike_118 σ l0 l1 t.1 t.2) n (l2, l3) = some r → ∀ {H : Heap} {locs : List Loc} {ls : Array Slot}, z_Ok D cA bs s σ H locs → lv_has ls 6 [(0, .ref l0), (1, .ref l1), (2, .int l2), (3, .int l3)] → W p l e (zrm 4 0 0 90) s m args below meth c H locs 0 0 (MQ below (z_Qi D cA bs r σ) args s 0 0 (fun q => bs ≤ q)) (F0 m 118 ls []) := by
  intro n
  induction n with
  | zero => intro l2 l3 hf; cases hf
  | succ n ih =>
    intro l2 l3 hf H locs ls hW hl
    obtain ⟨o1, hb1, hf⟩ := z_lp hf
    refine tb_L_areAlike_118 B hb1 hW hl  (fun l2 l3 he H locs ls hW hl => ?_) (fun x he => ?_)
    · rcases hf with ⟨t, ht, hf⟩ | hf
      · rw [he] at ht
        cases ht
        exact ih hf hW hl
      · rw [he] at hf
        cases hf
    · rcases hf with ⟨t, ht, hf⟩ | hf
      · rw [he] at ht
        cases ht
      · rw [he] at hf
        exact Sum.inr.inj hf
set_option maxRecDepth 100000 in
def f_L_areAlike_109 (σ : zSt) (l0 : Nat) (l1 : Nat) (l3 : Int32) (s0 : Int32) : Option ((Int32 × Int32) ⊕ (Int32)) :=
(some (.inl (s0, (l3 + (1 : Int32)))))
set_option maxRecDepth 20000 in
set_option maxHeartbeats 4000000 in
theorem t_L_areAlike_109 (B : z_B p s m args meth c D cA bs RL cL_areAlike 6 (some .boolean)) {r : Int32} {o1 : (Int32 × Int32) ⊕ (Int32)} {σ : zSt} {l0 : Nat} {l1 : Nat} {l3 : Int32} {s0 : Int32} (hf : f_L_areAlike_109 σ l0 l1 l3 s0 = some o1) {H : Heap} {locs : List Loc} {ls : Array Slot} (hW : z_Ok D cA bs s σ H locs) (hl : lv_has ls 6 [(0, .ref l0), (1, .ref l1), (3, .int l3)]) (hk1 : ∀ (l2 : Int32) (l3 : Int32), o1 = .inl (l2, l3) → ∀ {H : Heap} {locs : List Loc} {ls : Array Slot}, z_Ok D cA bs s σ H locs → lv_has ls 6 [(0, .ref l0), (1, .ref l1), (2, .int l2), (3, .int l3)] → W p l e (zrm 4 0 0 90) s m args below meth c H locs 0 0 (MQ below (z_Qi D cA bs r σ) args s 0 0 (fun q => bs ≤ q)) (F0 m 81 ls [])) (hr1 : ∀ x, o1 = .inr x → x = r) : W p l e (zrm 4 0 0 90) s m args below meth c H locs 0 0 (MQ below (z_Qi D cA bs r σ) args s 0 0 (fun q => bs ≤ q)) (F0 m 109 ls [.int s0]) := by
  have hx := B.1
  have hb := B.2.1
  have hown := B.2.2.2.1
  have hts := B.2.2.2.2.1
  unfold f_L_areAlike_109 at hf
  refine lv_istore_n (lv' := [(2, .int s0), (0, .ref l0), (1, .ref l1), (3, .int l3)]) hx hb dL_areAlike_109 rfl hl (by decide) rfl (fun ls hl => ?_)
  refine lv_iinc (v := (l3 + (1 : Int32))) (lv' := [(3, .int (l3 + (1 : Int32))), (2, .int s0), (0, .ref l0), (1, .ref l1)]) hx hb dL_areAlike_110 hl (k := 3) rfl rfl (by decide) rfl (fun ls hl => ?_)
  refine lv_goto (tgt := 81) hx hb dL_areAlike_113 (by decide) ?_
  exact hk1 _ _ (Option.some.inj hf).symm hW (lv_sub hl [2, 3, 1, 0] rfl)
set_option maxRecDepth 100000 in
def f_L_areAlike_108 (σ : zSt) (l0 : Nat) (l1 : Nat) (l3 : Int32) : Option ((Int32 × Int32) ⊕ (Int32)) :=
(f_L_areAlike_109 σ l0 l1 l3 (0 : Int32))
set_option maxRecDepth 20000 in
set_option maxHeartbeats 4000000 in
theorem t_L_areAlike_108 (B : z_B p s m args meth c D cA bs RL cL_areAlike 6 (some .boolean)) {r : Int32} {o1 : (Int32 × Int32) ⊕ (Int32)} {σ : zSt} {l0 : Nat} {l1 : Nat} {l3 : Int32} (hf : f_L_areAlike_108 σ l0 l1 l3 = some o1) {H : Heap} {locs : List Loc} {ls : Array Slot} (hW : z_Ok D cA bs s σ H locs) (hl : lv_has ls 6 [(0, .ref l0), (1, .ref l1), (3, .int l3)]) (hk1 : ∀ (l2 : Int32) (l3 : Int32), o1 = .inl (l2, l3) → ∀ {H : Heap} {locs : List Loc} {ls : Array Slot}, z_Ok D cA bs s σ H locs → lv_has ls 6 [(0, .ref l0), (1, .ref l1), (2, .int l2), (3, .int l3)] → W p l e (zrm 4 0 0 90) s m args below meth c H locs 0 0 (MQ below (z_Qi D cA bs r σ) args s 0 0 (fun q => bs ≤ q)) (F0 m 81 ls [])) (hr1 : ∀ x, o1 = .inr x → x = r) : W p l e (zrm 4 0 0 90) s m args below meth c H locs 0 0 (MQ below (z_Qi D cA bs r σ) args s 0 0 (fun q => bs ≤ q)) (F0 m 108 ls []) := by
  have hx := B.1
  have hb := B.2.1
  have hown := B.2.2.2.1
  have hts := B.2.2.2.2.1
  unfold f_L_areAlike_108 at hf
  refine lv_iconst (v := (0 : Int32)) hx hb dL_areAlike_108 (by decide) ?_
  exact t_L_areAlike_109 B hf hW hl hk1 hr1
set_option maxRecDepth 100000 in
def b_L_areAlike_81 (σ : zSt) (l0 : Nat) (l1 : Nat) (l2 : Int32) (l3 : Int32) : Option ((Int32 × Int32) ⊕ (Int32)) :=
(if (7 : Int32) ≤ l3 then
(zex (f_L_areAlike_118 σ l0 l1 l2 (0 : Int32)))
else
(if l2 = 0 then
(f_L_areAlike_108 σ l0 l1 l3)
else
(if z_ob σ l0 8 then (zb (f_X9_count σ l0 l3) (fun r4 => (if z_ob σ l1 8 then (zb (f_X9_count σ l1 l3) (fun r7 => (if r4 = r7 then
(f_L_areAlike_109 σ l0 l1 l3 (1 : Int32))
else
(f_L_areAlike_108 σ l0 l1 l3)))) else none))) else none)))
set_option maxRecDepth 100000 in
def f_L_areAlike_81 (σ : zSt) (l0 : Nat) (l1 : Nat) (l2 : Int32) (l3 : Int32) : Option (Int32) := zloop (fun (t : Int32 × Int32) => b_L_areAlike_81 σ l0 l1 t.1 t.2) zN (l2, l3)
set_option maxRecDepth 20000 in
set_option maxHeartbeats 4000000 in
theorem tb_L_areAlike_81 (B : z_B p s m args meth c D cA bs RL cL_areAlike 6 (some .boolean)) {r : Int32} {o1 : (Int32 × Int32) ⊕ (Int32)} {σ : zSt} {l0 : Nat} {l1 : Nat} {l2 : Int32} {l3 : Int32} (hf : b_L_areAlike_81 σ l0 l1 l2 l3 = some o1) {H : Heap} {locs : List Loc} {ls : Array Slot} (hW : z_Ok D cA bs s σ H locs) (hl : lv_has ls 6 [(0, .ref l0), (1, .ref l1), (2, .int l2), (3, .int l3)]) (hk1 : ∀ (l2 : Int32) (l3 : Int32), o1 = .inl (l2, l3) → ∀ {H : Heap} {locs : List Loc} {ls : Array Slot}, z_Ok D cA bs s σ H locs → lv_has ls 6 [(0, .ref l0), (1, .ref l1), (2, .int l2), (3, .int l3)] → W p l e (zrm 4 0 0 90) s m args below meth c H locs 0 0 (MQ below (z_Qi D cA bs r σ) args s 0 0 (fun q => bs ≤ q)) (F0 m 81 ls [])) (hr1 : ∀ x, o1 = .inr x → x = r) : W p l e (zrm 4 0 0 90) s m args below meth c H locs 0 0 (MQ below (z_Qi D cA bs r σ) args s 0 0 (fun q => bs ≤ q)) (F0 m 81 ls []) := by
  have hx := B.1
  have hb := B.2.1
  have hown := B.2.2.2.1
  have hts := B.2.2.2.2.1
  unfold b_L_areAlike_81 at hf
  refine lv_iload_n hx hb dL_areAlike_81 rfl (lv_at hl 3 rfl) ?_
  refine lv_bipush (v := (7 : Int32)) hx hb dL_areAlike_82 (by decide) ?_
  refine lv_icmp_ge (tgt := 116) hx hb dL_areAlike_84 (by decide) (fun hc84 => ?_) (fun hc84 => ?_)
  · replace hf := z_ip hc84 hf
    obtain ⟨w1, hf, ho1⟩ := z_x hf
    obtain rfl := hr1 _ ho1
    refine lv_iconst (v := (0 : Int32)) hx hb dL_areAlike_116 (by decide) ?_
    refine lv_istore_n (lv' := [(3, .int (0 : Int32)), (0, .ref l0), (1, .ref l1), (2, .int l2)]) hx hb dL_areAlike_117 rfl hl (by decide) rfl (fun ls hl => ?_)
    unfold f_L_areAlike_118 at hf
    exact t_L_areAlike_118 B  zN hf hW (lv_sub hl [1, 2, 3, 0] rfl)
  · replace hf := z_in hc84 hf
    refine lv_iload_n hx hb dL_areAlike_87 rfl (lv_at hl 2 rfl) ?_
    refine lv_if_eq (tgt := 108) hx hb dL_areAlike_88 (by decide) (fun hc88 => ?_) (fun hc88 => ?_)
    · replace hf := z_ip hc88 hf
      exact t_L_areAlike_108 B hf hW (lv_sub hl [0, 1, 3] rfl) hk1 hr1
    · replace hf := z_in hc88 hf
      refine lv_aload_n hx hb dL_areAlike_91 rfl (lv_at hl 0 rfl) ?_
      refine lv_iload_n hx hb dL_areAlike_92 rfl (lv_at hl 3 rfl) ?_
      obtain ⟨hg2, hf⟩ := z_g hf
      obtain ⟨r4, hq3, hf⟩ := z_b hf
      refine z_ci hW (z_runV (As := [.int l3]) (rest := []) B hW zv_L_52 (K_X9_count hq3) hg2 rfl rfl rfl (Nat.le_of_ble_eq_true rfl) hl.1 ⟨Nat.le_of_ble_eq_true rfl, Nat.le_of_ble_eq_true rfl⟩ dL_areAlike_93 ⟨Nat.le_of_ble_eq_true rfl, Nat.le_of_ble_eq_true rfl⟩) (fun H locs hW => ?_)
      refine lv_aload_n hx hb dL_areAlike_96 rfl (lv_at hl 1 rfl) ?_
      refine lv_iload_n hx hb dL_areAlike_97 rfl (lv_at hl 3 rfl) ?_
      obtain ⟨hg5, hf⟩ := z_g hf
      obtain ⟨r7, hq6, hf⟩ := z_b hf
      refine z_ci hW (z_runV (As := [.int l3]) (rest := [.int r4]) B hW zv_L_52 (K_X9_count hq6) hg5 rfl rfl rfl (Nat.le_of_ble_eq_true rfl) hl.1 ⟨Nat.le_of_ble_eq_true rfl, Nat.le_of_ble_eq_true rfl⟩ dL_areAlike_98 ⟨Nat.le_of_ble_eq_true rfl, Nat.le_of_ble_eq_true rfl⟩) (fun H locs hW => ?_)
      refine lv_icmp_ne (tgt := 108) hx hb dL_areAlike_101 (by decide) (fun hc101 => ?_) (fun hc101 => ?_)
      · replace hf := z_in hc101 hf
        exact t_L_areAlike_108 B hf hW (lv_sub hl [0, 1, 3] rfl) hk1 hr1
      · replace hf := z_ip hc101 hf
        refine lv_iconst (v := (1 : Int32)) hx hb dL_areAlike_104 (by decide) ?_
        refine lv_goto (tgt := 109) hx hb dL_areAlike_105 (by decide) ?_
        exact t_L_areAlike_109 B hf hW (lv_sub hl [0, 1, 3] rfl) hk1 hr1
set_option maxRecDepth 20000 in
set_option maxHeartbeats 4000000 in
theorem t_L_areAlike_81 (B : z_B p s m args meth c D cA bs RL cL_areAlike 6 (some .boolean)) {r : Int32} {σ : zSt} {l0 : Nat} {l1 : Nat}  : ∀ (n : Nat) {l2 : Int32} {l3 : Int32}, zloop (fun (t : Int32 × Int32) => b_L_areAlike_81 σ l0 l1 t.1 t.2) n (l2, l3) = some r → ∀ {H : Heap} {locs : List Loc} {ls : Array Slot}, z_Ok D cA bs s σ H locs → lv_has ls 6 [(0, .ref l0), (1, .ref l1), (2, .int l2), (3, .int l3)] → W p l e (zrm 4 0 0 90) s m args below meth c H locs 0 0 (MQ below (z_Qi D cA bs r σ) args s 0 0 (fun q => bs ≤ q)) (F0 m 81 ls []) := by
  intro n
  induction n with
  | zero => intro l2 l3 hf; cases hf
  | succ n ih =>
    intro l2 l3 hf H locs ls hW hl
    obtain ⟨o1, hb1, hf⟩ := z_lp hf
    refine tb_L_areAlike_81 B hb1 hW hl  (fun l2 l3 he H locs ls hW hl => ?_) (fun x he => ?_)
    · rcases hf with ⟨t, ht, hf⟩ | hf
      · rw [he] at ht
        cases ht
        exact ih hf hW hl
      · rw [he] at hf
        cases hf
    · rcases hf with ⟨t, ht, hf⟩ | hf
      · rw [he] at ht
        cases ht
      · rw [he] at hf
        exact Sum.inr.inj hf
set_option maxRecDepth 100000 in
def f_L_areAlike_78 (σ : zSt) (l0 : Nat) (l1 : Nat) (s0 : Int32) : Option (Int32) :=
(f_L_areAlike_81 σ l0 l1 s0 (0 : Int32))
set_option maxRecDepth 20000 in
set_option maxHeartbeats 4000000 in
theorem t_L_areAlike_78 (B : z_B p s m args meth c D cA bs RL cL_areAlike 6 (some .boolean)) {r : Int32} {σ : zSt} {l0 : Nat} {l1 : Nat} {s0 : Int32} (hf : f_L_areAlike_78 σ l0 l1 s0 = some r) {H : Heap} {locs : List Loc} {ls : Array Slot} (hW : z_Ok D cA bs s σ H locs) (hl : lv_has ls 6 [(0, .ref l0), (1, .ref l1)])  : W p l e (zrm 4 0 0 90) s m args below meth c H locs 0 0 (MQ below (z_Qi D cA bs r σ) args s 0 0 (fun q => bs ≤ q)) (F0 m 78 ls [.int s0]) := by
  have hx := B.1
  have hb := B.2.1
  have hown := B.2.2.2.1
  have hts := B.2.2.2.2.1
  unfold f_L_areAlike_78 at hf
  refine lv_istore_n (lv' := [(2, .int s0), (0, .ref l0), (1, .ref l1)]) hx hb dL_areAlike_78 rfl hl (by decide) rfl (fun ls hl => ?_)
  refine lv_iconst (v := (0 : Int32)) hx hb dL_areAlike_79 (by decide) ?_
  refine lv_istore_n (lv' := [(3, .int (0 : Int32)), (2, .int s0), (0, .ref l0), (1, .ref l1)]) hx hb dL_areAlike_80 rfl hl (by decide) rfl (fun ls hl => ?_)
  unfold f_L_areAlike_81 at hf
  exact t_L_areAlike_81 B  zN hf hW (lv_sub hl [2, 3, 1, 0] rfl)
set_option maxRecDepth 100000 in
def f_L_areAlike_77 (σ : zSt) (l0 : Nat) (l1 : Nat) : Option (Int32) :=
(f_L_areAlike_78 σ l0 l1 (0 : Int32))
set_option maxRecDepth 20000 in
set_option maxHeartbeats 4000000 in
theorem t_L_areAlike_77 (B : z_B p s m args meth c D cA bs RL cL_areAlike 6 (some .boolean)) {r : Int32} {σ : zSt} {l0 : Nat} {l1 : Nat} (hf : f_L_areAlike_77 σ l0 l1 = some r) {H : Heap} {locs : List Loc} {ls : Array Slot} (hW : z_Ok D cA bs s σ H locs) (hl : lv_has ls 6 [(0, .ref l0), (1, .ref l1)])  : W p l e (zrm 4 0 0 90) s m args below meth c H locs 0 0 (MQ below (z_Qi D cA bs r σ) args s 0 0 (fun q => bs ≤ q)) (F0 m 77 ls []) := by
  have hx := B.1
  have hb := B.2.1
  have hown := B.2.2.2.1
  have hts := B.2.2.2.2.1
  unfold f_L_areAlike_77 at hf
  refine lv_iconst (v := (0 : Int32)) hx hb dL_areAlike_77 (by decide) ?_
  exact t_L_areAlike_78 B hf hW hl 
set_option maxRecDepth 100000 in
def f_L_areAlike (σ : zSt) (l0 : Nat) (l1 : Nat) : Option (Int32) :=
(if z_ob σ l0 8 then (zb (f_X9_setting σ l0 (4 : Int32)) (fun r3 => (if z_ob σ l1 8 then (zb (f_X9_setting σ l1 (4 : Int32)) (fun r6 => (if r3 = r6 then
(zb (f_X9_setting σ l0 (6 : Int32)) (fun r8 => (zb (f_X9_setting σ l1 (6 : Int32)) (fun r10 => (if r8 = r10 then
(zb (f_X9_setting σ l0 (7 : Int32)) (fun r12 => (zb (f_X9_setting σ l1 (7 : Int32)) (fun r14 => (if r12 = r14 then
(zb (f_X9_setting σ l0 (8 : Int32)) (fun r16 => (zb (f_X9_setting σ l1 (8 : Int32)) (fun r18 => (if r16 = r18 then
(zb (f_X9_setting σ l0 (5 : Int32)) (fun r20 => (zb (f_X9_setting σ l1 (5 : Int32)) (fun r22 => (if r20 = ((2 : Int32) * r22) then
(f_L_areAlike_78 σ l0 l1 (1 : Int32))
else
(f_L_areAlike_77 σ l0 l1))))))
else
(f_L_areAlike_77 σ l0 l1))))))
else
(f_L_areAlike_77 σ l0 l1))))))
else
(f_L_areAlike_77 σ l0 l1))))))
else
(f_L_areAlike_77 σ l0 l1)))) else none))) else none)
set_option maxRecDepth 20000 in
set_option maxHeartbeats 4000000 in
theorem K_L_areAlike {σ : zSt} {l0 : Nat} {l1 : Nat} {r : Int32} (hf : f_L_areAlike σ l0 l1 = some r) : z_M l D cA bs yL_areAlike cL_areAlike 6 (some .boolean) 4 90 0 0 [.ref l0, .ref l1] σ (z_Qi D cA bs r σ) := by
  refine z_met (own := RL) (lv := [(0, .ref l0), (1, .ref l1)]) (by decide) rfl (Nat.le_of_ble_eq_true rfl) rfl (fun p e s m below meth c ls B hnm hW hl => ?_)
  have hx := B.1
  have hb := B.2.1
  have hown := B.2.2.2.1
  have hts := B.2.2.2.2.1
  unfold f_L_areAlike at hf
  refine lv_aload_n hx hb dL_areAlike_0 rfl (lv_at hl 0 rfl) ?_
  refine lv_iconst (v := (4 : Int32)) hx hb dL_areAlike_1 (by decide) ?_
  obtain ⟨hg1, hf⟩ := z_g hf
  obtain ⟨r3, hq2, hf⟩ := z_b hf
  refine z_ci hW (z_runV (As := [.int (4 : Int32)]) (rest := []) B hW zv_L_29 (K_X9_setting hq2) hg1 rfl rfl rfl (Nat.le_of_ble_eq_true rfl) hl.1 ⟨Nat.le_of_ble_eq_true rfl, Nat.le_of_ble_eq_true rfl⟩ dL_areAlike_2 ⟨Nat.le_of_ble_eq_true rfl, Nat.le_of_ble_eq_true rfl⟩) (fun H locs hW => ?_)
  refine lv_aload_n hx hb dL_areAlike_5 rfl (lv_at hl 1 rfl) ?_
  refine lv_iconst (v := (4 : Int32)) hx hb dL_areAlike_6 (by decide) ?_
  obtain ⟨hg4, hf⟩ := z_g hf
  obtain ⟨r6, hq5, hf⟩ := z_b hf
  refine z_ci hW (z_runV (As := [.int (4 : Int32)]) (rest := [.int r3]) B hW zv_L_29 (K_X9_setting hq5) hg4 rfl rfl rfl (Nat.le_of_ble_eq_true rfl) hl.1 ⟨Nat.le_of_ble_eq_true rfl, Nat.le_of_ble_eq_true rfl⟩ dL_areAlike_7 ⟨Nat.le_of_ble_eq_true rfl, Nat.le_of_ble_eq_true rfl⟩) (fun H locs hW => ?_)
  refine lv_icmp_ne (tgt := 77) hx hb dL_areAlike_10 (by decide) (fun hc10 => ?_) (fun hc10 => ?_)
  · replace hf := z_in hc10 hf
    exact t_L_areAlike_77 B hf hW hl 
  · replace hf := z_ip hc10 hf
    refine lv_aload_n hx hb dL_areAlike_13 rfl (lv_at hl 0 rfl) ?_
    refine lv_bipush (v := (6 : Int32)) hx hb dL_areAlike_14 (by decide) ?_
    obtain ⟨r8, hq7, hf⟩ := z_b hf
    refine z_ci hW (z_runV (As := [.int (6 : Int32)]) (rest := []) B hW zv_L_29 (K_X9_setting hq7) hg1 rfl rfl rfl (Nat.le_of_ble_eq_true rfl) hl.1 ⟨Nat.le_of_ble_eq_true rfl, Nat.le_of_ble_eq_true rfl⟩ dL_areAlike_16 ⟨Nat.le_of_ble_eq_true rfl, Nat.le_of_ble_eq_true rfl⟩) (fun H locs hW => ?_)
    refine lv_aload_n hx hb dL_areAlike_19 rfl (lv_at hl 1 rfl) ?_
    refine lv_bipush (v := (6 : Int32)) hx hb dL_areAlike_20 (by decide) ?_
    obtain ⟨r10, hq9, hf⟩ := z_b hf
    refine z_ci hW (z_runV (As := [.int (6 : Int32)]) (rest := [.int r8]) B hW zv_L_29 (K_X9_setting hq9) hg4 rfl rfl rfl (Nat.le_of_ble_eq_true rfl) hl.1 ⟨Nat.le_of_ble_eq_true rfl, Nat.le_of_ble_eq_true rfl⟩ dL_areAlike_22 ⟨Nat.le_of_ble_eq_true rfl, Nat.le_of_ble_eq_true rfl⟩) (fun H locs hW => ?_)
    refine lv_icmp_ne (tgt := 77) hx hb dL_areAlike_25 (by decide) (fun hc25 => ?_) (fun hc25 => ?_)
    · replace hf := z_in hc25 hf
      exact t_L_areAlike_77 B hf hW hl 
    · replace hf := z_ip hc25 hf
      refine lv_aload_n hx hb dL_areAlike_28 rfl (lv_at hl 0 rfl) ?_
      refine lv_bipush (v := (7 : Int32)) hx hb dL_areAlike_29 (by decide) ?_
      obtain ⟨r12, hq11, hf⟩ := z_b hf
      refine z_ci hW (z_runV (As := [.int (7 : Int32)]) (rest := []) B hW zv_L_29 (K_X9_setting hq11) hg1 rfl rfl rfl (Nat.le_of_ble_eq_true rfl) hl.1 ⟨Nat.le_of_ble_eq_true rfl, Nat.le_of_ble_eq_true rfl⟩ dL_areAlike_31 ⟨Nat.le_of_ble_eq_true rfl, Nat.le_of_ble_eq_true rfl⟩) (fun H locs hW => ?_)
      refine lv_aload_n hx hb dL_areAlike_34 rfl (lv_at hl 1 rfl) ?_
      refine lv_bipush (v := (7 : Int32)) hx hb dL_areAlike_35 (by decide) ?_
      obtain ⟨r14, hq13, hf⟩ := z_b hf
      refine z_ci hW (z_runV (As := [.int (7 : Int32)]) (rest := [.int r12]) B hW zv_L_29 (K_X9_setting hq13) hg4 rfl rfl rfl (Nat.le_of_ble_eq_true rfl) hl.1 ⟨Nat.le_of_ble_eq_true rfl, Nat.le_of_ble_eq_true rfl⟩ dL_areAlike_37 ⟨Nat.le_of_ble_eq_true rfl, Nat.le_of_ble_eq_true rfl⟩) (fun H locs hW => ?_)
      refine lv_icmp_ne (tgt := 77) hx hb dL_areAlike_40 (by decide) (fun hc40 => ?_) (fun hc40 => ?_)
      · replace hf := z_in hc40 hf
        exact t_L_areAlike_77 B hf hW hl 
      · replace hf := z_ip hc40 hf
        refine lv_aload_n hx hb dL_areAlike_43 rfl (lv_at hl 0 rfl) ?_
        refine lv_bipush (v := (8 : Int32)) hx hb dL_areAlike_44 (by decide) ?_
        obtain ⟨r16, hq15, hf⟩ := z_b hf
        refine z_ci hW (z_runV (As := [.int (8 : Int32)]) (rest := []) B hW zv_L_29 (K_X9_setting hq15) hg1 rfl rfl rfl (Nat.le_of_ble_eq_true rfl) hl.1 ⟨Nat.le_of_ble_eq_true rfl, Nat.le_of_ble_eq_true rfl⟩ dL_areAlike_46 ⟨Nat.le_of_ble_eq_true rfl, Nat.le_of_ble_eq_true rfl⟩) (fun H locs hW => ?_)
        refine lv_aload_n hx hb dL_areAlike_49 rfl (lv_at hl 1 rfl) ?_
        refine lv_bipush (v := (8 : Int32)) hx hb dL_areAlike_50 (by decide) ?_
        obtain ⟨r18, hq17, hf⟩ := z_b hf
        refine z_ci hW (z_runV (As := [.int (8 : Int32)]) (rest := [.int r16]) B hW zv_L_29 (K_X9_setting hq17) hg4 rfl rfl rfl (Nat.le_of_ble_eq_true rfl) hl.1 ⟨Nat.le_of_ble_eq_true rfl, Nat.le_of_ble_eq_true rfl⟩ dL_areAlike_52 ⟨Nat.le_of_ble_eq_true rfl, Nat.le_of_ble_eq_true rfl⟩) (fun H locs hW => ?_)
        refine lv_icmp_ne (tgt := 77) hx hb dL_areAlike_55 (by decide) (fun hc55 => ?_) (fun hc55 => ?_)
        · replace hf := z_in hc55 hf
          exact t_L_areAlike_77 B hf hW hl 
        · replace hf := z_ip hc55 hf
          refine lv_aload_n hx hb dL_areAlike_58 rfl (lv_at hl 0 rfl) ?_
          refine lv_iconst (v := (5 : Int32)) hx hb dL_areAlike_59 (by decide) ?_
          obtain ⟨r20, hq19, hf⟩ := z_b hf
          refine z_ci hW (z_runV (As := [.int (5 : Int32)]) (rest := []) B hW zv_L_29 (K_X9_setting hq19) hg1 rfl rfl rfl (Nat.le_of_ble_eq_true rfl) hl.1 ⟨Nat.le_of_ble_eq_true rfl, Nat.le_of_ble_eq_true rfl⟩ dL_areAlike_60 ⟨Nat.le_of_ble_eq_true rfl, Nat.le_of_ble_eq_true rfl⟩) (fun H locs hW => ?_)
          refine lv_iconst (v := (2 : Int32)) hx hb dL_areAlike_63 (by decide) ?_
          refine lv_aload_n hx hb dL_areAlike_64 rfl (lv_at hl 1 rfl) ?_
          refine lv_iconst (v := (5 : Int32)) hx hb dL_areAlike_65 (by decide) ?_
          obtain ⟨r22, hq21, hf⟩ := z_b hf
          refine z_ci hW (z_runV (As := [.int (5 : Int32)]) (rest := [.int (2 : Int32), .int r20]) B hW zv_L_29 (K_X9_setting hq21) hg4 rfl rfl rfl (Nat.le_of_ble_eq_true rfl) hl.1 ⟨Nat.le_of_ble_eq_true rfl, Nat.le_of_ble_eq_true rfl⟩ dL_areAlike_66 ⟨Nat.le_of_ble_eq_true rfl, Nat.le_of_ble_eq_true rfl⟩) (fun H locs hW => ?_)
          refine lv_imul hx hb dL_areAlike_69 ?_
          refine lv_icmp_ne (tgt := 77) hx hb dL_areAlike_70 (by decide) (fun hc70 => ?_) (fun hc70 => ?_)
          · replace hf := z_in hc70 hf
            exact t_L_areAlike_77 B hf hW hl 
          · replace hf := z_ip hc70 hf
            refine lv_iconst (v := (1 : Int32)) hx hb dL_areAlike_73 (by decide) ?_
            refine lv_goto (tgt := 78) hx hb dL_areAlike_74 (by decide) ?_
            exact t_L_areAlike_78 B hf hW hl 
end GEN
