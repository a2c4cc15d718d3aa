section GEN
variable {p : Program} {l : Launch} {e : Env} {s : State} {m : MethodId} {args : Array Value} {below : List Frame} {meth : Method} {c : Code} {D : va_G} {cA : Nat → ClassId} {bs : Nat} {b L : Nat} {xs : Nat → Int32}
set_option maxRecDepth 100000 in
def f_L_isSound_326 (σ : zSt) (s0 : Int32) : Option (Int32) :=
(if z_bl s0 then (some s0) else none)
set_option maxRecDepth 20000 in
set_option maxHeartbeats 4000000 in
theorem t_L_isSound_326 (B : z_B p s m args meth c D cA bs RL cL_isSound 6 (some .boolean)) {r : Int32} {σ : zSt} {s0 : Int32} (hf : f_L_isSound_326 σ s0 = some r) {H : Heap} {locs : List Loc} {ls : Array Slot} (hW : z_Ok D cA bs s σ H locs) (hl : lv_has ls 6 [])  : W p l e (zrm 4 0 0 90) s m args below meth c H locs 0 0 (MQ below (z_Qi D cA bs r σ) args s 0 0 (fun q => bs ≤ q)) (F0 m 326 ls [.int s0]) := by
  have hx := B.1
  have hb := B.2.1
  have hown := B.2.2.2.1
  have hts := B.2.2.2.2.1
  unfold f_L_isSound_326 at hf
  obtain ⟨hg1, hf⟩ := z_g hf
  obtain rfl := z_e1 hf
  exact z_rz hg1 B hW dL_isSound_326 (Nat.le_of_ble_eq_true rfl) (Nat.le_of_ble_eq_true rfl)
set_option maxRecDepth 100000 in
def f_L_isSound_325 (σ : zSt) : Option (Int32) :=
(f_L_isSound_326 σ (0 : Int32))
set_option maxRecDepth 20000 in
set_option maxHeartbeats 4000000 in
theorem t_L_isSound_325 (B : z_B p s m args meth c D cA bs RL cL_isSound 6 (some .boolean)) {r : Int32} {σ : zSt} (hf : f_L_isSound_325 σ = some r) {H : Heap} {locs : List Loc} {ls : Array Slot} (hW : z_Ok D cA bs s σ H locs) (hl : lv_has ls 6 [])  : W p l e (zrm 4 0 0 90) s m args below meth c H locs 0 0 (MQ below (z_Qi D cA bs r σ) args s 0 0 (fun q => bs ≤ q)) (F0 m 325 ls []) := by
  have hx := B.1
  have hb := B.2.1
  have hown := B.2.2.2.1
  have hts := B.2.2.2.2.1
  unfold f_L_isSound_325 at hf
  refine lv_iconst (v := (0 : Int32)) hx hb dL_isSound_325 (by decide) ?_
  exact t_L_isSound_326 B hf hW hl 
set_option maxRecDepth 100000 in
def f_L_isSound_307 (σ : zSt) (l0 : Nat) : Option (Int32) :=
(if z_ob σ l0 8 then (zb (f_X9_waits σ l0 (0 : Int32)) (fun r3 => (zb (f_X9_waits σ l0 (1 : Int32)) (fun r5 => (if 0 < (Op.cmpValue (FP.dcmp r3 r5) .g) then
(f_L_isSound_325 σ)
else
(f_L_isSound_326 σ (1 : Int32))))))) else none)
set_option maxRecDepth 20000 in
set_option maxHeartbeats 4000000 in
theorem t_L_isSound_307 (B : z_B p s m args meth c D cA bs RL cL_isSound 6 (some .boolean)) {r : Int32} {σ : zSt} {l0 : Nat} (hf : f_L_isSound_307 σ l0 = some r) {H : Heap} {locs : List Loc} {ls : Array Slot} (hW : z_Ok D cA bs s σ H locs) (hl : lv_has ls 6 [(0, .ref l0)])  : W p l e (zrm 4 0 0 90) s m args below meth c H locs 0 0 (MQ below (z_Qi D cA bs r σ) args s 0 0 (fun q => bs ≤ q)) (F0 m 307 ls []) := by
  have hx := B.1
  have hb := B.2.1
  have hown := B.2.2.2.1
  have hts := B.2.2.2.2.1
  unfold f_L_isSound_307 at hf
  refine lv_aload_n hx hb dL_isSound_307 rfl (lv_at hl 0 rfl) ?_
  refine lv_iconst (v := (0 : Int32)) hx hb dL_isSound_308 (by decide) ?_
  obtain ⟨hg1, hf⟩ := z_g hf
  obtain ⟨r3, hq2, hf⟩ := z_b hf
  refine z_cd hW (z_runV (As := [.int (0 : Int32)]) (rest := []) B hW zv_L_64 (K_X9_waits hq2) hg1 rfl rfl rfl (Nat.le_of_ble_eq_true rfl) hl.1 ⟨Nat.le_of_ble_eq_true rfl, Nat.le_of_ble_eq_true rfl⟩ dL_isSound_309 ⟨Nat.le_of_ble_eq_true rfl, Nat.le_of_ble_eq_true rfl⟩) (fun H locs hW => ?_)
  refine lv_aload_n hx hb dL_isSound_312 rfl (lv_at hl 0 rfl) ?_
  refine lv_iconst (v := (1 : Int32)) hx hb dL_isSound_313 (by decide) ?_
  obtain ⟨r5, hq4, hf⟩ := z_b hf
  refine z_cd hW (z_runV (As := [.int (1 : Int32)]) (rest := [.double r3]) B hW zv_L_64 (K_X9_waits hq4) hg1 rfl rfl rfl (Nat.le_of_ble_eq_true rfl) hl.1 ⟨Nat.le_of_ble_eq_true rfl, Nat.le_of_ble_eq_true rfl⟩ dL_isSound_314 ⟨Nat.le_of_ble_eq_true rfl, Nat.le_of_ble_eq_true rfl⟩) (fun H locs hW => ?_)
  refine lv_dcmp hx hb dL_isSound_317 ?_
  refine lv_if_gt (tgt := 325) hx hb dL_isSound_318 (by decide) (fun hc318 => ?_) (fun hc318 => ?_)
  · replace hf := z_ip hc318 hf
    exact t_L_isSound_325 B hf hW (lv_sub hl [] rfl) 
  · replace hf := z_in hc318 hf
    refine lv_iconst (v := (1 : Int32)) hx hb dL_isSound_321 (by decide) ?_
    refine lv_goto (tgt := 326) hx hb dL_isSound_322 (by decide) ?_
    exact t_L_isSound_326 B hf hW (lv_sub hl [] rfl) 
set_option maxRecDepth 100000 in
def f_L_isSound_280 (σ : zSt) (l0 : Nat) (l5 : Int32) (s0 : Int32) : Option ((Int32 × Int32) ⊕ (Int32)) :=
(some (.inl (s0, (l5 + (1 : Int32)))))
set_option maxRecDepth 20000 in
set_option maxHeartbeats 4000000 in
theorem t_L_isSound_280 (B : z_B p s m args meth c D cA bs RL cL_isSound 6 (some .boolean)) {r : Int32} {o1 : (Int32 × Int32) ⊕ (Int32)} {σ : zSt} {l0 : Nat} {l5 : Int32} {s0 : Int32} (hf : f_L_isSound_280 σ l0 l5 s0 = some o1) {H : Heap} {locs : List Loc} {ls : Array Slot} (hW : z_Ok D cA bs s σ H locs) (hl : lv_has ls 6 [(0, .ref l0), (5, .int l5)]) (hk1 : ∀ (l3 : Int32) (l5 : Int32), o1 = .inl (l3, l5) → ∀ {H : Heap} {locs : List Loc} {ls : Array Slot}, z_Ok D cA bs s σ H locs → lv_has ls 6 [(0, .ref l0), (3, .int l3), (5, .int l5)] → W p l e (zrm 4 0 0 90) s m args below meth c H locs 0 0 (MQ below (z_Qi D cA bs r σ) args s 0 0 (fun q => bs ≤ q)) (F0 m 212 ls [])) (hr1 : ∀ x, o1 = .inr x → x = r) : W p l e (zrm 4 0 0 90) s m args below meth c H locs 0 0 (MQ below (z_Qi D cA bs r σ) args s 0 0 (fun q => bs ≤ q)) (F0 m 280 ls [.int s0]) := by
  have hx := B.1
  have hb := B.2.1
  have hown := B.2.2.2.1
  have hts := B.2.2.2.2.1
  unfold f_L_isSound_280 at hf
  refine lv_istore_n (lv' := [(3, .int s0), (0, .ref l0), (5, .int l5)]) hx hb dL_isSound_280 rfl hl (by decide) rfl (fun ls hl => ?_)
  refine lv_iinc (v := (l5 + (1 : Int32))) (lv' := [(5, .int (l5 + (1 : Int32))), (3, .int s0), (0, .ref l0)]) hx hb dL_isSound_281 hl (k := 2) rfl rfl (by decide) rfl (fun ls hl => ?_)
  refine lv_goto (tgt := 212) hx hb dL_isSound_284 (by decide) ?_
  exact hk1 _ _ (Option.some.inj hf).symm hW (lv_sub hl [2, 1, 0] rfl)
set_option maxRecDepth 100000 in
def f_L_isSound_279 (σ : zSt) (l0 : Nat) (l5 : Int32) : Option ((Int32 × Int32) ⊕ (Int32)) :=
(f_L_isSound_280 σ l0 l5 (0 : Int32))
set_option maxRecDepth 20000 in
set_option maxHeartbeats 4000000 in
theorem t_L_isSound_279 (B : z_B p s m args meth c D cA bs RL cL_isSound 6 (some .boolean)) {r : Int32} {o1 : (Int32 × Int32) ⊕ (Int32)} {σ : zSt} {l0 : Nat} {l5 : Int32} (hf : f_L_isSound_279 σ l0 l5 = some o1) {H : Heap} {locs : List Loc} {ls : Array Slot} (hW : z_Ok D cA bs s σ H locs) (hl : lv_has ls 6 [(0, .ref l0), (5, .int l5)]) (hk1 : ∀ (l3 : Int32) (l5 : Int32), o1 = .inl (l3, l5) → ∀ {H : Heap} {locs : List Loc} {ls : Array Slot}, z_Ok D cA bs s σ H locs → lv_has ls 6 [(0, .ref l0), (3, .int l3), (5, .int l5)] → W p l e (zrm 4 0 0 90) s m args below meth c H locs 0 0 (MQ below (z_Qi D cA bs r σ) args s 0 0 (fun q => bs ≤ q)) (F0 m 212 ls [])) (hr1 : ∀ x, o1 = .inr x → x = r) : W p l e (zrm 4 0 0 90) s m args below meth c H locs 0 0 (MQ below (z_Qi D cA bs r σ) args s 0 0 (fun q => bs ≤ q)) (F0 m 279 ls []) := by
  have hx := B.1
  have hb := B.2.1
  have hown := B.2.2.2.1
  have hts := B.2.2.2.2.1
  unfold f_L_isSound_279 at hf
  refine lv_iconst (v := (0 : Int32)) hx hb dL_isSound_279 (by decide) ?_
  exact t_L_isSound_280 B hf hW hl hk1 hr1
set_option maxRecDepth 100000 in
def f_L_isSound_275 (σ : zSt) (l0 : Nat) (l5 : Int32) : Option ((Int32 × Int32) ⊕ (Int32)) :=
(f_L_isSound_280 σ l0 l5 (1 : Int32))
set_option maxRecDepth 20000 in
set_option maxHeartbeats 4000000 in
theorem t_L_isSound_275 (B : z_B p s m args meth c D cA bs RL cL_isSound 6 (some .boolean)) {r : Int32} {o1 : (Int32 × Int32) ⊕ (Int32)} {σ : zSt} {l0 : Nat} {l5 : Int32} (hf : f_L_isSound_275 σ l0 l5 = some o1) {H : Heap} {locs : List Loc} {ls : Array Slot} (hW : z_Ok D cA bs s σ H locs) (hl : lv_has ls 6 [(0, .ref l0), (5, .int l5)]) (hk1 : ∀ (l3 : Int32) (l5 : Int32), o1 = .inl (l3, l5) → ∀ {H : Heap} {locs : List Loc} {ls : Array Slot}, z_Ok D cA bs s σ H locs → lv_has ls 6 [(0, .ref l0), (3, .int l3), (5, .int l5)] → W p l e (zrm 4 0 0 90) s m args below meth c H locs 0 0 (MQ below (z_Qi D cA bs r σ) args s 0 0 (fun q => bs ≤ q)) (F0 m 212 ls [])) (hr1 : ∀ x, o1 = .inr x → x = r) : W p l e (zrm 4 0 0 90) s m args below meth c H locs 0 0 (MQ below (z_Qi D cA bs r σ) args s 0 0 (fun q => bs ≤ q)) (F0 m 275 ls []) := by
  have hx := B.1
  have hb := B.2.1
  have hown := B.2.2.2.1
  have hts := B.2.2.2.2.1
  unfold f_L_isSound_275 at hf
  refine lv_iconst (v := (1 : Int32)) hx hb dL_isSound_275 (by decide) ?_
  refine lv_goto (tgt := 280) hx hb dL_isSound_276 (by decide) ?_
  exact t_L_isSound_280 B hf hW hl hk1 hr1
set_option maxRecDepth 100000 in
def b_L_isSound_212 (σ : zSt) (l0 : Nat) (l3 : Int32) (l5 : Int32) : Option ((Int32 × Int32) ⊕ (Int32)) :=
(if z_ob σ l0 8 then (zb (f_X9_logged σ l0) (fun r3 => (if r3 ≤ l5 then
(zex (if l3 = 0 then
(f_L_isSound_325 σ)
else
(zb (f_X9_setting σ l0 (5 : Int32)) (fun r5 => (if 0 < r5 then
(f_L_isSound_307 σ l0)
else
(zb (f_X9_count σ l0 (2 : Int32)) (fun r7 => (if r7 = 0 then
(f_L_isSound_307 σ l0)
else
(f_L_isSound_325 σ)))))))))
else
(if l3 = 0 then
(f_L_isSound_279 σ l0 l5)
else
(zb (f_X9_visit σ l0 l5 (2 : Int32)) (fun r10 => (zb (f_X9_greatestRotation σ l0) (fun r12 => (if r12 < r10 then
(f_L_isSound_279 σ l0 l5)
else
(zb (f_X9_visit σ l0 l5 (3 : Int32)) (fun r14 => (if (100 : Int32) < r14 then
(f_L_isSound_279 σ l0 l5)
else
(if l5 = 0 then
(f_L_isSound_275 σ l0 l5)
else
(zb (f_X9_visit σ l0 l5 (0 : Int32)) (fun r16 => (zb (f_X9_visit σ l0 (l5 - (1 : Int32)) (0 : Int32)) (fun r18 => (if r16 ≤ r18 then
(f_L_isSound_279 σ l0 l5)
else
(f_L_isSound_275 σ l0 l5))))))))))))))))))) else none)
set_option maxRecDepth 100000 in
def f_L_isSound_212 (σ : zSt) (l0 : Nat) (l3 : Int32) (l5 : Int32) : Option (Int32) := zloop (fun (t : Int32 × Int32) => b_L_isSound_212 σ l0 t.1 t.2) zN (l3, l5)
set_option maxRecDepth 20000 in
set_option maxHeartbeats 4000000 in
theorem tb_L_isSound_212 (B : z_B p s m args meth c D cA bs RL cL_isSound 6 (some .boolean)) {r : Int32} {o1 : (Int32 × Int32) ⊕ (Int32)} {σ : zSt} {l0 : Nat} {l3 : Int32} {l5 : Int32} (hf : b_L_isSound_212 σ l0 l3 l5 = some o1) {H : Heap} {locs : List Loc} {ls : Array Slot} (hW : z_Ok D cA bs s σ H locs) (hl : lv_has ls 6 [(0, .ref l0), (3, .int l3), (5, .int l5)]) (hk1 : ∀ (l3 : Int32) (l5 : Int32), o1 = .inl (l3, l5) → ∀ {H : Heap} {locs : List Loc} {ls : Array Slot}, z_Ok D cA bs s σ H locs → lv_has ls 6 [(0, .ref l0), (3, .int l3), (5, .int l5)] → W p l e (zrm 4 0 0 90) s m args below meth c H locs 0 0 (MQ below (z_Qi D cA bs r σ) args s 0 0 (fun q => bs ≤ q)) (F0 m 212 ls [])) (hr1 : ∀ x, o1 = .inr x → x = r) : W p l e (zrm 4 0 0 90) s m args below meth c H locs 0 0 (MQ below (z_Qi D cA bs r σ) args s 0 0 (fun q => bs ≤ q)) (F0 m 212 ls []) := by
  have hx := B.1
  have hb := B.2.1
  have hown := B.2.2.2.1
  have hts := B.2.2.2.2.1
  unfold b_L_isSound_212 at hf
  refine lv_iload hx hb dL_isSound_212 (lv_at hl 2 rfl) ?_
  refine lv_aload_n hx hb dL_isSound_214 rfl (lv_at hl 0 rfl) ?_
  obtain ⟨hg1, hf⟩ := z_g hf
  obtain ⟨r3, hq2, hf⟩ := z_b hf
  refine z_ci hW (z_runV (As := []) (rest := [.int l5]) B hW zv_L_58 (K_X9_logged hq2) hg1 rfl rfl rfl (Nat.le_of_ble_eq_true rfl) hl.1 ⟨Nat.le_of_ble_eq_true rfl, Nat.le_of_ble_eq_true rfl⟩ dL_isSound_215 ⟨Nat.le_of_ble_eq_true rfl, Nat.le_of_ble_eq_true rfl⟩) (fun H locs hW => ?_)
  refine lv_icmp_ge (tgt := 287) hx hb dL_isSound_218 (by decide) (fun hc218 => ?_) (fun hc218 => ?_)
  · replace hf := z_ip hc218 hf
    obtain ⟨w1, hf, ho8⟩ := z_x hf
    obtain rfl := hr1 _ ho8
    refine lv_iload_n hx hb dL_isSound_287 rfl (lv_at hl 1 rfl) ?_
    refine lv_if_eq (tgt := 325) hx hb dL_isSound_288 (by decide) (fun hc288 => ?_) (fun hc288 => ?_)
    · replace hf := z_ip hc288 hf
      exact t_L_isSound_325 B hf hW (lv_sub hl [] rfl) 
    · replace hf := z_in hc288 hf
      refine lv_aload_n hx hb dL_isSound_291 rfl (lv_at hl 0 rfl) ?_
      refine lv_iconst (v := (5 : Int32)) hx hb dL_isSound_292 (by decide) ?_
      obtain ⟨r5, hq4, hf⟩ := z_b hf
      refine z_ci hW (z_runV (As := [.int (5 : Int32)]) (rest := []) B hW zv_L_29 (K_X9_setting hq4) hg1 rfl rfl rfl (Nat.le_of_ble_eq_true rfl) hl.1 ⟨Nat.le_of_ble_eq_true rfl, Nat.le_of_ble_eq_true rfl⟩ dL_isSound_293 ⟨Nat.le_of_ble_eq_true rfl, Nat.le_of_ble_eq_true rfl⟩) (fun H locs hW => ?_)
      refine lv_if_gt (tgt := 307) hx hb dL_isSound_296 (by decide) (fun hc296 => ?_) (fun hc296 => ?_)
      · replace hf := z_ip hc296 hf
        exact t_L_isSound_307 B hf hW (lv_sub hl [0] rfl) 
      · replace hf := z_in hc296 hf
        refine lv_aload_n hx hb dL_isSound_299 rfl (lv_at hl 0 rfl) ?_
        refine lv_iconst (v := (2 : Int32)) hx hb dL_isSound_300 (by decide) ?_
        obtain ⟨r7, hq6, hf⟩ := z_b hf
        refine z_ci hW (z_runV (As := [.int (2 : Int32)]) (rest := []) B hW zv_L_52 (K_X9_count hq6) hg1 rfl rfl rfl (Nat.le_of_ble_eq_true rfl) hl.1 ⟨Nat.le_of_ble_eq_true rfl, Nat.le_of_ble_eq_true rfl⟩ dL_isSound_301 ⟨Nat.le_of_ble_eq_true rfl, Nat.le_of_ble_eq_true rfl⟩) (fun H locs hW => ?_)
        refine lv_if_ne (tgt := 325) hx hb dL_isSound_304 (by decide) (fun hc304 => ?_) (fun hc304 => ?_)
        · replace hf := z_in hc304 hf
          exact t_L_isSound_325 B hf hW (lv_sub hl [] rfl) 
        · replace hf := z_ip hc304 hf
          exact t_L_isSound_307 B hf hW (lv_sub hl [0] rfl) 
  · replace hf := z_in hc218 hf
    refine lv_iload_n hx hb dL_isSound_221 rfl (lv_at hl 1 rfl) ?_
    refine lv_if_eq (tgt := 279) hx hb dL_isSound_222 (by decide) (fun hc222 => ?_) (fun hc222 => ?_)
    · replace hf := z_ip hc222 hf
      exact t_L_isSound_279 B hf hW (lv_sub hl [0, 2] rfl) hk1 hr1
    · replace hf := z_in hc222 hf
      refine lv_aload_n hx hb dL_isSound_225 rfl (lv_at hl 0 rfl) ?_
      refine lv_iload hx hb dL_isSound_226 (lv_at hl 2 rfl) ?_
      refine lv_iconst (v := (2 : Int32)) hx hb dL_isSound_228 (by decide) ?_
      obtain ⟨r10, hq9, hf⟩ := z_b hf
      refine z_ci hW (z_runV (As := [.int l5, .int (2 : Int32)]) (rest := []) B hW zv_L_61 (K_X9_visit hq9) hg1 rfl rfl rfl (Nat.le_of_ble_eq_true rfl) hl.1 ⟨Nat.le_of_ble_eq_true rfl, Nat.le_of_ble_eq_true rfl⟩ dL_isSound_229 ⟨Nat.le_of_ble_eq_true rfl, Nat.le_of_ble_eq_true rfl⟩) (fun H locs hW => ?_)
      refine lv_aload_n hx hb dL_isSound_232 rfl (lv_at hl 0 rfl) ?_
      obtain ⟨r12, hq11, hf⟩ := z_b hf
      refine z_ci hW (z_runV (As := []) (rest := [.int r10]) B hW zv_L_72 (K_X9_greatestRotation hq11) hg1 rfl rfl rfl (Nat.le_of_ble_eq_true rfl) hl.1 ⟨Nat.le_of_ble_eq_true rfl, Nat.le_of_ble_eq_true rfl⟩ dL_isSound_233 ⟨Nat.le_of_ble_eq_true rfl, Nat.le_of_ble_eq_true rfl⟩) (fun H locs hW => ?_)
      refine lv_icmp_gt (tgt := 279) hx hb dL_isSound_236 (by decide) (fun hc236 => ?_) (fun hc236 => ?_)
      · replace hf := z_ip hc236 hf
        exact t_L_isSound_279 B hf hW (lv_sub hl [0, 2] rfl) hk1 hr1
      · replace hf := z_in hc236 hf
        refine lv_aload_n hx hb dL_isSound_239 rfl (lv_at hl 0 rfl) ?_
        refine lv_iload hx hb dL_isSound_240 (lv_at hl 2 rfl) ?_
        refine lv_iconst (v := (3 : Int32)) hx hb dL_isSound_242 (by decide) ?_
        obtain ⟨r14, hq13, hf⟩ := z_b hf
        refine z_ci hW (z_runV (As := [.int l5, .int (3 : Int32)]) (rest := []) B hW zv_L_61 (K_X9_visit hq13) hg1 rfl rfl rfl (Nat.le_of_ble_eq_true rfl) hl.1 ⟨Nat.le_of_ble_eq_true rfl, Nat.le_of_ble_eq_true rfl⟩ dL_isSound_243 ⟨Nat.le_of_ble_eq_true rfl, Nat.le_of_ble_eq_true rfl⟩) (fun H locs hW => ?_)
        refine lv_bipush (v := (100 : Int32)) hx hb dL_isSound_246 (by decide) ?_
        refine lv_icmp_gt (tgt := 279) hx hb dL_isSound_248 (by decide) (fun hc248 => ?_) (fun hc248 => ?_)
        · replace hf := z_ip hc248 hf
          exact t_L_isSound_279 B hf hW (lv_sub hl [0, 2] rfl) hk1 hr1
        · replace hf := z_in hc248 hf
          refine lv_iload hx hb dL_isSound_251 (lv_at hl 2 rfl) ?_
          refine lv_if_eq (tgt := 275) hx hb dL_isSound_253 (by decide) (fun hc253 => ?_) (fun hc253 => ?_)
          · replace hf := z_ip hc253 hf
            exact t_L_isSound_275 B hf hW (lv_sub hl [0, 2] rfl) hk1 hr1
          · replace hf := z_in hc253 hf
            refine lv_aload_n hx hb dL_isSound_256 rfl (lv_at hl 0 rfl) ?_
            refine lv_iload hx hb dL_isSound_257 (lv_at hl 2 rfl) ?_
            refine lv_iconst (v := (0 : Int32)) hx hb dL_isSound_259 (by decide) ?_
            obtain ⟨r16, hq15, hf⟩ := z_b hf
            refine z_ci hW (z_runV (As := [.int l5, .int (0 : Int32)]) (rest := []) B hW zv_L_61 (K_X9_visit hq15) hg1 rfl rfl rfl (Nat.le_of_ble_eq_true rfl) hl.1 ⟨Nat.le_of_ble_eq_true rfl, Nat.le_of_ble_eq_true rfl⟩ dL_isSound_260 ⟨Nat.le_of_ble_eq_true rfl, Nat.le_of_ble_eq_true rfl⟩) (fun H locs hW => ?_)
            refine lv_aload_n hx hb dL_isSound_263 rfl (lv_at hl 0 rfl) ?_
            refine lv_iload hx hb dL_isSound_264 (lv_at hl 2 rfl) ?_
            refine lv_iconst (v := (1 : Int32)) hx hb dL_isSound_266 (by decide) ?_
            refine lv_isub hx hb dL_isSound_267 ?_
            refine lv_iconst (v := (0 : Int32)) hx hb dL_isSound_268 (by decide) ?_
            obtain ⟨r18, hq17, hf⟩ := z_b hf
            refine z_ci hW (z_runV (As := [.int (l5 - (1 : Int32)), .int (0 : Int32)]) (rest := [.int r16]) B hW zv_L_61 (K_X9_visit hq17) hg1 rfl rfl rfl (Nat.le_of_ble_eq_true rfl) hl.1 ⟨Nat.le_of_ble_eq_true rfl, Nat.le_of_ble_eq_true rfl⟩ dL_isSound_269 ⟨Nat.le_of_ble_eq_true rfl, Nat.le_of_ble_eq_true rfl⟩) (fun H locs hW => ?_)
            refine lv_icmp_le (tgt := 279) hx hb dL_isSound_272 (by decide) (fun hc272 => ?_) (fun hc272 => ?_)
            · replace hf := z_ip hc272 hf
              exact t_L_isSound_279 B hf hW (lv_sub hl [0, 2] rfl) hk1 hr1
            · replace hf := z_in hc272 hf
              exact t_L_isSound_275 B hf hW (lv_sub hl [0, 2] rfl) hk1 hr1
set_option maxRecDepth 20000 in
set_option maxHeartbeats 4000000 in
theorem t_L_isSound_212 (B : z_B p s m args meth c D cA bs RL cL_isSound 6 (some .boolean)) {r : Int32} {σ : zSt} {l0 : Nat}  : ∀ (n : Nat) {l3 : Int32} {l5 : Int32}, zloop (fun (t : Int32 × Int32) => b_L_isSound_212 σ l0 t.1 t.2) n (l3, l5) = some r → ∀ {H : Heap} {locs : List Loc} {ls : Array Slot}, z_Ok D cA bs s σ H locs → lv_has ls 6 [(0, .ref l0), (3, .int l3), (5, .int l5)] → W p l e (zrm 4 0 0 90) s m args below meth c H locs 0 0 (MQ below (z_Qi D cA bs r σ) args s 0 0 (fun q => bs ≤ q)) (F0 m 212 ls []) := by
  intro n
  induction n with
  | zero => intro l3 l5 hf; cases hf
  | succ n ih =>
    intro l3 l5 hf H locs ls hW hl
    obtain ⟨o1, hb1, hf⟩ := z_lp hf
    refine tb_L_isSound_212 B hb1 hW hl  (fun l3 l5 he H locs ls hW hl => ?_) (fun x he => ?_)
    · rcases hf with ⟨t, ht, hf⟩ | hf
      · rw [he] at ht
        cases ht
        exact ih hf hW hl
      · rw [he] at hf
        cases hf
    · rcases hf with ⟨t, ht, hf⟩ | hf
      · rw [he] at ht
        cases ht
      · rw [he] at hf
        exact Sum.inr.inj hf
set_option maxRecDepth 100000 in
def f_L_isSound_208 (σ : zSt) (l0 : Nat) (s0 : Int32) : Option (Int32) :=
(f_L_isSound_212 σ l0 s0 (0 : Int32))
set_option maxRecDepth 20000 in
set_option maxHeartbeats 4000000 in
theorem t_L_isSound_208 (B : z_B p s m args meth c D cA bs RL cL_isSound 6 (some .boolean)) {r : Int32} {σ : zSt} {l0 : Nat} {s0 : Int32} (hf : f_L_isSound_208 σ l0 s0 = some r) {H : Heap} {locs : List Loc} {ls : Array Slot} (hW : z_Ok D cA bs s σ H locs) (hl : lv_has ls 6 [(0, .ref l0)])  : W p l e (zrm 4 0 0 90) s m args below meth c H locs 0 0 (MQ below (z_Qi D cA bs r σ) args s 0 0 (fun q => bs ≤ q)) (F0 m 208 ls [.int s0]) := by
  have hx := B.1
  have hb := B.2.1
  have hown := B.2.2.2.1
  have hts := B.2.2.2.2.1
  unfold f_L_isSound_208 at hf
  refine lv_istore_n (lv' := [(3, .int s0), (0, .ref l0)]) hx hb dL_isSound_208 rfl hl (by decide) rfl (fun ls hl => ?_)
  refine lv_iconst (v := (0 : Int32)) hx hb dL_isSound_209 (by decide) ?_
  refine lv_istore (lv' := [(5, .int (0 : Int32)), (3, .int s0), (0, .ref l0)]) hx hb dL_isSound_210 hl (by decide) rfl (fun ls hl => ?_)
  unfold f_L_isSound_212 at hf
  exact t_L_isSound_212 B  zN hf hW (lv_sub hl [2, 1, 0] rfl)
set_option maxRecDepth 100000 in
def f_L_isSound_207 (σ : zSt) (l0 : Nat) : Option (Int32) :=
(f_L_isSound_208 σ l0 (0 : Int32))
set_option maxRecDepth 20000 in
set_option maxHeartbeats 4000000 in
theorem t_L_isSound_207 (B : z_B p s m args meth c D cA bs RL cL_isSound 6 (some .boolean)) {r : Int32} {σ : zSt} {l0 : Nat} (hf : f_L_isSound_207 σ l0 = some r) {H : Heap} {locs : List Loc} {ls : Array Slot} (hW : z_Ok D cA bs s σ H locs) (hl : lv_has ls 6 [(0, .ref l0)])  : W p l e (zrm 4 0 0 90) s m args below meth c H locs 0 0 (MQ below (z_Qi D cA bs r σ) args s 0 0 (fun q => bs ≤ q)) (F0 m 207 ls []) := by
  have hx := B.1
  have hb := B.2.1
  have hown := B.2.2.2.1
  have hts := B.2.2.2.2.1
  unfold f_L_isSound_207 at hf
  refine lv_iconst (v := (0 : Int32)) hx hb dL_isSound_207 (by decide) ?_
  exact t_L_isSound_208 B hf hW hl 
set_option maxRecDepth 100000 in
def f_L_isSound_160 (σ : zSt) (l0 : Nat) (l1 : Int32) (l2 : Int32) : Option (Int32) :=
(if z_ob σ l0 8 then (zb (f_X9_count σ l0 (1 : Int32)) (fun r3 => (zb (f_X9_setting σ l0 (8 : Int32)) (fun r5 => (if (l1 + r3) = r5 then
(zb (f_X9_count σ l0 (0 : Int32)) (fun r7 => (if l2 = r7 then
(zb (f_X9_logged σ l0) (fun r9 => (if (40 : Int32) < r9 then
(f_L_isSound_207 σ l0)
else
(zb (f_X9_use σ l0) (fun r11 => (if 0 < (Op.cmpValue (FP.dcmp r11 FP.dconst1) .g) then
(f_L_isSound_207 σ l0)
else
(f_L_isSound_208 σ l0 (1 : Int32))))))))
else
(f_L_isSound_207 σ l0))))
else
(f_L_isSound_207 σ l0)))))) else none)
set_option maxRecDepth 20000 in
set_option maxHeartbeats 4000000 in
theorem t_L_isSound_160 (B : z_B p s m args meth c D cA bs RL cL_isSound 6 (some .boolean)) {r : Int32} {σ : zSt} {l0 : Nat} {l1 : Int32} {l2 : Int32} (hf : f_L_isSound_160 σ l0 l1 l2 = some r) {H : Heap} {locs : List Loc} {ls : Array Slot} (hW : z_Ok D cA bs s σ H locs) (hl : lv_has ls 6 [(0, .ref l0), (1, .int l1), (2, .int l2)])  : W p l e (zrm 4 0 0 90) s m args below meth c H locs 0 0 (MQ below (z_Qi D cA bs r σ) args s 0 0 (fun q => bs ≤ q)) (F0 m 160 ls []) := by
  have hx := B.1
  have hb := B.2.1
  have hown := B.2.2.2.1
  have hts := B.2.2.2.2.1
  unfold f_L_isSound_160 at hf
  refine lv_iload_n hx hb dL_isSound_160 rfl (lv_at hl 1 rfl) ?_
  refine lv_aload_n hx hb dL_isSound_161 rfl (lv_at hl 0 rfl) ?_
  refine lv_iconst (v := (1 : Int32)) hx hb dL_isSound_162 (by decide) ?_
  obtain ⟨hg1, hf⟩ := z_g hf
  obtain ⟨r3, hq2, hf⟩ := z_b hf
  refine z_ci hW (z_runV (As := [.int (1 : Int32)]) (rest := [.int l1]) B hW zv_L_52 (K_X9_count hq2) hg1 rfl rfl rfl (Nat.le_of_ble_eq_true rfl) hl.1 ⟨Nat.le_of_ble_eq_true rfl, Nat.le_of_ble_eq_true rfl⟩ dL_isSound_163 ⟨Nat.le_of_ble_eq_true rfl, Nat.le_of_ble_eq_true rfl⟩) (fun H locs hW => ?_)
  refine lv_iadd hx hb dL_isSound_166 ?_
  refine lv_aload_n hx hb dL_isSound_167 rfl (lv_at hl 0 rfl) ?_
  refine lv_bipush (v := (8 : Int32)) hx hb dL_isSound_168 (by decide) ?_
  obtain ⟨r5, hq4, hf⟩ := z_b hf
  refine z_ci hW (z_runV (As := [.int (8 : Int32)]) (rest := [.int (l1 + r3)]) B hW zv_L_29 (K_X9_setting hq4) hg1 rfl rfl rfl (Nat.le_of_ble_eq_true rfl) hl.1 ⟨Nat.le_of_ble_eq_true rfl, Nat.le_of_ble_eq_true rfl⟩ dL_isSound_170 ⟨Nat.le_of_ble_eq_true rfl, Nat.le_of_ble_eq_true rfl⟩) (fun H locs hW => ?_)
  refine lv_icmp_ne (tgt := 207) hx hb dL_isSound_173 (by decide) (fun hc173 => ?_) (fun hc173 => ?_)
  · replace hf := z_in hc173 hf
    exact t_L_isSound_207 B hf hW (lv_sub hl [0] rfl) 
  · replace hf := z_ip hc173 hf
    refine lv_iload_n hx hb dL_isSound_176 rfl (lv_at hl 2 rfl) ?_
    refine lv_aload_n hx hb dL_isSound_177 rfl (lv_at hl 0 rfl) ?_
    refine lv_iconst (v := (0 : Int32)) hx hb dL_isSound_178 (by decide) ?_
    obtain ⟨r7, hq6, hf⟩ := z_b hf
    refine z_ci hW (z_runV (As := [.int (0 : Int32)]) (rest := [.int l2]) B hW zv_L_52 (K_X9_count hq6) hg1 rfl rfl rfl (Nat.le_of_ble_eq_true rfl) hl.1 ⟨Nat.le_of_ble_eq_true rfl, Nat.le_of_ble_eq_true rfl⟩ dL_isSound_179 ⟨Nat.le_of_ble_eq_true rfl, Nat.le_of_ble_eq_true rfl⟩) (fun H locs hW => ?_)
    refine lv_icmp_ne (tgt := 207) hx hb dL_isSound_182 (by decide) (fun hc182 => ?_) (fun hc182 => ?_)
    · replace hf := z_in hc182 hf
      exact t_L_isSound_207 B hf hW (lv_sub hl [0] rfl) 
    · replace hf := z_ip hc182 hf
      refine lv_aload_n hx hb dL_isSound_185 rfl (lv_at hl 0 rfl) ?_
      obtain ⟨r9, hq8, hf⟩ := z_b hf
      refine z_ci hW (z_runV (As := []) (rest := []) B hW zv_L_58 (K_X9_logged hq8) hg1 rfl rfl rfl (Nat.le_of_ble_eq_true rfl) hl.1 ⟨Nat.le_of_ble_eq_true rfl, Nat.le_of_ble_eq_true rfl⟩ dL_isSound_186 ⟨Nat.le_of_ble_eq_true rfl, Nat.le_of_ble_eq_true rfl⟩) (fun H locs hW => ?_)
      refine lv_bipush (v := (40 : Int32)) hx hb dL_isSound_189 (by decide) ?_
      refine lv_icmp_gt (tgt := 207) hx hb dL_isSound_191 (by decide) (fun hc191 => ?_) (fun hc191 => ?_)
      · replace hf := z_ip hc191 hf
        exact t_L_isSound_207 B hf hW (lv_sub hl [0] rfl) 
      · replace hf := z_in hc191 hf
        refine lv_aload_n hx hb dL_isSound_194 rfl (lv_at hl 0 rfl) ?_
        obtain ⟨r11, hq10, hf⟩ := z_b hf
        refine z_cd hW (z_runV (As := []) (rest := []) B hW zv_L_68 (K_X9_use hq10) hg1 rfl rfl rfl (Nat.le_of_ble_eq_true rfl) hl.1 ⟨Nat.le_of_ble_eq_true rfl, Nat.le_of_ble_eq_true rfl⟩ dL_isSound_195 ⟨Nat.le_of_ble_eq_true rfl, Nat.le_of_ble_eq_true rfl⟩) (fun H locs hW => ?_)
        refine lv_dconst1 hx hb dL_isSound_198 ?_
        refine lv_dcmp hx hb dL_isSound_199 ?_
        refine lv_if_gt (tgt := 207) hx hb dL_isSound_200 (by decide) (fun hc200 => ?_) (fun hc200 => ?_)
        · replace hf := z_ip hc200 hf
          exact t_L_isSound_207 B hf hW (lv_sub hl [0] rfl) 
        · replace hf := z_in hc200 hf
          refine lv_iconst (v := (1 : Int32)) hx hb dL_isSound_203 (by decide) ?_
          refine lv_goto (tgt := 208) hx hb dL_isSound_204 (by decide) ?_
          exact t_L_isSound_208 B hf hW (lv_sub hl [0] rfl) 
set_option maxRecDepth 100000 in
def f_L_isSound_125 (σ : zSt) (l0 : Nat) (l1 : Int32) (l2 : Int32) (l4 : Int32) (s0 : Int32) : Option ((Int32 × Int32 × Int32 × Int32) ⊕ (Int32)) :=
(some (.inl (l1, l2, s0, (l4 + (1 : Int32)))))
set_option maxRecDepth 20000 in
set_option maxHeartbeats 4000000 in
theorem t_L_isSound_125 (B : z_B p s m args meth c D cA bs RL cL_isSound 6 (some .boolean)) {r : Int32} {o1 : (Int32 × Int32 × Int32 × Int32) ⊕ (Int32)} {σ : zSt} {l0 : Nat} {l1 : Int32} {l2 : Int32} {l4 : Int32} {s0 : Int32} (hf : f_L_isSound_125 σ l0 l1 l2 l4 s0 = some o1) {H : Heap} {locs : List Loc} {ls : Array Slot} (hW : z_Ok D cA bs s σ H locs) (hl : lv_has ls 6 [(0, .ref l0), (1, .int l1), (2, .int l2), (4, .int l4)]) (hk1 : ∀ (l1 : Int32) (l2 : Int32) (l3 : Int32) (l4 : Int32), o1 = .inl (l1, l2, l3, l4) → ∀ {H : Heap} {locs : List Loc} {ls : Array Slot}, z_Ok D cA bs s σ H locs → lv_has ls 6 [(0, .ref l0), (1, .int l1), (2, .int l2), (3, .int l3), (4, .int l4)] → W p l e (zrm 4 0 0 90) s m args below meth c H locs 0 0 (MQ below (z_Qi D cA bs r σ) args s 0 0 (fun q => bs ≤ q)) (F0 m 9 ls [])) (hr1 : ∀ x, o1 = .inr x → x = r) : W p l e (zrm 4 0 0 90) s m args below meth c H locs 0 0 (MQ below (z_Qi D cA bs r σ) args s 0 0 (fun q => bs ≤ q)) (F0 m 125 ls [.int s0]) := by
  have hx := B.1
  have hb := B.2.1
  have hown := B.2.2.2.1
  have hts := B.2.2.2.2.1
  unfold f_L_isSound_125 at hf
  refine lv_istore_n (lv' := [(3, .int s0), (0, .ref l0), (1, .int l1), (2, .int l2), (4, .int l4)]) hx hb dL_isSound_125 rfl hl (by decide) rfl (fun ls hl => ?_)
  refine lv_iinc (v := (l4 + (1 : Int32))) (lv' := [(4, .int (l4 + (1 : Int32))), (3, .int s0), (0, .ref l0), (1, .int l1), (2, .int l2)]) hx hb dL_isSound_126 hl (k := 4) rfl rfl (by decide) rfl (fun ls hl => ?_)
  refine lv_goto (tgt := 9) hx hb dL_isSound_129 (by decide) ?_
  exact hk1 _ _ _ _ (Option.some.inj hf).symm hW (lv_sub hl [2, 3, 4, 1, 0] rfl)
set_option maxRecDepth 100000 in
def f_L_isSound_124 (σ : zSt) (l0 : Nat) (l1 : Int32) (l2 : Int32) (l4 : Int32) : Option ((Int32 × Int32 × Int32 × Int32) ⊕ (Int32)) :=
(f_L_isSound_125 σ l0 l1 l2 l4 (0 : Int32))
set_option maxRecDepth 20000 in
set_option maxHeartbeats 4000000 in
theorem t_L_isSound_124 (B : z_B p s m args meth c D cA bs RL cL_isSound 6 (some .boolean)) {r : Int32} {o1 : (Int32 × Int32 × Int32 × Int32) ⊕ (Int32)} {σ : zSt} {l0 : Nat} {l1 : Int32} {l2 : Int32} {l4 : Int32} (hf : f_L_isSound_124 σ l0 l1 l2 l4 = some o1) {H : Heap} {locs : List Loc} {ls : Array Slot} (hW : z_Ok D cA bs s σ H locs) (hl : lv_has ls 6 [(0, .ref l0), (1, .int l1), (2, .int l2), (4, .int l4)]) (hk1 : ∀ (l1 : Int32) (l2 : Int32) (l3 : Int32) (l4 : Int32), o1 = .inl (l1, l2, l3, l4) → ∀ {H : Heap} {locs : List Loc} {ls : Array Slot}, z_Ok D cA bs s σ H locs → lv_has ls 6 [(0, .ref l0), (1, .int l1), (2, .int l2), (3, .int l3), (4, .int l4)] → W p l e (zrm 4 0 0 90) s m args below meth c H locs 0 0 (MQ below (z_Qi D cA bs r σ) args s 0 0 (fun q => bs ≤ q)) (F0 m 9 ls [])) (hr1 : ∀ x, o1 = .inr x → x = r) : W p l e (zrm 4 0 0 90) s m args below meth c H locs 0 0 (MQ below (z_Qi D cA bs r σ) args s 0 0 (fun q => bs ≤ q)) (F0 m 124 ls []) := by
  have hx := B.1
  have hb := B.2.1
  have hown := B.2.2.2.1
  have hts := B.2.2.2.2.1
  unfold f_L_isSound_124 at hf
  refine lv_iconst (v := (0 : Int32)) hx hb dL_isSound_124 (by decide) ?_
  exact t_L_isSound_125 B hf hW hl hk1 hr1
set_option maxRecDepth 100000 in
def f_L_isSound_117 (σ : zSt) (l0 : Nat) (l1 : Int32) (l2 : Int32) (l4 : Int32) (s0 : Int32) (s1 : Int32) : Option ((Int32 × Int32 × Int32 × Int32) ⊕ (Int32)) :=
(if s1 = s0 then
(f_L_isSound_125 σ l0 l1 l2 l4 (1 : Int32))
else
(f_L_isSound_124 σ l0 l1 l2 l4))
set_option maxRecDepth 20000 in
set_option maxHeartbeats 4000000 in
theorem t_L_isSound_117 (B : z_B p s m args meth c D cA bs RL cL_isSound 6 (some .boolean)) {r : Int32} {o1 : (Int32 × Int32 × Int32 × Int32) ⊕ (Int32)} {σ : zSt} {l0 : Nat} {l1 : Int32} {l2 : Int32} {l4 : Int32} {s0 : Int32} {s1 : Int32} (hf : f_L_isSound_117 σ l0 l1 l2 l4 s0 s1 = some o1) {H : Heap} {locs : List Loc} {ls : Array Slot} (hW : z_Ok D cA bs s σ H locs) (hl : lv_has ls 6 [(0, .ref l0), (1, .int l1), (2, .int l2), (4, .int l4)]) (hk1 : ∀ (l1 : Int32) (l2 : Int32) (l3 : Int32) (l4 : Int32), o1 = .inl (l1, l2, l3, l4) → ∀ {H : Heap} {locs : List Loc} {ls : Array Slot}, z_Ok D cA bs s σ H locs → lv_has ls 6 [(0, .ref l0), (1, .int l1), (2, .int l2), (3, .int l3), (4, .int l4)] → W p l e (zrm 4 0 0 90) s m args below meth c H locs 0 0 (MQ below (z_Qi D cA bs r σ) args s 0 0 (fun q => bs ≤ q)) (F0 m 9 ls [])) (hr1 : ∀ x, o1 = .inr x → x = r) : W p l e (zrm 4 0 0 90) s m args below meth c H locs 0 0 (MQ below (z_Qi D cA bs r σ) args s 0 0 (fun q => bs ≤ q)) (F0 m 117 ls [.int s0, .int s1]) := by
  have hx := B.1
  have hb := B.2.1
  have hown := B.2.2.2.1
  have hts := B.2.2.2.2.1
  unfold f_L_isSound_117 at hf
  refine lv_icmp_ne (tgt := 124) hx hb dL_isSound_117 (by decide) (fun hc117 => ?_) (fun hc117 => ?_)
  · replace hf := z_in hc117 hf
    exact t_L_isSound_124 B hf hW hl hk1 hr1
  · replace hf := z_ip hc117 hf
    refine lv_iconst (v := (1 : Int32)) hx hb dL_isSound_120 (by decide) ?_
    refine lv_goto (tgt := 125) hx hb dL_isSound_121 (by decide) ?_
    exact t_L_isSound_125 B hf hW hl hk1 hr1
set_option maxRecDepth 100000 in
def f_L_isSound_101 (σ : zSt) (l0 : Nat) (l1 : Int32) (l2 : Int32) (l4 : Int32) (l5 : Int32) (s0 : Int32) : Option ((Int32 × Int32 × Int32 × Int32) ⊕ (Int32)) :=
(if z_ob σ l0 8 then (zb (f_X9_station σ l0 l5 (6 : Int32)) (fun r3 => (if r3 < 0 then
(f_L_isSound_117 σ l0 l1 l2 l4 (0 : Int32) s0)
else
(f_L_isSound_117 σ l0 l1 l2 l4 (1 : Int32) s0)))) else none)
set_option maxRecDepth 20000 in
set_option maxHeartbeats 4000000 in
theorem t_L_isSound_101 (B : z_B p s m args meth c D cA bs RL cL_isSound 6 (some .boolean)) {r : Int32} {o1 : (Int32 × Int32 × Int32 × Int32) ⊕ (Int32)} {σ : zSt} {l0 : Nat} {l1 : Int32} {l2 : Int32} {l4 : Int32} {l5 : Int32} {s0 : Int32} (hf : f_L_isSound_101 σ l0 l1 l2 l4 l5 s0 = some o1) {H : Heap} {locs : List Loc} {ls : Array Slot} (hW : z_Ok D cA bs s σ H locs) (hl : lv_has ls 6 [(0, .ref l0), (1, .int l1), (2, .int l2), (4, .int l4), (5, .int l5)]) (hk1 : ∀ (l1 : Int32) (l2 : Int32) (l3 : Int32) (l4 : Int32), o1 = .inl (l1, l2, l3, l4) → ∀ {H : Heap} {locs : List Loc} {ls : Array Slot}, z_Ok D cA bs s σ H locs → lv_has ls 6 [(0, .ref l0), (1, .int l1), (2, .int l2), (3, .int l3), (4, .int l4)] → W p l e (zrm 4 0 0 90) s m args below meth c H locs 0 0 (MQ below (z_Qi D cA bs r σ) args s 0 0 (fun q => bs ≤ q)) (F0 m 9 ls [])) (hr1 : ∀ x, o1 = .inr x → x = r) : W p l e (zrm 4 0 0 90) s m args below meth c H locs 0 0 (MQ below (z_Qi D cA bs r σ) args s 0 0 (fun q => bs ≤ q)) (F0 m 101 ls [.int s0]) := by
  have hx := B.1
  have hb := B.2.1
  have hown := B.2.2.2.1
  have hts := B.2.2.2.2.1
  unfold f_L_isSound_101 at hf
  refine lv_aload_n hx hb dL_isSound_101 rfl (lv_at hl 0 rfl) ?_
  refine lv_iload hx hb dL_isSound_102 (lv_at hl 4 rfl) ?_
  refine lv_bipush (v := (6 : Int32)) hx hb dL_isSound_104 (by decide) ?_
  obtain ⟨hg1, hf⟩ := z_g hf
  obtain ⟨r3, hq2, hf⟩ := z_b hf
  refine z_ci hW (z_runV (As := [.int l5, .int (6 : Int32)]) (rest := [.int s0]) B hW zv_L_55 (K_X9_station hq2) hg1 rfl rfl rfl (Nat.le_of_ble_eq_true rfl) hl.1 ⟨Nat.le_of_ble_eq_true rfl, Nat.le_of_ble_eq_true rfl⟩ dL_isSound_106 ⟨Nat.le_of_ble_eq_true rfl, Nat.le_of_ble_eq_true rfl⟩) (fun H locs hW => ?_)
  refine lv_if_lt (tgt := 116) hx hb dL_isSound_109 (by decide) (fun hc109 => ?_) (fun hc109 => ?_)
  · replace hf := z_ip hc109 hf
    refine lv_iconst (v := (0 : Int32)) hx hb dL_isSound_116 (by decide) ?_
    exact t_L_isSound_117 B hf hW (lv_sub hl [0, 1, 2, 3] rfl) hk1 hr1
  · replace hf := z_in hc109 hf
    refine lv_iconst (v := (1 : Int32)) hx hb dL_isSound_112 (by decide) ?_
    refine lv_goto (tgt := 117) hx hb dL_isSound_113 (by decide) ?_
    exact t_L_isSound_117 B hf hW (lv_sub hl [0, 1, 2, 3] rfl) hk1 hr1
set_option maxRecDepth 100000 in
def f_L_isSound_69 (σ : zSt) (l0 : Nat) (l1 : Int32) (l2 : Int32) (l4 : Int32) (l5 : Int32) : Option ((Int32 × Int32 × Int32 × Int32) ⊕ (Int32)) :=
(if z_ob σ l0 8 then (zb (f_X9_station σ l0 l5 (1 : Int32)) (fun r3 => (zb (f_X9_station σ l0 l5 (0 : Int32)) (fun r5 => (if r5 < r3 then
(f_L_isSound_124 σ l0 l1 l2 l4)
else
(zb (f_X9_station σ l0 l5 (5 : Int32)) (fun r7 => (if r7 ≤ 0 then
(f_L_isSound_101 σ l0 l1 l2 l4 l5 (0 : Int32))
else
(f_L_isSound_101 σ l0 l1 l2 l4 l5 (1 : Int32)))))))))) else none)
set_option maxRecDepth 20000 in
set_option maxHeartbeats 4000000 in
theorem t_L_isSound_69 (B : z_B p s m args meth c D cA bs RL cL_isSound 6 (some .boolean)) {r : Int32} {o1 : (Int32 × Int32 × Int32 × Int32) ⊕ (Int32)} {σ : zSt} {l0 : Nat} {l1 : Int32} {l2 : Int32} {l4 : Int32} {l5 : Int32} (hf : f_L_isSound_69 σ l0 l1 l2 l4 l5 = some o1) {H : Heap} {locs : List Loc} {ls : Array Slot} (hW : z_Ok D cA bs s σ H locs) (hl : lv_has ls 6 [(0, .ref l0), (1, .int l1), (2, .int l2), (4, .int l4), (5, .int l5)]) (hk1 : ∀ (l1 : Int32) (l2 : Int32) (l3 : Int32) (l4 : Int32), o1 = .inl (l1, l2, l3, l4) → ∀ {H : Heap} {locs : List Loc} {ls : Array Slot}, z_Ok D cA bs s σ H locs → lv_has ls 6 [(0, .ref l0), (1, .int l1), (2, .int l2), (3, .int l3), (4, .int l4)] → W p l e (zrm 4 0 0 90) s m args below meth c H locs 0 0 (MQ below (z_Qi D cA bs r σ) args s 0 0 (fun q => bs ≤ q)) (F0 m 9 ls [])) (hr1 : ∀ x, o1 = .inr x → x = r) : W p l e (zrm 4 0 0 90) s m args below meth c H locs 0 0 (MQ below (z_Qi D cA bs r σ) args s 0 0 (fun q => bs ≤ q)) (F0 m 69 ls []) := by
  have hx := B.1
  have hb := B.2.1
  have hown := B.2.2.2.1
  have hts := B.2.2.2.2.1
  unfold f_L_isSound_69 at hf
  refine lv_aload_n hx hb dL_isSound_69 rfl (lv_at hl 0 rfl) ?_
  refine lv_iload hx hb dL_isSound_70 (lv_at hl 4 rfl) ?_
  refine lv_iconst (v := (1 : Int32)) hx hb dL_isSound_72 (by decide) ?_
  obtain ⟨hg1, hf⟩ := z_g hf
  obtain ⟨r3, hq2, hf⟩ := z_b hf
  refine z_ci hW (z_runV (As := [.int l5, .int (1 : Int32)]) (rest := []) B hW zv_L_55 (K_X9_station hq2) hg1 rfl rfl rfl (Nat.le_of_ble_eq_true rfl) hl.1 ⟨Nat.le_of_ble_eq_true rfl, Nat.le_of_ble_eq_true rfl⟩ dL_isSound_73 ⟨Nat.le_of_ble_eq_true rfl, Nat.le_of_ble_eq_true rfl⟩) (fun H locs hW => ?_)
  refine lv_aload_n hx hb dL_isSound_76 rfl (lv_at hl 0 rfl) ?_
  refine lv_iload hx hb dL_isSound_77 (lv_at hl 4 rfl) ?_
  refine lv_iconst (v := (0 : Int32)) hx hb dL_isSound_79 (by decide) ?_
  obtain ⟨r5, hq4, hf⟩ := z_b hf
  refine z_ci hW (z_runV (As := [.int l5, .int (0 : Int32)]) (rest := [.int r3]) B hW zv_L_55 (K_X9_station hq4) hg1 rfl rfl rfl (Nat.le_of_ble_eq_true rfl) hl.1 ⟨Nat.le_of_ble_eq_true rfl, Nat.le_of_ble_eq_true rfl⟩ dL_isSound_80 ⟨Nat.le_of_ble_eq_true rfl, Nat.le_of_ble_eq_true rfl⟩) (fun H locs hW => ?_)
  refine lv_icmp_gt (tgt := 124) hx hb dL_isSound_83 (by decide) (fun hc83 => ?_) (fun hc83 => ?_)
  · replace hf := z_ip hc83 hf
    exact t_L_isSound_124 B hf hW (lv_sub hl [0, 1, 2, 3] rfl) hk1 hr1
  · replace hf := z_in hc83 hf
    refine lv_aload_n hx hb dL_isSound_86 rfl (lv_at hl 0 rfl) ?_
    refine lv_iload hx hb dL_isSound_87 (lv_at hl 4 rfl) ?_
    refine lv_iconst (v := (5 : Int32)) hx hb dL_isSound_89 (by decide) ?_
    obtain ⟨r7, hq6, hf⟩ := z_b hf
    refine z_ci hW (z_runV (As := [.int l5, .int (5 : Int32)]) (rest := []) B hW zv_L_55 (K_X9_station hq6) hg1 rfl rfl rfl (Nat.le_of_ble_eq_true rfl) hl.1 ⟨Nat.le_of_ble_eq_true rfl, Nat.le_of_ble_eq_true rfl⟩ dL_isSound_90 ⟨Nat.le_of_ble_eq_true rfl, Nat.le_of_ble_eq_true rfl⟩) (fun H locs hW => ?_)
    refine lv_if_le (tgt := 100) hx hb dL_isSound_93 (by decide) (fun hc93 => ?_) (fun hc93 => ?_)
    · replace hf := z_ip hc93 hf
      refine lv_iconst (v := (0 : Int32)) hx hb dL_isSound_100 (by decide) ?_
      exact t_L_isSound_101 B hf hW hl hk1 hr1
    · replace hf := z_in hc93 hf
      refine lv_iconst (v := (1 : Int32)) hx hb dL_isSound_96 (by decide) ?_
      refine lv_goto (tgt := 101) hx hb dL_isSound_97 (by decide) ?_
      exact t_L_isSound_101 B hf hW hl hk1 hr1
set_option maxRecDepth 100000 in
def b_L_isSound_9 (σ : zSt) (l0 : Nat) (l1 : Int32) (l2 : Int32) (l3 : Int32) (l4 : Int32) : Option ((Int32 × Int32 × Int32 × Int32) ⊕ (Int32)) :=
(if z_ob σ l0 8 then (zb (f_X9_setting σ l0 (3 : Int32)) (fun r3 => (if r3 ≤ l4 then
(zex (zb (f_X9_setting σ l0 (7 : Int32)) (fun r5 => (if l3 = 0 then
(f_L_isSound_207 σ l0)
else
(if r5 < 0 then
(f_L_isSound_160 σ l0 l1 l2)
else
(zb (f_X9_station σ l0 r5 (1 : Int32)) (fun r7 => (if r7 = (1 : Int32) then
(f_L_isSound_160 σ l0 l1 l2)
else
(f_L_isSound_207 σ l0)))))))))
else
(zb (f_X9_addressAt σ l0 l4) (fun r10 => (zb (f_X9_station σ l0 r10 (4 : Int32)) (fun r12 => (zl (l1 + r12) (fun x13 => (zb (f_X9_station σ l0 r10 (5 : Int32)) (fun r16 => (zl (l2 + r16) (fun x17 => (if l3 = 0 then
(f_L_isSound_124 σ l0 x13 x17 l4)
else
(if l4 = 0 then
(f_L_isSound_69 σ l0 x13 x17 l4 r10)
else
(zb (f_X9_addressAt σ l0 (l4 - (1 : Int32))) (fun r20 => (if r10 ≤ r20 then
(f_L_isSound_124 σ l0 x13 x17 l4)
else
(f_L_isSound_69 σ l0 x13 x17 l4 r10))))))))))))))))))) else none)
set_option maxRecDepth 100000 in
def f_L_isSound_9 (σ : zSt) (l0 : Nat) (l1 : Int32) (l2 : Int32) (l3 : Int32) (l4 : Int32) : Option (Int32) := zloop (fun (t : Int32 × Int32 × Int32 × Int32) => b_L_isSound_9 σ l0 t.1 t.2.1 t.2.2.1 t.2.2.2) zN (l1, l2, l3, l4)
set_option maxRecDepth 20000 in
set_option maxHeartbeats 4000000 in
theorem tb_L_isSound_9 (B : z_B p s m args meth c D cA bs RL cL_isSound 6 (some .boolean)) {r : Int32} {o1 : (Int32 × Int32 × Int32 × Int32) ⊕ (Int32)} {σ : zSt} {l0 : Nat} {l1 : Int32} {l2 : Int32} {l3 : Int32} {l4 : Int32} (hf : b_L_isSound_9 σ l0 l1 l2 l3 l4 = some o1) {H : Heap} {locs : List Loc} {ls : Array Slot} (hW : z_Ok D cA bs s σ H locs) (hl : lv_has ls 6 [(0, .ref l0), (1, .int l1), (2, .int l2), (3, .int l3), (4, .int l4)]) (hk1 : ∀ (l1 : Int32) (l2 : Int32) (l3 : Int32) (l4 : Int32), o1 = .inl (l1, l2, l3, l4) → ∀ {H : Heap} {locs : List Loc} {ls : Array Slot}, z_Ok D cA bs s σ H locs → lv_has ls 6 [(0, .ref l0), (1, .int l1), (2, .int l2), (3, .int l3), (4, .int l4)] → W p l e (zrm 4 0 0 90) s m args below meth c H locs 0 0 (MQ below (z_Qi D cA bs r σ) args s 0 0 (fun q => bs ≤ q)) (F0 m 9 ls [])) (hr1 : ∀ x, o1 = .inr x → x = r) : W p l e (zrm 4 0 0 90) s m args below meth c H locs 0 0 (MQ below (z_Qi D cA bs r σ) args s 0 0 (fun q => bs ≤ q)) (F0 m 9 ls []) := by
  have hx := B.1
  have hb := B.2.1
  have hown := B.2.2.2.1
  have hts := B.2.2.2.2.1
  unfold b_L_isSound_9 at hf
  refine lv_iload hx hb dL_isSound_9 (lv_at hl 4 rfl) ?_
  refine lv_aload_n hx hb dL_isSound_11 rfl (lv_at hl 0 rfl) ?_
  refine lv_iconst (v := (3 : Int32)) hx hb dL_isSound_12 (by decide) ?_
  obtain ⟨hg1, hf⟩ := z_g hf
  obtain ⟨r3, hq2, hf⟩ := z_b hf
  refine z_ci hW (z_runV (As := [.int (3 : Int32)]) (rest := [.int l4]) B hW zv_L_29 (K_X9_setting hq2) hg1 rfl rfl rfl (Nat.le_of_ble_eq_true rfl) hl.1 ⟨Nat.le_of_ble_eq_true rfl, Nat.le_of_ble_eq_true rfl⟩ dL_isSound_13 ⟨Nat.le_of_ble_eq_true rfl, Nat.le_of_ble_eq_true rfl⟩) (fun H locs hW => ?_)
  refine lv_icmp_ge (tgt := 132) hx hb dL_isSound_16 (by decide) (fun hc16 => ?_) (fun hc16 => ?_)
  · replace hf := z_ip hc16 hf
    obtain ⟨w1, hf, ho8⟩ := z_x hf
    obtain rfl := hr1 _ ho8
    refine lv_aload_n hx hb dL_isSound_132 rfl (lv_at hl 0 rfl) ?_
    refine lv_bipush (v := (7 : Int32)) hx hb dL_isSound_133 (by decide) ?_
    obtain ⟨r5, hq4, hf⟩ := z_b hf
    refine z_ci hW (z_runV (As := [.int (7 : Int32)]) (rest := []) B hW zv_L_29 (K_X9_setting hq4) hg1 rfl rfl rfl (Nat.le_of_ble_eq_true rfl) hl.1 ⟨Nat.le_of_ble_eq_true rfl, Nat.le_of_ble_eq_true rfl⟩ dL_isSound_135 ⟨Nat.le_of_ble_eq_true rfl, Nat.le_of_ble_eq_true rfl⟩) (fun H locs hW => ?_)
    refine lv_istore (lv' := [(4, .int r5), (0, .ref l0), (1, .int l1), (2, .int l2), (3, .int l3)]) hx hb dL_isSound_138 hl (by decide) rfl (fun ls hl => ?_)
    refine lv_iload_n hx hb dL_isSound_140 rfl (lv_at hl 4 rfl) ?_
    refine lv_if_eq (tgt := 207) hx hb dL_isSound_141 (by decide) (fun hc141 => ?_) (fun hc141 => ?_)
    · replace hf := z_ip hc141 hf
      exact t_L_isSound_207 B hf hW (lv_sub hl [1] rfl) 
    · replace hf := z_in hc141 hf
      refine lv_iload hx hb dL_isSound_144 (lv_at hl 0 rfl) ?_
      refine lv_if_lt (tgt := 160) hx hb dL_isSound_146 (by decide) (fun hc146 => ?_) (fun hc146 => ?_)
      · replace hf := z_ip hc146 hf
        exact t_L_isSound_160 B hf hW (lv_sub hl [1, 2, 3] rfl) 
      · replace hf := z_in hc146 hf
        refine lv_aload_n hx hb dL_isSound_149 rfl (lv_at hl 1 rfl) ?_
        refine lv_iload hx hb dL_isSound_150 (lv_at hl 0 rfl) ?_
        refine lv_iconst (v := (1 : Int32)) hx hb dL_isSound_152 (by decide) ?_
        obtain ⟨r7, hq6, hf⟩ := z_b hf
        refine z_ci hW (z_runV (As := [.int r5, .int (1 : Int32)]) (rest := []) B hW zv_L_55 (K_X9_station hq6) hg1 rfl rfl rfl (Nat.le_of_ble_eq_true rfl) hl.1 ⟨Nat.le_of_ble_eq_true rfl, Nat.le_of_ble_eq_true rfl⟩ dL_isSound_153 ⟨Nat.le_of_ble_eq_true rfl, Nat.le_of_ble_eq_true rfl⟩) (fun H locs hW => ?_)
        refine lv_iconst (v := (1 : Int32)) hx hb dL_isSound_156 (by decide) ?_
        refine lv_icmp_ne (tgt := 207) hx hb dL_isSound_157 (by decide) (fun hc157 => ?_) (fun hc157 => ?_)
        · replace hf := z_in hc157 hf
          exact t_L_isSound_207 B hf hW (lv_sub hl [1] rfl) 
        · replace hf := z_ip hc157 hf
          exact t_L_isSound_160 B hf hW (lv_sub hl [1, 2, 3] rfl) 
  · replace hf := z_in hc16 hf
    refine lv_aload_n hx hb dL_isSound_19 rfl (lv_at hl 0 rfl) ?_
    refine lv_iload hx hb dL_isSound_20 (lv_at hl 4 rfl) ?_
    obtain ⟨r10, hq9, hf⟩ := z_b hf
    refine z_ci hW (z_runV (As := [.int l4]) (rest := []) B hW zv_L_32 (K_X9_addressAt hq9) hg1 rfl rfl rfl (Nat.le_of_ble_eq_true rfl) hl.1 ⟨Nat.le_of_ble_eq_true rfl, Nat.le_of_ble_eq_true rfl⟩ dL_isSound_22 ⟨Nat.le_of_ble_eq_true rfl, Nat.le_of_ble_eq_true rfl⟩) (fun H locs hW => ?_)
    refine lv_istore (lv' := [(5, .int r10), (0, .ref l0), (1, .int l1), (2, .int l2), (3, .int l3), (4, .int l4)]) hx hb dL_isSound_25 hl (by decide) rfl (fun ls hl => ?_)
    refine lv_iload_n hx hb dL_isSound_27 rfl (lv_at hl 2 rfl) ?_
    refine lv_aload_n hx hb dL_isSound_28 rfl (lv_at hl 1 rfl) ?_
    refine lv_iload hx hb dL_isSound_29 (lv_at hl 0 rfl) ?_
    refine lv_iconst (v := (4 : Int32)) hx hb dL_isSound_31 (by decide) ?_
    obtain ⟨r12, hq11, hf⟩ := z_b hf
    refine z_ci hW (z_runV (As := [.int r10, .int (4 : Int32)]) (rest := [.int l1]) B hW zv_L_55 (K_X9_station hq11) hg1 rfl rfl rfl (Nat.le_of_ble_eq_true rfl) hl.1 ⟨Nat.le_of_ble_eq_true rfl, Nat.le_of_ble_eq_true rfl⟩ dL_isSound_32 ⟨Nat.le_of_ble_eq_true rfl, Nat.le_of_ble_eq_true rfl⟩) (fun H locs hW => ?_)
    refine lv_iadd hx hb dL_isSound_35 ?_
    obtain ⟨x13, hx14, hf⟩ := z_l hf
    rw [hx14]
    refine lv_istore_n (lv' := [(1, .int x13), (5, .int r10), (0, .ref l0), (2, .int l2), (3, .int l3), (4, .int l4)]) hx hb dL_isSound_36 rfl hl (by decide) rfl (fun ls hl => ?_)
    refine lv_iload_n hx hb dL_isSound_37 rfl (lv_at hl 3 rfl) ?_
    refine lv_aload_n hx hb dL_isSound_38 rfl (lv_at hl 2 rfl) ?_
    refine lv_iload hx hb dL_isSound_39 (lv_at hl 1 rfl) ?_
    refine lv_iconst (v := (5 : Int32)) hx hb dL_isSound_41 (by decide) ?_
    obtain ⟨r16, hq15, hf⟩ := z_b hf
    refine z_ci hW (z_runV (As := [.int r10, .int (5 : Int32)]) (rest := [.int l2]) B hW zv_L_55 (K_X9_station hq15) hg1 rfl rfl rfl (Nat.le_of_ble_eq_true rfl) hl.1 ⟨Nat.le_of_ble_eq_true rfl, Nat.le_of_ble_eq_true rfl⟩ dL_isSound_42 ⟨Nat.le_of_ble_eq_true rfl, Nat.le_of_ble_eq_true rfl⟩) (fun H locs hW => ?_)
    refine lv_iadd hx hb dL_isSound_45 ?_
    obtain ⟨x17, hx18, hf⟩ := z_l hf
    rw [hx18]
    refine lv_istore_n (lv' := [(2, .int x17), (1, .int x13), (5, .int r10), (0, .ref l0), (3, .int l3), (4, .int l4)]) hx hb dL_isSound_46 rfl hl (by decide) rfl (fun ls hl => ?_)
    refine lv_iload_n hx hb dL_isSound_47 rfl (lv_at hl 4 rfl) ?_
    refine lv_if_eq (tgt := 124) hx hb dL_isSound_48 (by decide) (fun hc48 => ?_) (fun hc48 => ?_)
    · replace hf := z_ip hc48 hf
      exact t_L_isSound_124 B hf hW (lv_sub hl [3, 1, 0, 5] rfl) hk1 hr1
    · replace hf := z_in hc48 hf
      refine lv_iload hx hb dL_isSound_51 (lv_at hl 5 rfl) ?_
      refine lv_if_eq (tgt := 69) hx hb dL_isSound_53 (by decide) (fun hc53 => ?_) (fun hc53 => ?_)
      · replace hf := z_ip hc53 hf
        exact t_L_isSound_69 B hf hW (lv_sub hl [3, 1, 0, 5, 2] rfl) hk1 hr1
      · replace hf := z_in hc53 hf
        refine lv_iload hx hb dL_isSound_56 (lv_at hl 2 rfl) ?_
        refine lv_aload_n hx hb dL_isSound_58 rfl (lv_at hl 3 rfl) ?_
        refine lv_iload hx hb dL_isSound_59 (lv_at hl 5 rfl) ?_
        refine lv_iconst (v := (1 : Int32)) hx hb dL_isSound_61 (by decide) ?_
        refine lv_isub hx hb dL_isSound_62 ?_
        obtain ⟨r20, hq19, hf⟩ := z_b hf
        refine z_ci hW (z_runV (As := [.int (l4 - (1 : Int32))]) (rest := [.int r10]) B hW zv_L_32 (K_X9_addressAt hq19) hg1 rfl rfl rfl (Nat.le_of_ble_eq_true rfl) hl.1 ⟨Nat.le_of_ble_eq_true rfl, Nat.le_of_ble_eq_true rfl⟩ dL_isSound_63 ⟨Nat.le_of_ble_eq_true rfl, Nat.le_of_ble_eq_true rfl⟩) (fun H locs hW => ?_)
        refine lv_icmp_le (tgt := 124) hx hb dL_isSound_66 (by decide) (fun hc66 => ?_) (fun hc66 => ?_)
        · replace hf := z_ip hc66 hf
          exact t_L_isSound_124 B hf hW (lv_sub hl [3, 1, 0, 5] rfl) hk1 hr1
        · replace hf := z_in hc66 hf
          exact t_L_isSound_69 B hf hW (lv_sub hl [3, 1, 0, 5, 2] rfl) hk1 hr1
set_option maxRecDepth 20000 in
set_option maxHeartbeats 4000000 in
theorem t_L_isSound_9 (B : z_B p s m args meth c D cA bs RL cL_isSound 6 (some .boolean)) {r : Int32} {σ : zSt} {l0 : Nat}  : ∀ (n : Nat) {l1 : Int32} {l2 : Int32} {l3 : Int32} {l4 : Int32}, zloop (fun (t : Int32 × Int32 × Int32 × Int32) => b_L_isSound_9 σ l0 t.1 t.2.1 t.2.2.1 t.2.2.2) n (l1, l2, l3, l4) = some r → ∀ {H : Heap} {locs : List Loc} {ls : Array Slot}, z_Ok D cA bs s σ H locs → lv_has ls 6 [(0, .ref l0), (1, .int l1), (2, .int l2), (3, .int l3), (4, .int l4)] → W p l e (zrm 4 0 0 90) s m args below meth c H locs 0 0 (MQ below (z_Qi D cA bs r σ) args s 0 0 (fun q => bs ≤ q)) (F0 m 9 ls []) := by
  intro n
  induction n with
  | zero => intro l1 l2 l3 l4 hf; cases hf
  | succ n ih =>
    intro l1 l2 l3 l4 hf H locs ls hW hl
    obtain ⟨o1, hb1, hf⟩ := z_lp hf
    refine tb_L_isSound_9 B hb1 hW hl  (fun l1 l2 l3 l4 he H locs ls hW hl => ?_) (fun x he => ?_)
    · rcases hf with ⟨t, ht, hf⟩ | hf
      · rw [he] at ht
        cases ht
        exact ih hf hW hl
      · rw [he] at hf
        cases hf
    · rcases hf with ⟨t, ht, hf⟩ | hf
      · rw [he] at ht
        cases ht
      · rw [he] at hf
        exact Sum.inr.inj hf
set_option maxRecDepth 100000 in
def f_L_isSound (σ : zSt) (l0 : Nat) : Option (Int32) :=
(f_L_isSound_9 σ l0 (0 : Int32) (0 : Int32) (1 : Int32) (0 : Int32))
set_option maxRecDepth 20000 in
set_option maxHeartbeats 4000000 in
theorem K_L_isSound {σ : zSt} {l0 : Nat} {r : Int32} (hf : f_L_isSound σ l0 = some r) : z_M l D cA bs yL_isSound cL_isSound 6 (some .boolean) 4 90 0 0 [.ref l0] σ (z_Qi D cA bs r σ) := by
  refine z_met (own := RL) (lv := [(0, .ref l0)]) (by decide) rfl (Nat.le_of_ble_eq_true rfl) rfl (fun p e s m below meth c ls B hnm hW hl => ?_)
  have hx := B.1
  have hb := B.2.1
  have hown := B.2.2.2.1
  have hts := B.2.2.2.2.1
  unfold f_L_isSound at hf
  refine lv_iconst (v := (0 : Int32)) hx hb dL_isSound_0 (by decide) ?_
  refine lv_istore_n (lv' := [(1, .int (0 : Int32)), (0, .ref l0)]) hx hb dL_isSound_1 rfl hl (by decide) rfl (fun ls hl => ?_)
  refine lv_iconst (v := (0 : Int32)) hx hb dL_isSound_2 (by decide) ?_
  refine lv_istore_n (lv' := [(2, .int (0 : Int32)), (1, .int (0 : Int32)), (0, .ref l0)]) hx hb dL_isSound_3 rfl hl (by decide) rfl (fun ls hl => ?_)
  refine lv_iconst (v := (1 : Int32)) hx hb dL_isSound_4 (by decide) ?_
  refine lv_istore_n (lv' := [(3, .int (1 : Int32)), (2, .int (0 : Int32)), (1, .int (0 : Int32)), (0, .ref l0)]) hx hb dL_isSound_5 rfl hl (by decide) rfl (fun ls hl => ?_)
  refine lv_iconst (v := (0 : Int32)) hx hb dL_isSound_6 (by decide) ?_
  refine lv_istore (lv' := [(4, .int (0 : Int32)), (3, .int (1 : Int32)), (2, .int (0 : Int32)), (1, .int (0 : Int32)), (0, .ref l0)]) hx hb dL_isSound_7 hl (by decide) rfl (fun ls hl => ?_)
  unfold f_L_isSound_9 at hf
  exact t_L_isSound_9 B  zN hf hW (lv_sub hl [4, 3, 2, 1, 0] rfl)
end GEN
