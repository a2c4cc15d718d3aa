section GEN
variable {p : Program} {l : Launch} {e : Env} {s : State} {m : MethodId} {args : Array Value} {below : List Frame} {meth : Method} {c : Code} {D : va_G} {cA : Nat → ClassId} {bs : Nat} {b L : Nat} {xs : Nat → Int32}
set_option maxRecDepth 100000 in
def f_L_law_335 (xs : Nat → Int32) (L : Nat) (σ : zSt) (s0 : Int32) : Option (Int32) :=
(if z_bl s0 then (some s0) else none)
set_option maxRecDepth 20000 in
set_option maxHeartbeats 4000000 in
theorem t_L_law_335 (B : z_B p s m #[Value.ref b] meth c D cA bs RL cL_law 8 ret) (HL : z_L s bs b L xs) (hbs : bs = s.heap.size)  {σ : zSt} {s0 : Int32} (hf : f_L_law_335 xs L σ s0 = some (1 : Int32)) {H : Heap} {locs : List Loc} {ls : Array Slot} (hW : z_Ok D cA bs s σ H locs) (hl : lv_has ls 8 [])  : W p l e room_1 s m #[Value.ref b] below meth c H locs 288 19288 (lw_Z below #[Value.ref b] s) (F0 m 335 ls [.int s0]) := by
  have hx := B.1
  have hb := B.2.1
  have hown := B.2.2.2.1
  have hts := B.2.2.2.2.1
  unfold f_L_law_335 at hf
  obtain ⟨hg1, hf⟩ := z_g hf
  have he9 := Option.some.inj hf
  subst he9
  exact z_rlaw B hW HL hbs dL_law_335 (Nat.le_of_ble_eq_true rfl) (Nat.le_of_ble_eq_true rfl)
set_option maxRecDepth 100000 in
def f_L_law_334 (xs : Nat → Int32) (L : Nat) (σ : zSt) : Option (Int32) :=
(f_L_law_335 xs L σ (0 : Int32))
set_option maxRecDepth 20000 in
set_option maxHeartbeats 4000000 in
theorem t_L_law_334 (B : z_B p s m #[Value.ref b] meth c D cA bs RL cL_law 8 ret) (HL : z_L s bs b L xs) (hbs : bs = s.heap.size)  {σ : zSt} (hf : f_L_law_334 xs L σ = some (1 : Int32)) {H : Heap} {locs : List Loc} {ls : Array Slot} (hW : z_Ok D cA bs s σ H locs) (hl : lv_has ls 8 [])  : W p l e room_1 s m #[Value.ref b] below meth c H locs 288 19288 (lw_Z below #[Value.ref b] s) (F0 m 334 ls []) := by
  have hx := B.1
  have hb := B.2.1
  have hown := B.2.2.2.1
  have hts := B.2.2.2.2.1
  unfold f_L_law_334 at hf
  refine lv_iconst (v := (0 : Int32)) hx hb dL_law_334 (by decide) ?_
  exact t_L_law_335 B HL hbs hf hW hl 
set_option maxRecDepth 100000 in
def f_L_law_330 (xs : Nat → Int32) (L : Nat) (σ : zSt) : Option (Int32) :=
(f_L_law_335 xs L σ (1 : Int32))
set_option maxRecDepth 20000 in
set_option maxHeartbeats 4000000 in
theorem t_L_law_330 (B : z_B p s m #[Value.ref b] meth c D cA bs RL cL_law 8 ret) (HL : z_L s bs b L xs) (hbs : bs = s.heap.size)  {σ : zSt} (hf : f_L_law_330 xs L σ = some (1 : Int32)) {H : Heap} {locs : List Loc} {ls : Array Slot} (hW : z_Ok D cA bs s σ H locs) (hl : lv_has ls 8 [])  : W p l e room_1 s m #[Value.ref b] below meth c H locs 288 19288 (lw_Z below #[Value.ref b] s) (F0 m 330 ls []) := by
  have hx := B.1
  have hb := B.2.1
  have hown := B.2.2.2.1
  have hts := B.2.2.2.2.1
  unfold f_L_law_330 at hf
  refine lv_iconst (v := (1 : Int32)) hx hb dL_law_330 (by decide) ?_
  refine lv_goto (tgt := 335) hx hb dL_law_331 (by decide) ?_
  exact t_L_law_335 B HL hbs hf hW hl 
set_option maxRecDepth 100000 in
def f_L_law_303 (xs : Nat → Int32) (L : Nat) (σ : zSt) (l1 : Nat) (l6 : Int64) (s0 : Int32) : Option (Int32) :=
(if s0 = 0 then
(f_L_law_334 xs L σ)
else
(if z_ob σ l1 8 then (zb (f_X9_digest σ l1) (fun r3 => (if (lg_cmp r3 l6) = 0 then
(f_L_law_330 xs L σ)
else
(zb (f_X9_digest σ l1) (fun r5 => (if (lg_cmp r5 (l6 - (1 : Int64))) = 0 then
(f_L_law_330 xs L σ)
else
(f_L_law_334 xs L σ))))))) else none))
set_option maxRecDepth 20000 in
set_option maxHeartbeats 4000000 in
theorem t_L_law_303 (B : z_B p s m #[Value.ref b] meth c D cA bs RL cL_law 8 ret) (HL : z_L s bs b L xs) (hbs : bs = s.heap.size)  {σ : zSt} {l1 : Nat} {l6 : Int64} {s0 : Int32} (hf : f_L_law_303 xs L σ l1 l6 s0 = some (1 : Int32)) {H : Heap} {locs : List Loc} {ls : Array Slot} (hW : z_Ok D cA bs s σ H locs) (hl : lv_has ls 8 [(1, .ref l1), (6, .long l6)])  : W p l e room_1 s m #[Value.ref b] below meth c H locs 288 19288 (lw_Z below #[Value.ref b] s) (F0 m 303 ls [.int s0]) := by
  have hx := B.1
  have hb := B.2.1
  have hown := B.2.2.2.1
  have hts := B.2.2.2.2.1
  unfold f_L_law_303 at hf
  refine lv_istore_n (lv' := [(3, .int s0), (1, .ref l1), (6, .long l6)]) hx hb dL_law_303 rfl hl (by decide) rfl (fun ls hl => ?_)
  refine lv_iload_n hx hb dL_law_304 rfl (lv_at hl 0 rfl) ?_
  refine lv_if_eq (tgt := 334) hx hb dL_law_305 (by decide) (fun hc305 => ?_) (fun hc305 => ?_)
  · replace hf := z_ip hc305 hf
    exact t_L_law_334 B HL hbs hf hW (lv_sub hl [] rfl) 
  · replace hf := z_in hc305 hf
    refine lv_aload_n hx hb dL_law_308 rfl (lv_at hl 1 rfl) ?_
    obtain ⟨hg1, hf⟩ := z_g hf
    obtain ⟨r3, hq2, hf⟩ := z_b hf
    refine z_cl hW (z_runV (As := []) (rest := []) B hW zv_L_104 (K_X9_digest hq2) hg1 rfl rfl rfl (Nat.le_of_ble_eq_true rfl) hl.1 ⟨Nat.le_of_ble_eq_true rfl, Nat.le_of_ble_eq_true rfl⟩ dL_law_309 ⟨Nat.le_of_ble_eq_true rfl, Nat.le_of_ble_eq_true rfl⟩) (fun H locs hW => ?_)
    refine lv_lload hx hb dL_law_312 (lv_at hl 2 rfl) ?_
    refine W.lcmp hx hb dL_law_314 ?_
    refine lv_if_eq (tgt := 330) hx hb dL_law_315 (by decide) (fun hc315 => ?_) (fun hc315 => ?_)
    · replace hf := z_ip hc315 hf
      exact t_L_law_330 B HL hbs hf hW (lv_sub hl [] rfl) 
    · replace hf := z_in hc315 hf
      refine lv_aload_n hx hb dL_law_318 rfl (lv_at hl 1 rfl) ?_
      obtain ⟨r5, hq4, hf⟩ := z_b hf
      refine z_cl hW (z_runV (As := []) (rest := []) B hW zv_L_104 (K_X9_digest hq4) hg1 rfl rfl rfl (Nat.le_of_ble_eq_true rfl) hl.1 ⟨Nat.le_of_ble_eq_true rfl, Nat.le_of_ble_eq_true rfl⟩ dL_law_319 ⟨Nat.le_of_ble_eq_true rfl, Nat.le_of_ble_eq_true rfl⟩) (fun H locs hW => ?_)
      refine lv_lload hx hb dL_law_322 (lv_at hl 2 rfl) ?_
      refine lv_lconst (v := (1 : Int64)) hx hb dL_law_324 (by decide) ?_
      refine lv_lsub hx hb dL_law_325 ?_
      refine W.lcmp hx hb dL_law_326 ?_
      refine lv_if_ne (tgt := 334) hx hb dL_law_327 (by decide) (fun hc327 => ?_) (fun hc327 => ?_)
      · replace hf := z_in hc327 hf
        exact t_L_law_334 B HL hbs hf hW (lv_sub hl [] rfl) 
      · replace hf := z_ip hc327 hf
        exact t_L_law_330 B HL hbs hf hW (lv_sub hl [] rfl) 
set_option maxRecDepth 100000 in
def f_L_law_302 (xs : Nat → Int32) (L : Nat) (σ : zSt) (l1 : Nat) (l6 : Int64) : Option (Int32) :=
(f_L_law_303 xs L σ l1 l6 (0 : Int32))
set_option maxRecDepth 20000 in
set_option maxHeartbeats 4000000 in
theorem t_L_law_302 (B : z_B p s m #[Value.ref b] meth c D cA bs RL cL_law 8 ret) (HL : z_L s bs b L xs) (hbs : bs = s.heap.size)  {σ : zSt} {l1 : Nat} {l6 : Int64} (hf : f_L_law_302 xs L σ l1 l6 = some (1 : Int32)) {H : Heap} {locs : List Loc} {ls : Array Slot} (hW : z_Ok D cA bs s σ H locs) (hl : lv_has ls 8 [(1, .ref l1), (6, .long l6)])  : W p l e room_1 s m #[Value.ref b] below meth c H locs 288 19288 (lw_Z below #[Value.ref b] s) (F0 m 302 ls []) := by
  have hx := B.1
  have hb := B.2.1
  have hown := B.2.2.2.1
  have hts := B.2.2.2.2.1
  unfold f_L_law_302 at hf
  refine lv_iconst (v := (0 : Int32)) hx hb dL_law_302 (by decide) ?_
  exact t_L_law_303 B HL hbs hf hW hl 
set_option maxRecDepth 100000 in
def f_L_law_264 (xs : Nat → Int32) (L : Nat) (σ : zSt) (l1 : Nat) (l4 : Int32) (s0 : Int32) : Option (Int32) :=
(if z_ob σ l1 8 then (zb (f_X9_digest σ l1) (fun r3 => (if s0 = 0 then
(f_L_law_302 xs L σ l1 r3)
else
(zb2 (f_X9_run σ l1 l4) (fun r5 σ6 => (if r5 < 0 then
(f_L_law_302 xs L σ6 l1 r3)
else
(zb (f_L_isSound σ6 l1) (fun r8 => (if r8 = 0 then
(f_L_law_302 xs L σ6 l1 r3)
else
(if z_ob σ6 l1 8 then (zb2 (f_X9_undo σ6 l1) (fun r11 σ12 => (if r11 < 0 then
(f_L_law_302 xs L σ12 l1 r3)
else
(f_L_law_303 xs L σ12 l1 r3 (1 : Int32))))) else none)))))))))) else none)
set_option maxRecDepth 20000 in
set_option maxHeartbeats 4000000 in
theorem t_L_law_264 (B : z_B p s m #[Value.ref b] meth c D cA bs RL cL_law 8 ret) (HL : z_L s bs b L xs) (hbs : bs = s.heap.size)  {σ : zSt} {l1 : Nat} {l4 : Int32} {s0 : Int32} (hf : f_L_law_264 xs L σ l1 l4 s0 = some (1 : Int32)) {H : Heap} {locs : List Loc} {ls : Array Slot} (hW : z_Ok D cA bs s σ H locs) (hl : lv_has ls 8 [(1, .ref l1), (4, .int l4)])  : W p l e room_1 s m #[Value.ref b] below meth c H locs 288 19288 (lw_Z below #[Value.ref b] s) (F0 m 264 ls [.int s0]) := by
  have hx := B.1
  have hb := B.2.1
  have hown := B.2.2.2.1
  have hts := B.2.2.2.2.1
  unfold f_L_law_264 at hf
  refine lv_istore_n (lv' := [(3, .int s0), (1, .ref l1), (4, .int l4)]) hx hb dL_law_264 rfl hl (by decide) rfl (fun ls hl => ?_)
  refine lv_aload_n hx hb dL_law_265 rfl (lv_at hl 1 rfl) ?_
  obtain ⟨hg1, hf⟩ := z_g hf
  obtain ⟨r3, hq2, hf⟩ := z_b hf
  refine z_cl hW (z_runV (As := []) (rest := []) B hW zv_L_104 (K_X9_digest hq2) hg1 rfl rfl rfl (Nat.le_of_ble_eq_true rfl) hl.1 ⟨Nat.le_of_ble_eq_true rfl, Nat.le_of_ble_eq_true rfl⟩ dL_law_266 ⟨Nat.le_of_ble_eq_true rfl, Nat.le_of_ble_eq_true rfl⟩) (fun H locs hW => ?_)
  refine lv_lstore (lv' := [(6, .long r3), (3, .int s0), (1, .ref l1), (4, .int l4)]) hx hb dL_law_269 hl (by decide) rfl (fun ls hl => ?_)
  refine lv_iload_n hx hb dL_law_271 rfl (lv_at hl 1 rfl) ?_
  refine lv_if_eq (tgt := 302) hx hb dL_law_272 (by decide) (fun hc272 => ?_) (fun hc272 => ?_)
  · replace hf := z_ip hc272 hf
    exact t_L_law_302 B HL hbs hf hW (lv_sub hl [2, 0] rfl) 
  · replace hf := z_in hc272 hf
    refine lv_aload_n hx hb dL_law_275 rfl (lv_at hl 2 rfl) ?_
    refine lv_iload hx hb dL_law_276 (lv_at hl 3 rfl) ?_
    obtain ⟨r5, σ6, hq4, hf⟩ := z_b2 hf
    refine z_ci hW (z_runV (As := [.int l4]) (rest := []) B hW zv_L_49 (K_X9_run hq4) hg1 rfl rfl rfl (Nat.le_of_ble_eq_true rfl) hl.1 ⟨Nat.le_of_ble_eq_true rfl, Nat.le_of_ble_eq_true rfl⟩ dL_law_278 ⟨Nat.le_of_ble_eq_true rfl, Nat.le_of_ble_eq_true rfl⟩) (fun H locs hW => ?_)
    refine lv_if_lt (tgt := 302) hx hb dL_law_281 (by decide) (fun hc281 => ?_) (fun hc281 => ?_)
    · replace hf := z_ip hc281 hf
      exact t_L_law_302 B HL hbs hf hW (lv_sub hl [2, 0] rfl) 
    · replace hf := z_in hc281 hf
      refine lv_aload_n hx hb dL_law_284 rfl (lv_at hl 2 rfl) ?_
      obtain ⟨r8, hq7, hf⟩ := z_b hf
      refine z_ci hW (z_runS (As := [.ref l1]) (rest := []) B hW zv_L_88 (K_L_isSound hq7) rfl rfl (Nat.le_of_ble_eq_true rfl) hl.1 ⟨Nat.le_of_ble_eq_true rfl, Nat.le_of_ble_eq_true rfl⟩ dL_law_285 ⟨Nat.le_of_ble_eq_true rfl, Nat.le_of_ble_eq_true rfl⟩) (fun H locs hW => ?_)
      refine lv_if_eq (tgt := 302) hx hb dL_law_288 (by decide) (fun hc288 => ?_) (fun hc288 => ?_)
      · replace hf := z_ip hc288 hf
        exact t_L_law_302 B HL hbs hf hW (lv_sub hl [2, 0] rfl) 
      · replace hf := z_in hc288 hf
        refine lv_aload_n hx hb dL_law_291 rfl (lv_at hl 2 rfl) ?_
        obtain ⟨hg9, hf⟩ := z_g hf
        obtain ⟨r11, σ12, hq10, hf⟩ := z_b2 hf
        refine z_ci hW (z_runV (As := []) (rest := []) B hW zv_L_108 (K_X9_undo hq10) hg9 rfl rfl rfl (Nat.le_of_ble_eq_true rfl) hl.1 ⟨Nat.le_of_ble_eq_true rfl, Nat.le_of_ble_eq_true rfl⟩ dL_law_292 ⟨Nat.le_of_ble_eq_true rfl, Nat.le_of_ble_eq_true rfl⟩) (fun H locs hW => ?_)
        refine lv_if_lt (tgt := 302) hx hb dL_law_295 (by decide) (fun hc295 => ?_) (fun hc295 => ?_)
        · replace hf := z_ip hc295 hf
          exact t_L_law_302 B HL hbs hf hW (lv_sub hl [2, 0] rfl) 
        · replace hf := z_in hc295 hf
          refine lv_iconst (v := (1 : Int32)) hx hb dL_law_298 (by decide) ?_
          refine lv_goto (tgt := 303) hx hb dL_law_299 (by decide) ?_
          exact t_L_law_303 B HL hbs hf hW (lv_sub hl [2, 0] rfl) 
set_option maxRecDepth 100000 in
def f_L_law_263 (xs : Nat → Int32) (L : Nat) (σ : zSt) (l1 : Nat) (l4 : Int32) : Option (Int32) :=
(f_L_law_264 xs L σ l1 l4 (0 : Int32))
set_option maxRecDepth 20000 in
set_option maxHeartbeats 4000000 in
theorem t_L_law_263 (B : z_B p s m #[Value.ref b] meth c D cA bs RL cL_law 8 ret) (HL : z_L s bs b L xs) (hbs : bs = s.heap.size)  {σ : zSt} {l1 : Nat} {l4 : Int32} (hf : f_L_law_263 xs L σ l1 l4 = some (1 : Int32)) {H : Heap} {locs : List Loc} {ls : Array Slot} (hW : z_Ok D cA bs s σ H locs) (hl : lv_has ls 8 [(1, .ref l1), (4, .int l4)])  : W p l e room_1 s m #[Value.ref b] below meth c H locs 288 19288 (lw_Z below #[Value.ref b] s) (F0 m 263 ls []) := by
  have hx := B.1
  have hb := B.2.1
  have hown := B.2.2.2.1
  have hts := B.2.2.2.2.1
  unfold f_L_law_263 at hf
  refine lv_iconst (v := (0 : Int32)) hx hb dL_law_263 (by decide) ?_
  exact t_L_law_264 B HL hbs hf hW hl 
set_option maxRecDepth 100000 in
def f_L_law_259 (xs : Nat → Int32) (L : Nat) (σ : zSt) (l1 : Nat) (l4 : Int32) : Option (Int32) :=
(f_L_law_264 xs L σ l1 l4 (1 : Int32))
set_option maxRecDepth 20000 in
set_option maxHeartbeats 4000000 in
theorem t_L_law_259 (B : z_B p s m #[Value.ref b] meth c D cA bs RL cL_law 8 ret) (HL : z_L s bs b L xs) (hbs : bs = s.heap.size)  {σ : zSt} {l1 : Nat} {l4 : Int32} (hf : f_L_law_259 xs L σ l1 l4 = some (1 : Int32)) {H : Heap} {locs : List Loc} {ls : Array Slot} (hW : z_Ok D cA bs s σ H locs) (hl : lv_has ls 8 [(1, .ref l1), (4, .int l4)])  : W p l e room_1 s m #[Value.ref b] below meth c H locs 288 19288 (lw_Z below #[Value.ref b] s) (F0 m 259 ls []) := by
  have hx := B.1
  have hb := B.2.1
  have hown := B.2.2.2.1
  have hts := B.2.2.2.2.1
  unfold f_L_law_259 at hf
  refine lv_iconst (v := (1 : Int32)) hx hb dL_law_259 (by decide) ?_
  refine lv_goto (tgt := 264) hx hb dL_law_260 (by decide) ?_
  exact t_L_law_264 B HL hbs hf hW hl 
set_option maxRecDepth 100000 in
def f_L_law_225 (xs : Nat → Int32) (L : Nat) (σ : zSt) (l1 : Nat) (l3 : Int32) (l4 : Int32) (s0 : Int32) : Option (Int32) :=
(if l3 = 0 then
(f_L_law_263 xs L σ l1 l4)
else
(if s0 < 0 then
(f_L_law_259 xs L σ l1 l4)
else
(if s0 < (20 : Int32) then
(f_L_law_263 xs L σ l1 l4)
else
(if (400 : Int32) < s0 then
(f_L_law_263 xs L σ l1 l4)
else
(if (s0 - s0 / (20 : Int32) * (20 : Int32)) = 0 then
(f_L_law_259 xs L σ l1 l4)
else
(f_L_law_263 xs L σ l1 l4))))))
set_option maxRecDepth 20000 in
set_option maxHeartbeats 4000000 in
theorem t_L_law_225 (B : z_B p s m #[Value.ref b] meth c D cA bs RL cL_law 8 ret) (HL : z_L s bs b L xs) (hbs : bs = s.heap.size)  {σ : zSt} {l1 : Nat} {l3 : Int32} {l4 : Int32} {s0 : Int32} (hf : f_L_law_225 xs L σ l1 l3 l4 s0 = some (1 : Int32)) {H : Heap} {locs : List Loc} {ls : Array Slot} (hW : z_Ok D cA bs s σ H locs) (hl : lv_has ls 8 [(1, .ref l1), (3, .int l3), (4, .int l4)])  : W p l e room_1 s m #[Value.ref b] below meth c H locs 288 19288 (lw_Z below #[Value.ref b] s) (F0 m 225 ls [.int s0]) := by
  have hx := B.1
  have hb := B.2.1
  have hown := B.2.2.2.1
  have hts := B.2.2.2.2.1
  unfold f_L_law_225 at hf
  refine lv_istore (lv' := [(5, .int s0), (1, .ref l1), (3, .int l3), (4, .int l4)]) hx hb dL_law_225 hl (by decide) rfl (fun ls hl => ?_)
  refine lv_iload_n hx hb dL_law_227 rfl (lv_at hl 2 rfl) ?_
  refine lv_if_eq (tgt := 263) hx hb dL_law_228 (by decide) (fun hc228 => ?_) (fun hc228 => ?_)
  · replace hf := z_ip hc228 hf
    exact t_L_law_263 B HL hbs hf hW (lv_sub hl [1, 3] rfl) 
  · replace hf := z_in hc228 hf
    refine lv_iload hx hb dL_law_231 (lv_at hl 0 rfl) ?_
    refine lv_if_lt (tgt := 259) hx hb dL_law_233 (by decide) (fun hc233 => ?_) (fun hc233 => ?_)
    · replace hf := z_ip hc233 hf
      exact t_L_law_259 B HL hbs hf hW (lv_sub hl [1, 3] rfl) 
    · replace hf := z_in hc233 hf
      refine lv_iload hx hb dL_law_236 (lv_at hl 0 rfl) ?_
      refine lv_bipush (v := (20 : Int32)) hx hb dL_law_238 (by decide) ?_
      refine lv_icmp_lt (tgt := 263) hx hb dL_law_240 (by decide) (fun hc240 => ?_) (fun hc240 => ?_)
      · replace hf := z_ip hc240 hf
        exact t_L_law_263 B HL hbs hf hW (lv_sub hl [1, 3] rfl) 
      · replace hf := z_in hc240 hf
        refine lv_iload hx hb dL_law_243 (lv_at hl 0 rfl) ?_
        refine lv_sipush (v := (400 : Int32)) hx hb dL_law_245 (by decide) ?_
        refine lv_icmp_gt (tgt := 263) hx hb dL_law_248 (by decide) (fun hc248 => ?_) (fun hc248 => ?_)
        · replace hf := z_ip hc248 hf
          exact t_L_law_263 B HL hbs hf hW (lv_sub hl [1, 3] rfl) 
        · replace hf := z_in hc248 hf
          refine lv_iload hx hb dL_law_251 (lv_at hl 0 rfl) ?_
          refine lv_bipush (v := (20 : Int32)) hx hb dL_law_253 (by decide) ?_
          refine lv_irem hx hb dL_law_255 (by decide) ?_
          refine lv_if_ne (tgt := 263) hx hb dL_law_256 (by decide) (fun hc256 => ?_) (fun hc256 => ?_)
          · replace hf := z_in hc256 hf
            exact t_L_law_263 B HL hbs hf hW (lv_sub hl [1, 3] rfl) 
          · replace hf := z_ip hc256 hf
            exact t_L_law_259 B HL hbs hf hW (lv_sub hl [1, 3] rfl) 
set_option maxRecDepth 100000 in
def f_L_law_211 (xs : Nat → Int32) (L : Nat) (σ : zSt) (l1 : Nat) (l3 : Int32) (l4 : Int32) : Option (Int32) :=
(if l3 = 0 then
(f_L_law_225 xs L σ l1 l3 l4 (0 : Int32))
else
(if z_ob σ l1 8 then (zb2 (f_X9_leastTarget σ l1 l4) (fun r3 σ4 => (f_L_law_225 xs L σ4 l1 l3 l4 r3))) else none))
set_option maxRecDepth 20000 in
set_option maxHeartbeats 4000000 in
theorem t_L_law_211 (B : z_B p s m #[Value.ref b] meth c D cA bs RL cL_law 8 ret) (HL : z_L s bs b L xs) (hbs : bs = s.heap.size)  {σ : zSt} {l1 : Nat} {l3 : Int32} {l4 : Int32} (hf : f_L_law_211 xs L σ l1 l3 l4 = some (1 : Int32)) {H : Heap} {locs : List Loc} {ls : Array Slot} (hW : z_Ok D cA bs s σ H locs) (hl : lv_has ls 8 [(1, .ref l1), (3, .int l3), (4, .int l4)])  : W p l e room_1 s m #[Value.ref b] below meth c H locs 288 19288 (lw_Z below #[Value.ref b] s) (F0 m 211 ls []) := by
  have hx := B.1
  have hb := B.2.1
  have hown := B.2.2.2.1
  have hts := B.2.2.2.2.1
  unfold f_L_law_211 at hf
  refine lv_iload_n hx hb dL_law_211 rfl (lv_at hl 1 rfl) ?_
  refine lv_if_eq (tgt := 224) hx hb dL_law_212 (by decide) (fun hc212 => ?_) (fun hc212 => ?_)
  · replace hf := z_ip hc212 hf
    refine lv_iconst (v := (0 : Int32)) hx hb dL_law_224 (by decide) ?_
    exact t_L_law_225 B HL hbs hf hW hl 
  · replace hf := z_in hc212 hf
    refine lv_aload_n hx hb dL_law_215 rfl (lv_at hl 0 rfl) ?_
    refine lv_iload hx hb dL_law_216 (lv_at hl 2 rfl) ?_
    obtain ⟨hg1, hf⟩ := z_g hf
    obtain ⟨r3, σ4, hq2, hf⟩ := z_b2 hf
    refine z_ci hW (z_runV (As := [.int l4]) (rest := []) B hW zv_L_95 (K_X9_leastTarget hq2) hg1 rfl rfl rfl (Nat.le_of_ble_eq_true rfl) hl.1 ⟨Nat.le_of_ble_eq_true rfl, Nat.le_of_ble_eq_true rfl⟩ dL_law_218 ⟨Nat.le_of_ble_eq_true rfl, Nat.le_of_ble_eq_true rfl⟩) (fun H locs hW => ?_)
    refine lv_goto (tgt := 225) hx hb dL_law_221 (by decide) ?_
    exact t_L_law_225 B HL hbs hf hW hl 
set_option maxRecDepth 100000 in
def f_L_law_204 (xs : Nat → Int32) (L : Nat) (σ : zSt) (l1 : Nat) (l2 : Nat) (l4 : Int32) (l5 : Int32) (s0 : Int32) : Option ((zSt × Int32 × Int32) ⊕ (Int32)) :=
(some (.inl (σ, s0, (l5 + (1 : Int32)))))
set_option maxRecDepth 20000 in
set_option maxHeartbeats 4000000 in
theorem t_L_law_204 (B : z_B p s m #[Value.ref b] meth c D cA bs RL cL_law 8 ret) (HL : z_L s bs b L xs) (hbs : bs = s.heap.size)  {o1 : (zSt × Int32 × Int32) ⊕ (Int32)} {σ : zSt} {l1 : Nat} {l2 : Nat} {l4 : Int32} {l5 : Int32} {s0 : Int32} (hf : f_L_law_204 xs L σ l1 l2 l4 l5 s0 = some o1) {H : Heap} {locs : List Loc} {ls : Array Slot} (hW : z_Ok D cA bs s σ H locs) (hl : lv_has ls 8 [(0, .ref b), (1, .ref l1), (2, .ref l2), (4, .int l4), (5, .int l5)]) (hk1 : ∀ (σ : zSt) (l3 : Int32) (l5 : Int32), o1 = .inl (σ, l3, l5) → ∀ {H : Heap} {locs : List Loc} {ls : Array Slot}, z_Ok D cA bs s σ H locs → lv_has ls 8 [(0, .ref b), (1, .ref l1), (2, .ref l2), (3, .int l3), (4, .int l4), (5, .int l5)] → W p l e room_1 s m #[Value.ref b] below meth c H locs 288 19288 (lw_Z below #[Value.ref b] s) (F0 m 133 ls [])) (hr1 : ∀ x, o1 = .inr x → x = (1 : Int32)) : W p l e room_1 s m #[Value.ref b] below meth c H locs 288 19288 (lw_Z below #[Value.ref b] s) (F0 m 204 ls [.int s0]) := by
  have hx := B.1
  have hb := B.2.1
  have hown := B.2.2.2.1
  have hts := B.2.2.2.2.1
  unfold f_L_law_204 at hf
  refine lv_istore_n (lv' := [(3, .int s0), (0, .ref b), (1, .ref l1), (2, .ref l2), (4, .int l4), (5, .int l5)]) hx hb dL_law_204 rfl hl (by decide) rfl (fun ls hl => ?_)
  refine lv_iinc (v := (l5 + (1 : Int32))) (lv' := [(5, .int (l5 + (1 : Int32))), (3, .int s0), (0, .ref b), (1, .ref l1), (2, .ref l2), (4, .int l4)]) hx hb dL_law_205 hl (k := 5) rfl rfl (by decide) rfl (fun ls hl => ?_)
  refine lv_goto (tgt := 133) hx hb dL_law_208 (by decide) ?_
  exact hk1 _ _ _ (Option.some.inj hf).symm hW (lv_sub hl [2, 3, 4, 1, 5, 0] rfl)
set_option maxRecDepth 100000 in
def f_L_law_199 (xs : Nat → Int32) (L : Nat) (σ : zSt) (l1 : Nat) (l2 : Nat) (l4 : Int32) (l5 : Int32) : Option ((zSt × Int32 × Int32) ⊕ (Int32)) :=
(f_L_law_204 xs L σ l1 l2 l4 l5 (1 : Int32))
set_option maxRecDepth 20000 in
set_option maxHeartbeats 4000000 in
theorem t_L_law_199 (B : z_B p s m #[Value.ref b] meth c D cA bs RL cL_law 8 ret) (HL : z_L s bs b L xs) (hbs : bs = s.heap.size)  {o1 : (zSt × Int32 × Int32) ⊕ (Int32)} {σ : zSt} {l1 : Nat} {l2 : Nat} {l4 : Int32} {l5 : Int32} (hf : f_L_law_199 xs L σ l1 l2 l4 l5 = some o1) {H : Heap} {locs : List Loc} {ls : Array Slot} (hW : z_Ok D cA bs s σ H locs) (hl : lv_has ls 8 [(0, .ref b), (1, .ref l1), (2, .ref l2), (4, .int l4), (5, .int l5)]) (hk1 : ∀ (σ : zSt) (l3 : Int32) (l5 : Int32), o1 = .inl (σ, l3, l5) → ∀ {H : Heap} {locs : List Loc} {ls : Array Slot}, z_Ok D cA bs s σ H locs → lv_has ls 8 [(0, .ref b), (1, .ref l1), (2, .ref l2), (3, .int l3), (4, .int l4), (5, .int l5)] → W p l e room_1 s m #[Value.ref b] below meth c H locs 288 19288 (lw_Z below #[Value.ref b] s) (F0 m 133 ls [])) (hr1 : ∀ x, o1 = .inr x → x = (1 : Int32)) : W p l e room_1 s m #[Value.ref b] below meth c H locs 288 19288 (lw_Z below #[Value.ref b] s) (F0 m 199 ls []) := by
  have hx := B.1
  have hb := B.2.1
  have hown := B.2.2.2.1
  have hts := B.2.2.2.2.1
  unfold f_L_law_199 at hf
  refine lv_iconst (v := (1 : Int32)) hx hb dL_law_199 (by decide) ?_
  refine lv_goto (tgt := 204) hx hb dL_law_200 (by decide) ?_
  exact t_L_law_204 B HL hbs hf hW hl hk1 hr1
set_option maxRecDepth 100000 in
def b_L_law_133 (xs : Nat → Int32) (L : Nat) (l1 : Nat) (l2 : Nat) (l4 : Int32) (σ : zSt) (l3 : Int32) (l5 : Int32) : Option ((zSt × Int32 × Int32) ⊕ (Int32)) :=
(if z_ob σ l1 8 then (zb (f_X9_setting σ l1 (8 : Int32)) (fun r3 => (if r3 ≤ l5 then
(zex (f_L_law_211 xs L σ l1 l3 l4))
else
(if l3 = 0 then
(zex (f_L_law_211 xs L σ l1 l3 l4))
else
(if (5 : Int32) ≤ l5 then
(zex (f_L_law_211 xs L σ l1 l3 l4))
else
(zb (f_L_cell xs L σ ((31 : Int32) + l5)) (fun r8 => (zb (f_X9_setting σ l1 (8 : Int32)) (fun r10 => (zb (f_L_up σ r8 r10) (fun r12 => (zb (f_X9_message σ l1 r12 (4 : Int32)) (fun r14 => (if 0 ≤ r14 then
(f_L_law_199 xs L σ l1 l2 l4 l5)
else
(zb2 (f_X9_waitOf σ l1 r12) (fun r16 σ17 => (if z_ob σ17 l2 8 then (zb2 (f_X9_waitOf σ17 l2 r12) (fun r20 σ21 => (if r16 = r20 then
(f_L_law_199 xs L σ21 l1 l2 l4 l5)
else
(f_L_law_204 xs L σ21 l1 l2 l4 l5 (0 : Int32))))) else none))))))))))))))))) else none)
set_option maxRecDepth 100000 in
def f_L_law_133 (xs : Nat → Int32) (L : Nat) (l1 : Nat) (l2 : Nat) (l4 : Int32) (σ : zSt) (l3 : Int32) (l5 : Int32) : Option (Int32) := zloop (fun (t : zSt × Int32 × Int32) => b_L_law_133 xs L l1 l2 l4 t.1 t.2.1 t.2.2) zN (σ, l3, l5)
set_option maxRecDepth 20000 in
set_option maxHeartbeats 4000000 in
theorem tb_L_law_133 (B : z_B p s m #[Value.ref b] meth c D cA bs RL cL_law 8 ret) (HL : z_L s bs b L xs) (hbs : bs = s.heap.size)  {o1 : (zSt × Int32 × Int32) ⊕ (Int32)} {l1 : Nat} {l2 : Nat} {l4 : Int32} {σ : zSt} {l3 : Int32} {l5 : Int32} (hf : b_L_law_133 xs L l1 l2 l4 σ l3 l5 = some o1) {H : Heap} {locs : List Loc} {ls : Array Slot} (hW : z_Ok D cA bs s σ H locs) (hl : lv_has ls 8 [(0, .ref b), (1, .ref l1), (2, .ref l2), (3, .int l3), (4, .int l4), (5, .int l5)]) (hk1 : ∀ (σ : zSt) (l3 : Int32) (l5 : Int32), o1 = .inl (σ, l3, l5) → ∀ {H : Heap} {locs : List Loc} {ls : Array Slot}, z_Ok D cA bs s σ H locs → lv_has ls 8 [(0, .ref b), (1, .ref l1), (2, .ref l2), (3, .int l3), (4, .int l4), (5, .int l5)] → W p l e room_1 s m #[Value.ref b] below meth c H locs 288 19288 (lw_Z below #[Value.ref b] s) (F0 m 133 ls [])) (hr1 : ∀ x, o1 = .inr x → x = (1 : Int32)) : W p l e room_1 s m #[Value.ref b] below meth c H locs 288 19288 (lw_Z below #[Value.ref b] s) (F0 m 133 ls []) := by
  have hx := B.1
  have hb := B.2.1
  have hown := B.2.2.2.1
  have hts := B.2.2.2.2.1
  unfold b_L_law_133 at hf
  refine lv_iload hx hb dL_law_133 (lv_at hl 5 rfl) ?_
  refine lv_aload_n hx hb dL_law_135 rfl (lv_at hl 1 rfl) ?_
  refine lv_bipush (v := (8 : Int32)) hx hb dL_law_136 (by decide) ?_
  obtain ⟨hg1, hf⟩ := z_g hf
  obtain ⟨r3, hq2, hf⟩ := z_b hf
  refine z_ci hW (z_runV (As := [.int (8 : Int32)]) (rest := [.int l5]) B hW zv_L_29 (K_X9_setting hq2) hg1 rfl rfl rfl (Nat.le_of_ble_eq_true rfl) hl.1 ⟨Nat.le_of_ble_eq_true rfl, Nat.le_of_ble_eq_true rfl⟩ dL_law_138 ⟨Nat.le_of_ble_eq_true rfl, Nat.le_of_ble_eq_true rfl⟩) (fun H locs hW => ?_)
  refine lv_icmp_ge (tgt := 211) hx hb dL_law_141 (by decide) (fun hc141 => ?_) (fun hc141 => ?_)
  · replace hf := z_ip hc141 hf
    obtain ⟨w1, hf, ho4⟩ := z_x hf
    obtain rfl := hr1 _ ho4
    exact t_L_law_211 B HL hbs hf hW (lv_sub hl [1, 3, 4] rfl) 
  · replace hf := z_in hc141 hf
    refine lv_iload_n hx hb dL_law_144 rfl (lv_at hl 3 rfl) ?_
    refine lv_if_eq (tgt := 211) hx hb dL_law_145 (by decide) (fun hc145 => ?_) (fun hc145 => ?_)
    · replace hf := z_ip hc145 hf
      obtain ⟨w1, hf, ho5⟩ := z_x hf
      obtain rfl := hr1 _ ho5
      exact t_L_law_211 B HL hbs hf hW (lv_sub hl [1, 3, 4] rfl) 
    · replace hf := z_in hc145 hf
      refine lv_iload hx hb dL_law_148 (lv_at hl 5 rfl) ?_
      refine lv_iconst (v := (5 : Int32)) hx hb dL_law_150 (by decide) ?_
      refine lv_icmp_ge (tgt := 211) hx hb dL_law_151 (by decide) (fun hc151 => ?_) (fun hc151 => ?_)
      · replace hf := z_ip hc151 hf
        obtain ⟨w1, hf, ho6⟩ := z_x hf
        obtain rfl := hr1 _ ho6
        exact t_L_law_211 B HL hbs hf hW (lv_sub hl [1, 3, 4] rfl) 
      · replace hf := z_in hc151 hf
        refine lv_aload_n hx hb dL_law_154 rfl (lv_at hl 0 rfl) ?_
        refine lv_bipush (v := (31 : Int32)) hx hb dL_law_155 (by decide) ?_
        refine lv_iload hx hb dL_law_157 (lv_at hl 5 rfl) ?_
        refine lv_iadd hx hb dL_law_159 ?_
        obtain ⟨r8, hq7, hf⟩ := z_b hf
        refine z_ci hW (z_runSL (As := [.ref b, .int ((31 : Int32) + l5)]) (rest := []) B hW HL zv_L_9 (K_L_cell hq7) rfl rfl (Nat.le_of_ble_eq_true rfl) hl.1 ⟨Nat.le_of_ble_eq_true rfl, Nat.le_of_ble_eq_true rfl⟩ dL_law_160 ⟨Nat.le_of_ble_eq_true rfl, Nat.le_of_ble_eq_true rfl⟩) (fun H locs hW => ?_)
        refine lv_aload_n hx hb dL_law_163 rfl (lv_at hl 1 rfl) ?_
        refine lv_bipush (v := (8 : Int32)) hx hb dL_law_164 (by decide) ?_
        obtain ⟨r10, hq9, hf⟩ := z_b hf
        refine z_ci hW (z_runV (As := [.int (8 : Int32)]) (rest := [.int r8]) B hW zv_L_29 (K_X9_setting hq9) hg1 rfl rfl rfl (Nat.le_of_ble_eq_true rfl) hl.1 ⟨Nat.le_of_ble_eq_true rfl, Nat.le_of_ble_eq_true rfl⟩ dL_law_166 ⟨Nat.le_of_ble_eq_true rfl, Nat.le_of_ble_eq_true rfl⟩) (fun H locs hW => ?_)
        obtain ⟨r12, hq11, hf⟩ := z_b hf
        refine z_ci hW (z_runS (As := [.int r8, .int r10]) (rest := []) B hW zv_L_15 (K_L_up hq11) rfl rfl (Nat.le_of_ble_eq_true rfl) hl.1 ⟨Nat.le_of_ble_eq_true rfl, Nat.le_of_ble_eq_true rfl⟩ dL_law_169 ⟨Nat.le_of_ble_eq_true rfl, Nat.le_of_ble_eq_true rfl⟩) (fun H locs hW => ?_)
        refine lv_istore (lv' := [(6, .int r12), (0, .ref b), (1, .ref l1), (2, .ref l2), (3, .int l3), (4, .int l4), (5, .int l5)]) hx hb dL_law_172 hl (by decide) rfl (fun ls hl => ?_)
        refine lv_aload_n hx hb dL_law_174 rfl (lv_at hl 2 rfl) ?_
        refine lv_iload hx hb dL_law_175 (lv_at hl 0 rfl) ?_
        refine lv_iconst (v := (4 : Int32)) hx hb dL_law_177 (by decide) ?_
        obtain ⟨r14, hq13, hf⟩ := z_b hf
        refine z_ci hW (z_runV (As := [.int r12, .int (4 : Int32)]) (rest := []) B hW zv_L_98 (K_X9_message hq13) hg1 rfl rfl rfl (Nat.le_of_ble_eq_true rfl) hl.1 ⟨Nat.le_of_ble_eq_true rfl, Nat.le_of_ble_eq_true rfl⟩ dL_law_178 ⟨Nat.le_of_ble_eq_true rfl, Nat.le_of_ble_eq_true rfl⟩) (fun H locs hW => ?_)
        refine lv_if_ge (tgt := 199) hx hb dL_law_181 (by decide) (fun hc181 => ?_) (fun hc181 => ?_)
        · replace hf := z_ip hc181 hf
          exact t_L_law_199 B HL hbs hf hW (lv_sub hl [1, 2, 3, 5, 6] rfl) hk1 hr1
        · replace hf := z_in hc181 hf
          refine lv_aload_n hx hb dL_law_184 rfl (lv_at hl 2 rfl) ?_
          refine lv_iload hx hb dL_law_185 (lv_at hl 0 rfl) ?_
          obtain ⟨r16, σ17, hq15, hf⟩ := z_b2 hf
          refine z_ci hW (z_runV (As := [.int r12]) (rest := []) B hW zv_L_101 (K_X9_waitOf hq15) hg1 rfl rfl rfl (Nat.le_of_ble_eq_true rfl) hl.1 ⟨Nat.le_of_ble_eq_true rfl, Nat.le_of_ble_eq_true rfl⟩ dL_law_187 ⟨Nat.le_of_ble_eq_true rfl, Nat.le_of_ble_eq_true rfl⟩) (fun H locs hW => ?_)
          refine lv_aload_n hx hb dL_law_190 rfl (lv_at hl 3 rfl) ?_
          refine lv_iload hx hb dL_law_191 (lv_at hl 0 rfl) ?_
          obtain ⟨hg18, hf⟩ := z_g hf
          obtain ⟨r20, σ21, hq19, hf⟩ := z_b2 hf
          refine z_ci hW (z_runV (As := [.int r12]) (rest := [.int r16]) B hW zv_L_101 (K_X9_waitOf hq19) hg18 rfl rfl rfl (Nat.le_of_ble_eq_true rfl) hl.1 ⟨Nat.le_of_ble_eq_true rfl, Nat.le_of_ble_eq_true rfl⟩ dL_law_193 ⟨Nat.le_of_ble_eq_true rfl, Nat.le_of_ble_eq_true rfl⟩) (fun H locs hW => ?_)
          refine lv_icmp_ne (tgt := 203) hx hb dL_law_196 (by decide) (fun hc196 => ?_) (fun hc196 => ?_)
          · replace hf := z_in hc196 hf
            refine lv_iconst (v := (0 : Int32)) hx hb dL_law_203 (by decide) ?_
            exact t_L_law_204 B HL hbs hf hW (lv_sub hl [1, 2, 3, 5, 6] rfl) hk1 hr1
          · replace hf := z_ip hc196 hf
            exact t_L_law_199 B HL hbs hf hW (lv_sub hl [1, 2, 3, 5, 6] rfl) hk1 hr1
set_option maxRecDepth 20000 in
set_option maxHeartbeats 4000000 in
theorem t_L_law_133 (B : z_B p s m #[Value.ref b] meth c D cA bs RL cL_law 8 ret) (HL : z_L s bs b L xs) (hbs : bs = s.heap.size)  {l1 : Nat} {l2 : Nat} {l4 : Int32}  : ∀ (n : Nat) {σ : zSt} {l3 : Int32} {l5 : Int32}, zloop (fun (t : zSt × Int32 × Int32) => b_L_law_133 xs L l1 l2 l4 t.1 t.2.1 t.2.2) n (σ, l3, l5) = some (1 : Int32) → ∀ {H : Heap} {locs : List Loc} {ls : Array Slot}, z_Ok D cA bs s σ H locs → lv_has ls 8 [(0, .ref b), (1, .ref l1), (2, .ref l2), (3, .int l3), (4, .int l4), (5, .int l5)] → W p l e room_1 s m #[Value.ref b] below meth c H locs 288 19288 (lw_Z below #[Value.ref b] s) (F0 m 133 ls []) := by
  intro n
  induction n with
  | zero => intro σ l3 l5 hf; cases hf
  | succ n ih =>
    intro σ l3 l5 hf H locs ls hW hl
    obtain ⟨o1, hb1, hf⟩ := z_lp hf
    refine tb_L_law_133 B HL hbs hb1 hW hl  (fun σ l3 l5 he H locs ls hW hl => ?_) (fun x he => ?_)
    · rcases hf with ⟨t, ht, hf⟩ | hf
      · rw [he] at ht
        cases ht
        exact ih hf hW hl
      · rw [he] at hf
        cases hf
    · rcases hf with ⟨t, ht, hf⟩ | hf
      · rw [he] at ht
        cases ht
      · rw [he] at hf
        exact Sum.inr.inj hf
set_option maxRecDepth 100000 in
def f_L_law_129 (xs : Nat → Int32) (L : Nat) (σ : zSt) (l1 : Nat) (l2 : Nat) (l4 : Int32) (s0 : Int32) : Option (Int32) :=
(f_L_law_133 xs L l1 l2 l4 σ s0 (0 : Int32))
set_option maxRecDepth 20000 in
set_option maxHeartbeats 4000000 in
theorem t_L_law_129 (B : z_B p s m #[Value.ref b] meth c D cA bs RL cL_law 8 ret) (HL : z_L s bs b L xs) (hbs : bs = s.heap.size)  {σ : zSt} {l1 : Nat} {l2 : Nat} {l4 : Int32} {s0 : Int32} (hf : f_L_law_129 xs L σ l1 l2 l4 s0 = some (1 : Int32)) {H : Heap} {locs : List Loc} {ls : Array Slot} (hW : z_Ok D cA bs s σ H locs) (hl : lv_has ls 8 [(0, .ref b), (1, .ref l1), (2, .ref l2), (4, .int l4)])  : W p l e room_1 s m #[Value.ref b] below meth c H locs 288 19288 (lw_Z below #[Value.ref b] s) (F0 m 129 ls [.int s0]) := by
  have hx := B.1
  have hb := B.2.1
  have hown := B.2.2.2.1
  have hts := B.2.2.2.2.1
  unfold f_L_law_129 at hf
  refine lv_istore_n (lv' := [(3, .int s0), (0, .ref b), (1, .ref l1), (2, .ref l2), (4, .int l4)]) hx hb dL_law_129 rfl hl (by decide) rfl (fun ls hl => ?_)
  refine lv_iconst (v := (0 : Int32)) hx hb dL_law_130 (by decide) ?_
  refine lv_istore (lv' := [(5, .int (0 : Int32)), (3, .int s0), (0, .ref b), (1, .ref l1), (2, .ref l2), (4, .int l4)]) hx hb dL_law_131 hl (by decide) rfl (fun ls hl => ?_)
  unfold f_L_law_133 at hf
  exact t_L_law_133 B HL hbs  zN hf hW (lv_sub hl [2, 3, 4, 1, 5, 0] rfl)
set_option maxRecDepth 100000 in
def f_L_law_128 (xs : Nat → Int32) (L : Nat) (σ : zSt) (l1 : Nat) (l2 : Nat) (l4 : Int32) : Option (Int32) :=
(f_L_law_129 xs L σ l1 l2 l4 (0 : Int32))
set_option maxRecDepth 20000 in
set_option maxHeartbeats 4000000 in
theorem t_L_law_128 (B : z_B p s m #[Value.ref b] meth c D cA bs RL cL_law 8 ret) (HL : z_L s bs b L xs) (hbs : bs = s.heap.size)  {σ : zSt} {l1 : Nat} {l2 : Nat} {l4 : Int32} (hf : f_L_law_128 xs L σ l1 l2 l4 = some (1 : Int32)) {H : Heap} {locs : List Loc} {ls : Array Slot} (hW : z_Ok D cA bs s σ H locs) (hl : lv_has ls 8 [(0, .ref b), (1, .ref l1), (2, .ref l2), (4, .int l4)])  : W p l e room_1 s m #[Value.ref b] below meth c H locs 288 19288 (lw_Z below #[Value.ref b] s) (F0 m 128 ls []) := by
  have hx := B.1
  have hb := B.2.1
  have hown := B.2.2.2.1
  have hts := B.2.2.2.2.1
  unfold f_L_law_128 at hf
  refine lv_iconst (v := (0 : Int32)) hx hb dL_law_128 (by decide) ?_
  exact t_L_law_129 B HL hbs hf hW hl 
set_option maxRecDepth 100000 in
def f_L_law_81 (xs : Nat → Int32) (L : Nat) (σ : zSt) (l1 : Nat) (l2 : Nat) (l3 : Int32) : Option (Int32) :=
(zb (f_L_cell xs L σ (30 : Int32)) (fun r2 => (zb (f_L_up σ r2 (100 : Int32)) (fun r4 => (if l3 = 0 then
(f_L_law_128 xs L σ l1 l2 r4)
else
(if z_ob σ l1 8 then (zb2 (f_X9_completeAfter σ l1) (fun r7 σ8 => (if z_ob σ8 l2 8 then (zb2 (f_X9_completeAfter σ8 l2) (fun r11 σ12 => (if r7 = r11 then
(if z_ob σ12 l1 8 then (zb2 (f_X9_leastTarget σ12 l1 r4) (fun r15 σ16 => (if z_ob σ16 l2 8 then (zb2 (f_X9_leastTarget σ16 l2 r4) (fun r19 σ20 => (if r15 = r19 then
(f_L_law_129 xs L σ20 l1 l2 r4 (1 : Int32))
else
(f_L_law_128 xs L σ20 l1 l2 r4)))) else none))) else none)
else
(f_L_law_128 xs L σ12 l1 l2 r4)))) else none))) else none))))))
set_option maxRecDepth 20000 in
set_option maxHeartbeats 4000000 in
theorem t_L_law_81 (B : z_B p s m #[Value.ref b] meth c D cA bs RL cL_law 8 ret) (HL : z_L s bs b L xs) (hbs : bs = s.heap.size)  {σ : zSt} {l1 : Nat} {l2 : Nat} {l3 : Int32} (hf : f_L_law_81 xs L σ l1 l2 l3 = some (1 : Int32)) {H : Heap} {locs : List Loc} {ls : Array Slot} (hW : z_Ok D cA bs s σ H locs) (hl : lv_has ls 8 [(0, .ref b), (1, .ref l1), (2, .ref l2), (3, .int l3)])  : W p l e room_1 s m #[Value.ref b] below meth c H locs 288 19288 (lw_Z below #[Value.ref b] s) (F0 m 81 ls []) := by
  have hx := B.1
  have hb := B.2.1
  have hown := B.2.2.2.1
  have hts := B.2.2.2.2.1
  unfold f_L_law_81 at hf
  refine lv_aload_n hx hb dL_law_81 rfl (lv_at hl 0 rfl) ?_
  refine lv_bipush (v := (30 : Int32)) hx hb dL_law_82 (by decide) ?_
  obtain ⟨r2, hq1, hf⟩ := z_b hf
  refine z_ci hW (z_runSL (As := [.ref b, .int (30 : Int32)]) (rest := []) B hW HL zv_L_9 (K_L_cell hq1) rfl rfl (Nat.le_of_ble_eq_true rfl) hl.1 ⟨Nat.le_of_ble_eq_true rfl, Nat.le_of_ble_eq_true rfl⟩ dL_law_84 ⟨Nat.le_of_ble_eq_true rfl, Nat.le_of_ble_eq_true rfl⟩) (fun H locs hW => ?_)
  refine lv_bipush (v := (100 : Int32)) hx hb dL_law_87 (by decide) ?_
  obtain ⟨r4, hq3, hf⟩ := z_b hf
  refine z_ci hW (z_runS (As := [.int r2, .int (100 : Int32)]) (rest := []) B hW zv_L_15 (K_L_up hq3) rfl rfl (Nat.le_of_ble_eq_true rfl) hl.1 ⟨Nat.le_of_ble_eq_true rfl, Nat.le_of_ble_eq_true rfl⟩ dL_law_89 ⟨Nat.le_of_ble_eq_true rfl, Nat.le_of_ble_eq_true rfl⟩) (fun H locs hW => ?_)
  refine lv_istore (lv' := [(4, .int r4), (0, .ref b), (1, .ref l1), (2, .ref l2), (3, .int l3)]) hx hb dL_law_92 hl (by decide) rfl (fun ls hl => ?_)
  refine lv_iload_n hx hb dL_law_94 rfl (lv_at hl 4 rfl) ?_
  refine lv_if_eq (tgt := 128) hx hb dL_law_95 (by decide) (fun hc95 => ?_) (fun hc95 => ?_)
  · replace hf := z_ip hc95 hf
    exact t_L_law_128 B HL hbs hf hW (lv_sub hl [1, 2, 3, 0] rfl) 
  · replace hf := z_in hc95 hf
    refine lv_aload_n hx hb dL_law_98 rfl (lv_at hl 2 rfl) ?_
    obtain ⟨hg5, hf⟩ := z_g hf
    obtain ⟨r7, σ8, hq6, hf⟩ := z_b2 hf
    refine z_ci hW (z_runV (As := []) (rest := []) B hW zv_L_92 (K_X9_completeAfter hq6) hg5 rfl rfl rfl (Nat.le_of_ble_eq_true rfl) hl.1 ⟨Nat.le_of_ble_eq_true rfl, Nat.le_of_ble_eq_true rfl⟩ dL_law_99 ⟨Nat.le_of_ble_eq_true rfl, Nat.le_of_ble_eq_true rfl⟩) (fun H locs hW => ?_)
    refine lv_aload_n hx hb dL_law_102 rfl (lv_at hl 3 rfl) ?_
    obtain ⟨hg9, hf⟩ := z_g hf
    obtain ⟨r11, σ12, hq10, hf⟩ := z_b2 hf
    refine z_ci hW (z_runV (As := []) (rest := [.int r7]) B hW zv_L_92 (K_X9_completeAfter hq10) hg9 rfl rfl rfl (Nat.le_of_ble_eq_true rfl) hl.1 ⟨Nat.le_of_ble_eq_true rfl, Nat.le_of_ble_eq_true rfl⟩ dL_law_103 ⟨Nat.le_of_ble_eq_true rfl, Nat.le_of_ble_eq_true rfl⟩) (fun H locs hW => ?_)
    refine lv_icmp_ne (tgt := 128) hx hb dL_law_106 (by decide) (fun hc106 => ?_) (fun hc106 => ?_)
    · replace hf := z_in hc106 hf
      exact t_L_law_128 B HL hbs hf hW (lv_sub hl [1, 2, 3, 0] rfl) 
    · replace hf := z_ip hc106 hf
      refine lv_aload_n hx hb dL_law_109 rfl (lv_at hl 2 rfl) ?_
      refine lv_iload hx hb dL_law_110 (lv_at hl 0 rfl) ?_
      obtain ⟨hg13, hf⟩ := z_g hf
      obtain ⟨r15, σ16, hq14, hf⟩ := z_b2 hf
      refine z_ci hW (z_runV (As := [.int r4]) (rest := []) B hW zv_L_95 (K_X9_leastTarget hq14) hg13 rfl rfl rfl (Nat.le_of_ble_eq_true rfl) hl.1 ⟨Nat.le_of_ble_eq_true rfl, Nat.le_of_ble_eq_true rfl⟩ dL_law_112 ⟨Nat.le_of_ble_eq_true rfl, Nat.le_of_ble_eq_true rfl⟩) (fun H locs hW => ?_)
      refine lv_aload_n hx hb dL_law_115 rfl (lv_at hl 3 rfl) ?_
      refine lv_iload hx hb dL_law_116 (lv_at hl 0 rfl) ?_
      obtain ⟨hg17, hf⟩ := z_g hf
      obtain ⟨r19, σ20, hq18, hf⟩ := z_b2 hf
      refine z_ci hW (z_runV (As := [.int r4]) (rest := [.int r15]) B hW zv_L_95 (K_X9_leastTarget hq18) hg17 rfl rfl rfl (Nat.le_of_ble_eq_true rfl) hl.1 ⟨Nat.le_of_ble_eq_true rfl, Nat.le_of_ble_eq_true rfl⟩ dL_law_118 ⟨Nat.le_of_ble_eq_true rfl, Nat.le_of_ble_eq_true rfl⟩) (fun H locs hW => ?_)
      refine lv_icmp_ne (tgt := 128) hx hb dL_law_121 (by decide) (fun hc121 => ?_) (fun hc121 => ?_)
      · replace hf := z_in hc121 hf
        exact t_L_law_128 B HL hbs hf hW (lv_sub hl [1, 2, 3, 0] rfl) 
      · replace hf := z_ip hc121 hf
        refine lv_iconst (v := (1 : Int32)) hx hb dL_law_124 (by decide) ?_
        refine lv_goto (tgt := 129) hx hb dL_law_125 (by decide) ?_
        exact t_L_law_129 B HL hbs hf hW (lv_sub hl [1, 2, 3, 0] rfl) 
set_option maxRecDepth 100000 in
def f_L_law_74 (xs : Nat → Int32) (L : Nat) (σ : zSt) (l1 : Nat) (l2 : Nat) (l4 : Int32) (s0 : Int32) : Option ((zSt × Int32 × Int32) ⊕ (Int32)) :=
(some (.inl (σ, s0, (l4 + (1 : Int32)))))
set_option maxRecDepth 20000 in
set_option maxHeartbeats 4000000 in
theorem t_L_law_74 (B : z_B p s m #[Value.ref b] meth c D cA bs RL cL_law 8 ret) (HL : z_L s bs b L xs) (hbs : bs = s.heap.size)  {o1 : (zSt × Int32 × Int32) ⊕ (Int32)} {σ : zSt} {l1 : Nat} {l2 : Nat} {l4 : Int32} {s0 : Int32} (hf : f_L_law_74 xs L σ l1 l2 l4 s0 = some o1) {H : Heap} {locs : List Loc} {ls : Array Slot} (hW : z_Ok D cA bs s σ H locs) (hl : lv_has ls 8 [(0, .ref b), (1, .ref l1), (2, .ref l2), (4, .int l4)]) (hk1 : ∀ (σ : zSt) (l3 : Int32) (l4 : Int32), o1 = .inl (σ, l3, l4) → ∀ {H : Heap} {locs : List Loc} {ls : Array Slot}, z_Ok D cA bs s σ H locs → lv_has ls 8 [(0, .ref b), (1, .ref l1), (2, .ref l2), (3, .int l3), (4, .int l4)] → W p l e room_1 s m #[Value.ref b] below meth c H locs 288 19288 (lw_Z below #[Value.ref b] s) (F0 m 26 ls [])) (hr1 : ∀ x, o1 = .inr x → x = (1 : Int32)) : W p l e room_1 s m #[Value.ref b] below meth c H locs 288 19288 (lw_Z below #[Value.ref b] s) (F0 m 74 ls [.int s0]) := by
  have hx := B.1
  have hb := B.2.1
  have hown := B.2.2.2.1
  have hts := B.2.2.2.2.1
  unfold f_L_law_74 at hf
  refine lv_istore_n (lv' := [(3, .int s0), (0, .ref b), (1, .ref l1), (2, .ref l2), (4, .int l4)]) hx hb dL_law_74 rfl hl (by decide) rfl (fun ls hl => ?_)
  refine lv_iinc (v := (l4 + (1 : Int32))) (lv' := [(4, .int (l4 + (1 : Int32))), (3, .int s0), (0, .ref b), (1, .ref l1), (2, .ref l2)]) hx hb dL_law_75 hl (k := 4) rfl rfl (by decide) rfl (fun ls hl => ?_)
  refine lv_goto (tgt := 26) hx hb dL_law_78 (by decide) ?_
  exact hk1 _ _ _ (Option.some.inj hf).symm hW (lv_sub hl [2, 3, 4, 1, 0] rfl)
set_option maxRecDepth 100000 in
def f_L_law_73 (xs : Nat → Int32) (L : Nat) (σ : zSt) (l1 : Nat) (l2 : Nat) (l4 : Int32) : Option ((zSt × Int32 × Int32) ⊕ (Int32)) :=
(f_L_law_74 xs L σ l1 l2 l4 (0 : Int32))
set_option maxRecDepth 20000 in
set_option maxHeartbeats 4000000 in
theorem t_L_law_73 (B : z_B p s m #[Value.ref b] meth c D cA bs RL cL_law 8 ret) (HL : z_L s bs b L xs) (hbs : bs = s.heap.size)  {o1 : (zSt × Int32 × Int32) ⊕ (Int32)} {σ : zSt} {l1 : Nat} {l2 : Nat} {l4 : Int32} (hf : f_L_law_73 xs L σ l1 l2 l4 = some o1) {H : Heap} {locs : List Loc} {ls : Array Slot} (hW : z_Ok D cA bs s σ H locs) (hl : lv_has ls 8 [(0, .ref b), (1, .ref l1), (2, .ref l2), (4, .int l4)]) (hk1 : ∀ (σ : zSt) (l3 : Int32) (l4 : Int32), o1 = .inl (σ, l3, l4) → ∀ {H : Heap} {locs : List Loc} {ls : Array Slot}, z_Ok D cA bs s σ H locs → lv_has ls 8 [(0, .ref b), (1, .ref l1), (2, .ref l2), (3, .int l3), (4, .int l4)] → W p l e room_1 s m #[Value.ref b] below meth c H locs 288 19288 (lw_Z below #[Value.ref b] s) (F0 m 26 ls [])) (hr1 : ∀ x, o1 = .inr x → x = (1 : Int32)) : W p l e room_1 s m #[Value.ref b] below meth c H locs 288 19288 (lw_Z below #[Value.ref b] s) (F0 m 73 ls []) := by
  have hx := B.1
  have hb := B.2.1
  have hown := B.2.2.2.1
  have hts := B.2.2.2.2.1
  unfold f_L_law_73 at hf
  refine lv_iconst (v := (0 : Int32)) hx hb dL_law_73 (by decide) ?_
  exact t_L_law_74 B HL hbs hf hW hl hk1 hr1
set_option maxRecDepth 100000 in
def b_L_law_26 (xs : Nat → Int32) (L : Nat) (l1 : Nat) (l2 : Nat) (σ : zSt) (l3 : Int32) (l4 : Int32) : Option ((zSt × Int32 × Int32) ⊕ (Int32)) :=
(if (16 : Int32) ≤ l4 then
(zex (f_L_law_81 xs L σ l1 l2 l3))
else
(if l3 = 0 then
(zex (f_L_law_81 xs L σ l1 l2 l3))
else
(zb (f_L_cell xs L σ ((10 : Int32) + l4)) (fun r4 => (zb2 (f_L_isStep σ l1 l2 r4) (fun r6 σ7 => (if r6 = 0 then
(f_L_law_73 xs L σ7 l1 l2 l4)
else
(zb (f_L_areAlike σ7 l1 l2) (fun r9 => (if r9 = 0 then
(f_L_law_73 xs L σ7 l1 l2 l4)
else
(zb (f_L_isSound σ7 l1) (fun r11 => (if r11 = 0 then
(f_L_law_73 xs L σ7 l1 l2 l4)
else
(f_L_law_74 xs L σ7 l1 l2 l4 (1 : Int32)))))))))))))))
set_option maxRecDepth 100000 in
def f_L_law_26 (xs : Nat → Int32) (L : Nat) (l1 : Nat) (l2 : Nat) (σ : zSt) (l3 : Int32) (l4 : Int32) : Option (Int32) := zloop (fun (t : zSt × Int32 × Int32) => b_L_law_26 xs L l1 l2 t.1 t.2.1 t.2.2) zN (σ, l3, l4)
set_option maxRecDepth 20000 in
set_option maxHeartbeats 4000000 in
theorem tb_L_law_26 (B : z_B p s m #[Value.ref b] meth c D cA bs RL cL_law 8 ret) (HL : z_L s bs b L xs) (hbs : bs = s.heap.size)  {o1 : (zSt × Int32 × Int32) ⊕ (Int32)} {l1 : Nat} {l2 : Nat} {σ : zSt} {l3 : Int32} {l4 : Int32} (hf : b_L_law_26 xs L l1 l2 σ l3 l4 = some o1) {H : Heap} {locs : List Loc} {ls : Array Slot} (hW : z_Ok D cA bs s σ H locs) (hl : lv_has ls 8 [(0, .ref b), (1, .ref l1), (2, .ref l2), (3, .int l3), (4, .int l4)]) (hk1 : ∀ (σ : zSt) (l3 : Int32) (l4 : Int32), o1 = .inl (σ, l3, l4) → ∀ {H : Heap} {locs : List Loc} {ls : Array Slot}, z_Ok D cA bs s σ H locs → lv_has ls 8 [(0, .ref b), (1, .ref l1), (2, .ref l2), (3, .int l3), (4, .int l4)] → W p l e room_1 s m #[Value.ref b] below meth c H locs 288 19288 (lw_Z below #[Value.ref b] s) (F0 m 26 ls [])) (hr1 : ∀ x, o1 = .inr x → x = (1 : Int32)) : W p l e room_1 s m #[Value.ref b] below meth c H locs 288 19288 (lw_Z below #[Value.ref b] s) (F0 m 26 ls []) := by
  have hx := B.1
  have hb := B.2.1
  have hown := B.2.2.2.1
  have hts := B.2.2.2.2.1
  unfold b_L_law_26 at hf
  refine lv_iload hx hb dL_law_26 (lv_at hl 4 rfl) ?_
  refine lv_bipush (v := (16 : Int32)) hx hb dL_law_28 (by decide) ?_
  refine lv_icmp_ge (tgt := 81) hx hb dL_law_30 (by decide) (fun hc30 => ?_) (fun hc30 => ?_)
  · replace hf := z_ip hc30 hf
    obtain ⟨w1, hf, ho1⟩ := z_x hf
    obtain rfl := hr1 _ ho1
    exact t_L_law_81 B HL hbs hf hW (lv_sub hl [0, 1, 2, 3] rfl) 
  · replace hf := z_in hc30 hf
    refine lv_iload_n hx hb dL_law_33 rfl (lv_at hl 3 rfl) ?_
    refine lv_if_eq (tgt := 81) hx hb dL_law_34 (by decide) (fun hc34 => ?_) (fun hc34 => ?_)
    · replace hf := z_ip hc34 hf
      obtain ⟨w1, hf, ho2⟩ := z_x hf
      obtain rfl := hr1 _ ho2
      exact t_L_law_81 B HL hbs hf hW (lv_sub hl [0, 1, 2, 3] rfl) 
    · replace hf := z_in hc34 hf
      refine lv_aload_n hx hb dL_law_37 rfl (lv_at hl 1 rfl) ?_
      refine lv_aload_n hx hb dL_law_38 rfl (lv_at hl 2 rfl) ?_
      refine lv_aload_n hx hb dL_law_39 rfl (lv_at hl 0 rfl) ?_
      refine lv_bipush (v := (10 : Int32)) hx hb dL_law_40 (by decide) ?_
      refine lv_iload hx hb dL_law_42 (lv_at hl 4 rfl) ?_
      refine lv_iadd hx hb dL_law_44 ?_
      obtain ⟨r4, hq3, hf⟩ := z_b hf
      refine z_ci hW (z_runSL (As := [.ref b, .int ((10 : Int32) + l4)]) (rest := [.ref l2, .ref l1]) B hW HL zv_L_9 (K_L_cell hq3) rfl rfl (Nat.le_of_ble_eq_true rfl) hl.1 ⟨Nat.le_of_ble_eq_true rfl, Nat.le_of_ble_eq_true rfl⟩ dL_law_45 ⟨Nat.le_of_ble_eq_true rfl, Nat.le_of_ble_eq_true rfl⟩) (fun H locs hW => ?_)
      obtain ⟨r6, σ7, hq5, hf⟩ := z_b2 hf
      refine z_ci hW (z_runS (As := [.ref l1, .ref l2, .int r4]) (rest := []) B hW zv_L_80 (K_L_isStep hq5) rfl rfl (Nat.le_of_ble_eq_true rfl) hl.1 ⟨Nat.le_of_ble_eq_true rfl, Nat.le_of_ble_eq_true rfl⟩ dL_law_48 ⟨Nat.le_of_ble_eq_true rfl, Nat.le_of_ble_eq_true rfl⟩) (fun H locs hW => ?_)
      refine lv_if_eq (tgt := 73) hx hb dL_law_51 (by decide) (fun hc51 => ?_) (fun hc51 => ?_)
      · replace hf := z_ip hc51 hf
        exact t_L_law_73 B HL hbs hf hW (lv_sub hl [0, 1, 2, 4] rfl) hk1 hr1
      · replace hf := z_in hc51 hf
        refine lv_aload_n hx hb dL_law_54 rfl (lv_at hl 1 rfl) ?_
        refine lv_aload_n hx hb dL_law_55 rfl (lv_at hl 2 rfl) ?_
        obtain ⟨r9, hq8, hf⟩ := z_b hf
        refine z_ci hW (z_runS (As := [.ref l1, .ref l2]) (rest := []) B hW zv_L_84 (K_L_areAlike hq8) rfl rfl (Nat.le_of_ble_eq_true rfl) hl.1 ⟨Nat.le_of_ble_eq_true rfl, Nat.le_of_ble_eq_true rfl⟩ dL_law_56 ⟨Nat.le_of_ble_eq_true rfl, Nat.le_of_ble_eq_true rfl⟩) (fun H locs hW => ?_)
        refine lv_if_eq (tgt := 73) hx hb dL_law_59 (by decide) (fun hc59 => ?_) (fun hc59 => ?_)
        · replace hf := z_ip hc59 hf
          exact t_L_law_73 B HL hbs hf hW (lv_sub hl [0, 1, 2, 4] rfl) hk1 hr1
        · replace hf := z_in hc59 hf
          refine lv_aload_n hx hb dL_law_62 rfl (lv_at hl 1 rfl) ?_
          obtain ⟨r11, hq10, hf⟩ := z_b hf
          refine z_ci hW (z_runS (As := [.ref l1]) (rest := []) B hW zv_L_88 (K_L_isSound hq10) rfl rfl (Nat.le_of_ble_eq_true rfl) hl.1 ⟨Nat.le_of_ble_eq_true rfl, Nat.le_of_ble_eq_true rfl⟩ dL_law_63 ⟨Nat.le_of_ble_eq_true rfl, Nat.le_of_ble_eq_true rfl⟩) (fun H locs hW => ?_)
          refine lv_if_eq (tgt := 73) hx hb dL_law_66 (by decide) (fun hc66 => ?_) (fun hc66 => ?_)
          · replace hf := z_ip hc66 hf
            exact t_L_law_73 B HL hbs hf hW (lv_sub hl [0, 1, 2, 4] rfl) hk1 hr1
          · replace hf := z_in hc66 hf
            refine lv_iconst (v := (1 : Int32)) hx hb dL_law_69 (by decide) ?_
            refine lv_goto (tgt := 74) hx hb dL_law_70 (by decide) ?_
            exact t_L_law_74 B HL hbs hf hW (lv_sub hl [0, 1, 2, 4] rfl) hk1 hr1
set_option maxRecDepth 20000 in
set_option maxHeartbeats 4000000 in
theorem t_L_law_26 (B : z_B p s m #[Value.ref b] meth c D cA bs RL cL_law 8 ret) (HL : z_L s bs b L xs) (hbs : bs = s.heap.size)  {l1 : Nat} {l2 : Nat}  : ∀ (n : Nat) {σ : zSt} {l3 : Int32} {l4 : Int32}, zloop (fun (t : zSt × Int32 × Int32) => b_L_law_26 xs L l1 l2 t.1 t.2.1 t.2.2) n (σ, l3, l4) = some (1 : Int32) → ∀ {H : Heap} {locs : List Loc} {ls : Array Slot}, z_Ok D cA bs s σ H locs → lv_has ls 8 [(0, .ref b), (1, .ref l1), (2, .ref l2), (3, .int l3), (4, .int l4)] → W p l e room_1 s m #[Value.ref b] below meth c H locs 288 19288 (lw_Z below #[Value.ref b] s) (F0 m 26 ls []) := by
  intro n
  induction n with
  | zero => intro σ l3 l4 hf; cases hf
  | succ n ih =>
    intro σ l3 l4 hf H locs ls hW hl
    obtain ⟨o1, hb1, hf⟩ := z_lp hf
    refine tb_L_law_26 B HL hbs hb1 hW hl  (fun σ l3 l4 he H locs ls hW hl => ?_) (fun x he => ?_)
    · rcases hf with ⟨t, ht, hf⟩ | hf
      · rw [he] at ht
        cases ht
        exact ih hf hW hl
      · rw [he] at hf
        cases hf
    · rcases hf with ⟨t, ht, hf⟩ | hf
      · rw [he] at ht
        cases ht
      · rw [he] at hf
        exact Sum.inr.inj hf
set_option maxRecDepth 100000 in
def f_L_law (xs : Nat → Int32) (L : Nat) (σ : zSt) : Option (Int32) :=
(zl (z_nw σ (.inl 8)) (fun σ1 => (zb (f_X9_init σ1 (z_nx σ)) (fun σ4 => (zl (z_nw σ4 (.inl 8)) (fun σ5 => (zb (f_X9_init σ5 (z_nx σ4)) (fun σ8 => (zb2 (f_L_adds xs L σ8 (z_nx σ) (z_nx σ4)) (fun r10 σ11 => (f_L_law_26 xs L (z_nx σ) (z_nx σ4) σ11 r10 (0 : Int32))))))))))))
set_option maxRecDepth 20000 in
set_option maxHeartbeats 4000000 in
theorem t_L_law (B : z_B p s m #[Value.ref b] meth c D cA bs RL cL_law 8 ret) (HL : z_L s bs b L xs) (hbs : bs = s.heap.size) {σ : zSt} (hf : f_L_law xs L σ = some (1 : Int32)) {H : Heap} {locs : List Loc} {ls : Array Slot} (hW : z_Ok D cA bs s σ H locs) (hl : lv_has ls 8 [(0, .ref b)]) : W p l e room_1 s m #[Value.ref b] below meth c H locs 0 0 (lw_Z below #[Value.ref b] s) (F0 m 0 ls []) := by
  have hx := B.1
  have hb := B.2.1
  have hown := B.2.2.2.1
  have hts := B.2.2.2.2.1
  unfold f_L_law at hf
  obtain ⟨σ1, hs2, hf⟩ := z_l hf
  refine z_newOb B hW zw_L_20 hs2 (Nat.le_of_ble_eq_true rfl) (Nat.le_of_ble_eq_true rfl) dL_law_0 (fun H hW => ?_)
  refine lv_dup hx hb dL_law_3 rfl ?_
  obtain ⟨σ4, hq3, hf⟩ := z_b hf
  refine z_cv hW (z_runI (As := []) (rest := [.ref (z_nx σ)]) B hW zv_L_75 (K_X9_init hq3) rfl rfl (Nat.le_of_ble_eq_true rfl) hl.1 ⟨Nat.le_of_ble_eq_true rfl, Nat.le_of_ble_eq_true rfl⟩ dL_law_4 ⟨Nat.le_of_ble_eq_true rfl, Nat.le_of_ble_eq_true rfl⟩) (fun H locs hW => ?_)
  refine lv_astore_n (lv' := [(1, .ref (z_nx σ)), (0, .ref b)]) hx hb dL_law_7 rfl hl (by decide) rfl (fun ls hl => ?_)
  obtain ⟨σ5, hs6, hf⟩ := z_l hf
  refine z_newOb B hW zw_L_20 hs6 (Nat.le_of_ble_eq_true rfl) (Nat.le_of_ble_eq_true rfl) dL_law_8 (fun H hW => ?_)
  refine lv_dup hx hb dL_law_11 rfl ?_
  obtain ⟨σ8, hq7, hf⟩ := z_b hf
  refine z_cv hW (z_runI (As := []) (rest := [.ref (z_nx σ4)]) B hW zv_L_75 (K_X9_init hq7) rfl rfl (Nat.le_of_ble_eq_true rfl) hl.1 ⟨Nat.le_of_ble_eq_true rfl, Nat.le_of_ble_eq_true rfl⟩ dL_law_12 ⟨Nat.le_of_ble_eq_true rfl, Nat.le_of_ble_eq_true rfl⟩) (fun H locs hW => ?_)
  refine lv_astore_n (lv' := [(2, .ref (z_nx σ4)), (1, .ref (z_nx σ)), (0, .ref b)]) hx hb dL_law_15 rfl hl (by decide) rfl (fun ls hl => ?_)
  refine lv_aload_n hx hb dL_law_16 rfl (lv_at hl 1 rfl) ?_
  refine lv_aload_n hx hb dL_law_17 rfl (lv_at hl 0 rfl) ?_
  refine lv_aload_n hx hb dL_law_18 rfl (lv_at hl 2 rfl) ?_
  obtain ⟨r10, σ11, hq9, hf⟩ := z_b2 hf
  refine z_ci hW (z_runSL (As := [.ref (z_nx σ), .ref (z_nx σ4), .ref b]) (rest := []) B hW HL zv_L_76 (K_L_adds hq9) rfl rfl (Nat.le_of_ble_eq_true rfl) hl.1 ⟨Nat.le_of_ble_eq_true rfl, Nat.le_of_ble_eq_true rfl⟩ dL_law_19 ⟨Nat.le_of_ble_eq_true rfl, Nat.le_of_ble_eq_true rfl⟩) (fun H locs hW => ?_)
  refine lv_istore_n (lv' := [(3, .int r10), (2, .ref (z_nx σ4)), (1, .ref (z_nx σ)), (0, .ref b)]) hx hb dL_law_22 rfl hl (by decide) rfl (fun ls hl => ?_)
  refine lv_iconst (v := (0 : Int32)) hx hb dL_law_23 (by decide) ?_
  refine lv_istore (lv' := [(4, .int (0 : Int32)), (3, .int r10), (2, .ref (z_nx σ4)), (1, .ref (z_nx σ)), (0, .ref b)]) hx hb dL_law_24 hl (by decide) rfl (fun ls hl => ?_)
  unfold f_L_law_26 at hf
  exact t_L_law_26 B HL hbs  zN hf hW (lv_sub hl [4, 3, 2, 1, 0] rfl)
end GEN
