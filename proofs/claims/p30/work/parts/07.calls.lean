/-! calls and ends -/
/-- what the tables say of a called method -/
def z_V (own : String) (index : Nat) (C : String) (y : MethodName) (cc : ByteArray) (nL : Nat) (ret : Option FieldType) (n : Nat) : Prop :=
  (∀ w ∈ wsV own index C y [Cond.code y cc nL ret], w ∈ zWS) ∧ y.cls = C ∧ y.cls ≠ "java/lang/invoke/MethodHandle" ∧ y.cls ≠ "java/lang/invoke/VarHandle" ∧ (parseMethodDescriptor y.desc).map (fun d => d.parameters.length) = some n
def z_SS (own : String) (index : Nat) (y : MethodName) (cc : ByteArray) (nL : Nat) (ret : Option FieldType) (n : Nat) : Prop :=
  (∀ w ∈ ([.methodLink own index y, .static y, .initialized y.cls, .code y cc nL ret] : List Cond), w ∈ zWS) ∧ y.cls ≠ "java/lang/invoke/MethodHandle" ∧ y.cls ≠ "java/lang/invoke/VarHandle" ∧ (parseMethodDescriptor y.desc).map (fun d => d.parameters.length) = some n
def z_SN (own : String) (index : Nat) (y : MethodName) (host : String) (cc : ByteArray) (nL : Nat) (ret : Option FieldType) (n : Nat) : Prop :=
  (own, index, y, host) ∈ zNest ∧ (∀ w ∈ ([.static y, .initialized y.cls, .code y cc nL ret] : List Cond), w ∈ zWS) ∧ y.cls ≠ "java/lang/invoke/MethodHandle" ∧ y.cls ≠ "java/lang/invoke/VarHandle" ∧ (parseMethodDescriptor y.desc).map (fun d => d.parameters.length) = some n
def z_II (own : String) (index : Nat) (y : MethodName) (cc : ByteArray) (nL : Nat) (n : Nat) : Prop :=
  (∀ w ∈ ([.methodLink own index y, .instanceMethod y, .initialized y.cls, .code y cc nL none] : List Cond), w ∈ zWS) ∧ y.name = "<init>" ∧ y.cls ≠ "java/lang/invoke/MethodHandle" ∧ y.cls ≠ "java/lang/invoke/VarHandle" ∧ (parseMethodDescriptor y.desc).map (fun d => d.parameters.length) = some n
def z_IN (own : String) (index : Nat) (y : MethodName) (host : String) (cc : ByteArray) (nL : Nat) (n : Nat) : Prop :=
  (own, index, y, host) ∈ zNest ∧ (∀ w ∈ ([.instanceMethod y, .initialized y.cls, .code y cc nL none] : List Cond), w ∈ zWS) ∧ y.name = "<init>" ∧ y.cls ≠ "java/lang/invoke/MethodHandle" ∧ y.cls ≠ "java/lang/invoke/VarHandle" ∧ (parseMethodDescriptor y.desc).map (fun d => d.parameters.length) = some n
def z_wy (y : MethodName) (cc : ByteArray) (nL : Nat) (ret : Option FieldType) : List Cond := Cond.code y cc nL ret :: zWS
/-- the contract of a method: from the abstract heap σ to σ' -/
def z_M (l : Launch) (D : va_G) (cA : Nat → ClassId) (bs : Nat) (y : MethodName) (cc : ByteArray) (nL : Nat) (ret : Option FieldType) (fr lo mc ms : Nat) (As : List Value) (σ : zSt) (Qc : Array Value → State → Outcome → State → Prop) : Prop :=
  Met l y (z_wy y cc nL ret) (zrm fr mc ms lo) (va_Pc As (fun U => z_Pc D cA bs σ U)) Qc mc ms (fun q => bs ≤ q)
def z_Qi (D : va_G) (cA : Nat → ClassId) (bs : Nat) (r : Int32) (σ' : zSt) : Array Value → State → Outcome → State → Prop := va_Qi (fun (x : Int32) (_ : Unit) => x = r) (fun _ t => z_Pc D cA bs σ' t) (fun q => bs ≤ q)
def z_Ql (D : va_G) (cA : Nat → ClassId) (bs : Nat) (r : Int64) (σ' : zSt) : Array Value → State → Outcome → State → Prop := va_Ql (fun (x : Int64) (_ : Unit) => x = r) (fun _ t => z_Pc D cA bs σ' t) (fun q => bs ≤ q)
def z_Qd (D : va_G) (cA : Nat → ClassId) (bs : Nat) (r : UInt64) (σ' : zSt) : Array Value → State → Outcome → State → Prop := va_Qd (fun (x : UInt64) (_ : Unit) => x = r) (fun _ t => z_Pc D cA bs σ' t) (fun q => bs ≤ q)
def z_Qq (D : va_G) (cA : Nat → ClassId) (bs : Nat) (r : Option Nat) (σ' : zSt) : Array Value → State → Outcome → State → Prop := va_Qq (fun (x : Option Nat) (_ : Unit) => x = r) (fun _ t => z_Pc D cA bs σ' t) (fun q => bs ≤ q)
def z_Qv (D : va_G) (cA : Nat → ClassId) (bs : Nat) (σ' : zSt) : Array Value → State → Outcome → State → Prop := va_Qv (fun (_ : Unit) => True) (fun _ t => z_Pc D cA bs σ' t) (fun q => bs ≤ q)
section CALLS
variable {p : Program} {l : Launch} {e : Env} {R : Room} {s : State} {m : MethodId} {args : Array Value} {below : List Frame} {meth : Method} {c : Code} {H : Heap} {locs : List Loc} {cells slots : Nat} {Q : State → Prop}
variable {D : va_G} {cA : Nat → ClassId} {bs : Nat} {own : String} {cc : ByteArray} {nL : Nat} {ret : Option FieldType} {σ σ' : zSt} {pc : Nat} {ls : Array Slot} {rest st As : List Value} {q ci k index n : Nat}
variable {y : MethodName} {bytes : ByteArray} {maxL fr lo mc ms : Nat} {ret1 : Option FieldType} {C host : String} {Qc : Array Value → State → Outcome → State → Prop}
theorem z_blind : FrameBlind (va_Pc As (fun U => z_Pc D cA bs σ U)) := fun a U g mk h => ⟨h.1, h.2.1, z_KT.same (s := U) (U := U.calling g mk a) rfl h.2.2⟩
theorem z_gw (h : Cond.code y bytes maxL ret1 ∈ zWS) : GoodIn zWS (z_wy y bytes maxL ret1) := z_gi fun w hw => (List.mem_cons.mp hw).elim (fun e => by rw [e]; exact h) id
theorem z_runV (B : z_B p s m args meth c D cA bs own cc nL ret) (hW : z_Ok D cA bs s σ H locs) (V : z_V own index C y bytes maxL ret1 n) (hM : z_M l D cA bs y bytes maxL ret1 fr lo mc ms (.ref q :: As) σ Qc) (ho : z_ob σ q ci = true) (hci : (vwCl[ci]?).map (fun r => r.1) = some C)
    (hn : As.length = n) (hst : st = As.reverse ++ .ref q :: rest) (hrs : (rest.map fun v => v.category).sum ≤ 8) (hls : ls.size = nL) (hR : fr + 1 ≤ R.frames ∧ 8 + (maxL + 11) + lo ≤ R.locals) (hdg : decode cc pc = .ok (.invokevirtual index, 3)) (hf : cells + mc ≤ R.cells ∧ slots + ms ≤ R.slots) :
    va_Run p l e R s m args below meth c H locs cells slots mc ms (F0 m pc ls st) rest (Qc (Value.ref q :: As).toArray) (fun q => bs ≤ q) := by
  obtain ⟨hx, hb, hml, hown, hts, -, -, hKT, -⟩ := B
  have hsh := z_ob_sh ho
  obtain ⟨r, hcl, cellB, g1, g2, g3, -⟩ := (hW.1.2.2 q _ hsh).2
  have hC : r.1 = C := by rw [hcl] at hci; exact Option.some.inj hci
  refine va_runV (Ts := zWS) (own := own) (C := C) (y := y) (ws := z_wy y bytes maxL ret1) (As := As) (rest := rest) (n := n) ⟨hx, hb, hml, hown, hts⟩ hM (cwV n hts (fun w hw => ?_) rfl rfl rfl V.2 hR) ⟨z_blind, ⟨cellB, g1, by rw [g3]; rfl, by rw [g2, ← hC]; exact (hKT.1.1 ci _ hcl).2.1⟩, fun U hU hWm => ⟨rfl, by rw [hU]; exact hW.1, hKT.warm hWm⟩⟩ rfl hn hls hst (lv_room (rest := st) hrs) hdg hf
  unfold wsV at hw
  rcases List.mem_append.mp hw with hw | hw
  · exact z_gi V.1 w (by unfold wsV; exact List.mem_append_left _ hw)
  · exact z_gw (V.1 _ (by unfold wsV; exact List.mem_append_right _ List.mem_cons_self)) w hw
theorem z_runS (B : z_B p s m args meth c D cA bs own cc nL ret) (hW : z_Ok D cA bs s σ H locs) (V : z_SS own index y bytes maxL ret1 n) (hM : z_M l D cA bs y bytes maxL ret1 fr lo mc ms As σ Qc)
    (hn : As.length = n) (hst : st = As.reverse ++ rest) (hrs : (rest.map fun v => v.category).sum ≤ 8) (hls : ls.size = nL) (hR : fr + 1 ≤ R.frames ∧ 8 + (maxL + 11) + lo ≤ R.locals) (hdg : decode cc pc = .ok (.invokestatic index, 3)) (hf : cells + mc ≤ R.cells ∧ slots + ms ≤ R.slots) :
    va_Run p l e R s m args below meth c H locs cells slots mc ms (F0 m pc ls st) rest (Qc As.toArray) (fun q => bs ≤ q) := by
  obtain ⟨hx, hb, hml, hown, hts, -, -, hKT, -⟩ := B
  obtain ⟨V1, V2⟩ := V
  refine va_runS (Ts := zWS) (own := own) (y := y) (ws := z_wy y bytes maxL ret1) (As := As) (rest := rest) (n := n) ⟨hx, hb, hml, hown, hts⟩ hM ⟨callB_of n hts (z_gw (V1 _ (by simp))) rfl rfl rfl (hts _ (V1 _ (by simp))) (hts _ (V1 _ (by simp))) V2 hR, hts _ (V1 _ (by simp))⟩ ⟨z_blind, fun U hU hWm => ⟨rfl, by rw [hU]; exact hW.1, hKT.warm hWm⟩⟩ rfl hn hls hst (lv_room (rest := st) hrs) hdg hf
theorem z_runSN (B : z_B p s m args meth c D cA bs own cc nL ret) (hW : z_Ok D cA bs s σ H locs) (V : z_SN own index y host bytes maxL ret1 n) (hM : z_M l D cA bs y bytes maxL ret1 fr lo mc ms As σ Qc)
    (hn : As.length = n) (hst : st = As.reverse ++ rest) (hrs : (rest.map fun v => v.category).sum ≤ 8) (hls : ls.size = nL) (hR : fr + 1 ≤ R.frames ∧ 8 + (maxL + 11) + lo ≤ R.locals) (hdg : decode cc pc = .ok (.invokestatic index, 3)) (hf : cells + mc ≤ R.cells ∧ slots + ms ≤ R.slots) :
    va_Run p l e R s m args below meth c H locs cells slots mc ms (F0 m pc ls st) rest (Qc As.toArray) (fun q => bs ≤ q) := by
  obtain ⟨hx, hb, hml, hown, hts, -, -, hKT, -⟩ := B
  obtain ⟨V0, V1, V2⟩ := V
  refine va_runSN (Ts := zWS) (own := own) (y := y) (ws := z_wy y bytes maxL ret1) (As := As) (rest := rest) (n := n) (host := host) ⟨hx, hb, hml, hown, hts⟩ hM ⟨va_cnB n hts (z_gw (V1 _ (by simp))) rfl rfl rfl (hKT.2.1 _ V0) (hts _ (V1 _ (by simp))) V2 hR, hts _ (V1 _ (by simp)), trivial⟩ ⟨z_blind, fun U hU hWm => ⟨rfl, by rw [hU]; exact hW.1, hKT.warm hWm⟩⟩ rfl hn hls hst (lv_room (rest := st) hrs) hdg hf
theorem z_runI (B : z_B p s m args meth c D cA bs own cc nL ret) (hW : z_Ok D cA bs s σ H locs) (V : z_II own index y bytes maxL n) (hM : z_M l D cA bs y bytes maxL none fr lo mc ms (.ref q :: As) σ Qc)
    (hn : As.length = n) (hst : st = As.reverse ++ .ref q :: rest) (hrs : (rest.map fun v => v.category).sum ≤ 8) (hls : ls.size = nL) (hR : fr + 1 ≤ R.frames ∧ 8 + (maxL + 11) + lo ≤ R.locals) (hdg : decode cc pc = .ok (.invokespecial index, 3)) (hf : cells + mc ≤ R.cells ∧ slots + ms ≤ R.slots) :
    va_Run p l e R s m args below meth c H locs cells slots mc ms (F0 m pc ls st) rest (Qc (Value.ref q :: As).toArray) (fun q => bs ≤ q) := by
  obtain ⟨hx, hb, hml, hown, hts, -, -, hKT, -⟩ := B
  obtain ⟨V1, V3, V2⟩ := V
  refine va_runI (Ts := zWS) (own := own) (y := y) (ws := z_wy y bytes maxL none) (As := As) (rest := rest) (n := n) ⟨hx, hb, hml, hown, hts⟩ hM (cwI n hts (z_gw (V1 _ (by simp))) rfl rfl rfl (hts _ (V1 _ (by simp))) (hts _ (V1 _ (by simp))) (hts _ (V1 _ (by simp))) V3 V2 hR) ⟨z_blind, fun U hU hWm => ⟨rfl, by rw [hU]; exact hW.1, hKT.warm hWm⟩⟩ rfl hn hls hst (lv_room (rest := st) hrs) hdg hf
theorem z_runIN (B : z_B p s m args meth c D cA bs own cc nL ret) (hW : z_Ok D cA bs s σ H locs) (V : z_IN own index y host bytes maxL n) (hM : z_M l D cA bs y bytes maxL none fr lo mc ms (.ref q :: As) σ Qc)
    (hn : As.length = n) (hst : st = As.reverse ++ .ref q :: rest) (hrs : (rest.map fun v => v.category).sum ≤ 8) (hls : ls.size = nL) (hR : fr + 1 ≤ R.frames ∧ 8 + (maxL + 11) + lo ≤ R.locals) (hdg : decode cc pc = .ok (.invokespecial index, 3)) (hf : cells + mc ≤ R.cells ∧ slots + ms ≤ R.slots) :
    va_Run p l e R s m args below meth c H locs cells slots mc ms (F0 m pc ls st) rest (Qc (Value.ref q :: As).toArray) (fun q => bs ≤ q) := by
  obtain ⟨hx, hb, hml, hown, hts, -, -, hKT, -⟩ := B
  obtain ⟨V0, V1, V3, V2⟩ := V
  refine va_runIN (Ts := zWS) (own := own) (y := y) (ws := z_wy y bytes maxL none) (As := As) (rest := rest) (n := n) (host := host) ⟨hx, hb, hml, hown, hts⟩ hM ⟨va_cnB n hts (z_gw (V1 _ (by simp))) rfl rfl rfl (hKT.2.1 _ V0) (hts _ (V1 _ (by simp))) V2 hR, V3, hts _ (V1 _ (by simp))⟩ ⟨z_blind, fun U hU hWm => ⟨rfl, by rw [hU]; exact hW.1, hKT.warm hWm⟩⟩ rfl hn hls hst (lv_room (rest := st) hrs) hdg hf
/-! behind a call -/
theorem z_ci {r : Int32} {a : Array Value} (hW : z_Ok D cA bs s σ H locs) (hr : va_Run p l e R s m args below meth c H locs cells slots mc ms (F0 m pc ls st) rest (z_Qi D cA bs r σ' a) (fun q => bs ≤ q))
    (kk : ∀ (H : Heap) (locs : List Loc), z_Ok D cA bs s σ' H locs → W p l e R s m args below meth c H locs (cells + mc) (slots + ms) Q (F0 m (pc + 3) ls (.int r :: rest))) : W p l e R s m args below meth c H locs cells slots Q (F0 m pc ls st) :=
  va_calli hr hW.2 (fun _ _ h => h) (fun _ h => h) fun r' u t H1 locs1 ht hvm hp hb hz hk hS => by
    have e1 : r' = r := hp
    subst e1
    exact kk H1 locs1 ⟨by rw [← ht]; exact hb.1, hS⟩
theorem z_cl {r : Int64} {a : Array Value} (hW : z_Ok D cA bs s σ H locs) (hr : va_Run p l e R s m args below meth c H locs cells slots mc ms (F0 m pc ls st) rest (z_Ql D cA bs r σ' a) (fun q => bs ≤ q))
    (kk : ∀ (H : Heap) (locs : List Loc), z_Ok D cA bs s σ' H locs → W p l e R s m args below meth c H locs (cells + mc) (slots + ms) Q (F0 m (pc + 3) ls (.long r :: rest))) : W p l e R s m args below meth c H locs cells slots Q (F0 m pc ls st) :=
  va_calll hr hW.2 (fun _ _ h => h) (fun _ h => h) fun r' u t H1 locs1 ht hvm hp hb hz hk hS => by
    have e1 : r' = r := hp
    subst e1
    exact kk H1 locs1 ⟨by rw [← ht]; exact hb.1, hS⟩
theorem z_cd {r : UInt64} {a : Array Value} (hW : z_Ok D cA bs s σ H locs) (hr : va_Run p l e R s m args below meth c H locs cells slots mc ms (F0 m pc ls st) rest (z_Qd D cA bs r σ' a) (fun q => bs ≤ q))
    (kk : ∀ (H : Heap) (locs : List Loc), z_Ok D cA bs s σ' H locs → W p l e R s m args below meth c H locs (cells + mc) (slots + ms) Q (F0 m (pc + 3) ls (.double r :: rest))) : W p l e R s m args below meth c H locs cells slots Q (F0 m pc ls st) :=
  va_calld hr hW.2 (fun _ _ h => h) (fun _ h => h) fun r' u t H1 locs1 ht hvm hp hb hz hk hS => by
    have e1 : r' = r := hp
    subst e1
    exact kk H1 locs1 ⟨by rw [← ht]; exact hb.1, hS⟩
theorem z_cq {r : Option Nat} {a : Array Value} (hW : z_Ok D cA bs s σ H locs) (hr : va_Run p l e R s m args below meth c H locs cells slots mc ms (F0 m pc ls st) rest (z_Qq D cA bs r σ' a) (fun q => bs ≤ q))
    (kk : ∀ (H : Heap) (locs : List Loc), z_Ok D cA bs s σ' H locs → W p l e R s m args below meth c H locs (cells + mc) (slots + ms) Q (F0 m (pc + 3) ls (va_rf r :: rest))) : W p l e R s m args below meth c H locs cells slots Q (F0 m pc ls st) :=
  va_callq hr hW.2 (fun _ _ h => h) (fun _ h => h) fun r' u t H1 locs1 ht hvm hp hb hz hk hS => by
    have e1 : r' = r := hp
    subst e1
    exact kk H1 locs1 ⟨by rw [← ht]; exact hb.1, hS⟩
theorem z_cv {a : Array Value} (hW : z_Ok D cA bs s σ H locs) (hr : va_Run p l e R s m args below meth c H locs cells slots mc ms (F0 m pc ls st) rest (z_Qv D cA bs σ' a) (fun q => bs ≤ q))
    (kk : ∀ (H : Heap) (locs : List Loc), z_Ok D cA bs s σ' H locs → W p l e R s m args below meth c H locs (cells + mc) (slots + ms) Q (F0 m (pc + 3) ls rest)) : W p l e R s m args below meth c H locs cells slots Q (F0 m pc ls st) :=
  va_callv hr hW.2 (fun _ _ h => h) (fun _ h => h) fun u t H1 locs1 ht hvm hp hb hz hk hS => kk H1 locs1 ⟨by rw [← ht]; exact hb.1, hS⟩
/-! ends -/
theorem z_ri {r : Int32} (B : z_B p s m args meth c D cA bs own cc nL (some .int)) (hW : z_Ok D cA bs s σ H locs) (hdg : decode cc pc = .ok (.ireturn, 1)) (h1 : cells ≤ mc) (h2 : slots ≤ ms) :
    W p l e R s m args below meth c H locs cells slots (MQ below (z_Qi D cA bs r σ) args s mc ms (fun q => bs ≤ q)) (F0 m pc ls [.int r]) :=
  W.widen h1 h2 (W.iret B.1 B.2.1 B.2.2.2.2.2.1 (fun t ht hWm => ⟨⟨r, (), rfl, rfl, by rw [ht]; exact hW.1, B.2.2.2.2.2.2.2.1.warm hWm⟩, hW.2.F ht⟩) hW.2.2.2 hdg B.2.2.2.2.2.2.1)
theorem z_rz {r : Int32} (hr : z_bl r = true) (B : z_B p s m args meth c D cA bs own cc nL (some .boolean)) (hW : z_Ok D cA bs s σ H locs) (hdg : decode cc pc = .ok (.ireturn, 1)) (h1 : cells ≤ mc) (h2 : slots ≤ ms) :
    W p l e R s m args below meth c H locs cells slots (MQ below (z_Qi D cA bs r σ) args s mc ms (fun q => bs ≤ q)) (F0 m pc ls [.int r]) :=
  W.widen h1 h2 (W.zret B.1 B.2.1 B.2.2.2.2.2.1 (z_bln hr).1 (fun t ht hWm => ⟨⟨r, (), rfl, rfl, by rw [ht]; exact hW.1, B.2.2.2.2.2.2.2.1.warm hWm⟩, hW.2.F ht⟩) hW.2.2.2 hdg B.2.2.2.2.2.2.1)
theorem z_rl {r : Int64} (B : z_B p s m args meth c D cA bs own cc nL (some .long)) (hW : z_Ok D cA bs s σ H locs) (hdg : decode cc pc = .ok (.lreturn, 1)) (h1 : cells ≤ mc) (h2 : slots ≤ ms) :
    W p l e R s m args below meth c H locs cells slots (MQ below (z_Ql D cA bs r σ) args s mc ms (fun q => bs ≤ q)) (F0 m pc ls [.long r]) :=
  W.widen h1 h2 (W.lret B.1 B.2.1 B.2.2.2.2.2.1 (fun t ht hWm => ⟨⟨r, (), rfl, rfl, by rw [ht]; exact hW.1, B.2.2.2.2.2.2.2.1.warm hWm⟩, hW.2.F ht⟩) hW.2.2.2 hdg B.2.2.2.2.2.2.1)
theorem z_rd {r : UInt64} (B : z_B p s m args meth c D cA bs own cc nL (some .double)) (hW : z_Ok D cA bs s σ H locs) (hdg : decode cc pc = .ok (.dreturn, 1)) (h1 : cells ≤ mc) (h2 : slots ≤ ms) :
    W p l e R s m args below meth c H locs cells slots (MQ below (z_Qd D cA bs r σ) args s mc ms (fun q => bs ≤ q)) (F0 m pc ls [.double r]) :=
  W.widen h1 h2 (W.dret B.1 B.2.1 B.2.2.2.2.2.1 (fun t ht hWm => ⟨⟨r, (), rfl, rfl, by rw [ht]; exact hW.1, B.2.2.2.2.2.2.2.1.warm hWm⟩, hW.2.F ht⟩) hW.2.2.2 hdg B.2.2.2.2.2.2.1)
theorem z_rv (B : z_B p s m args meth c D cA bs own cc nL none) (hW : z_Ok D cA bs s σ H locs) (hdg : decode cc pc = .ok (.return_, 1)) (h1 : cells ≤ mc) (h2 : slots ≤ ms) :
    W p l e R s m args below meth c H locs cells slots (MQ below (z_Qv D cA bs σ) args s mc ms (fun q => bs ≤ q)) (F0 m pc ls []) :=
  W.widen h1 h2 (W.vret B.1 B.2.1 B.2.2.2.2.2.1 (fun t ht hWm => ⟨⟨(), rfl, trivial, by rw [ht]; exact hW.1, B.2.2.2.2.2.2.2.1.warm hWm⟩, hW.2.F ht⟩) hW.2.2.2 hdg B.2.2.2.2.2.2.1)
theorem z_rq {r : Option Nat} {C : String} (B : z_B p s m args meth c D cA bs own cc nL (some (.object C))) (hW : z_Ok D cA bs s σ H locs) (hdg : decode cc pc = .ok (.areturn, 1)) (h1 : cells ≤ mc) (h2 : slots ≤ ms) :
    W p l e R s m args below meth c H locs cells slots (MQ below (z_Qq D cA bs r σ) args s mc ms (fun q => bs ≤ q)) (F0 m pc ls [va_rf r]) :=
  W.widen h1 h2 (W.aret B.1 B.2.1 B.2.2.2.2.2.1 (Or.inl ⟨C, rfl⟩) (va_rf_or r) (fun t ht hWm => ⟨⟨r, (), rfl, rfl, by rw [ht]; exact hW.1, B.2.2.2.2.2.2.2.1.warm hWm⟩, hW.2.F ht⟩) hW.2.2.2 hdg B.2.2.2.2.2.2.1)
end CALLS
/-- a contract out of a body's walk -/
theorem z_met {l : Launch} {D : va_G} {cA : Nat → ClassId} {bs : Nat} {own : String} {y : MethodName} {cc : ByteArray} {nL : Nat} {ret : Option FieldType} {fr lo mc ms : Nat} {As : List Value} {σ : zSt} {Qc : Array Value → State → Outcome → State → Prop} {lv : List (Nat × Value)}
    (hy : plainName y.cls = true) (hyc : y.cls = own) (hl0 : (lg_sl As).length ≤ nL) (hlv : lv_args 0 As = lv)
    (body : ∀ (p : Program) (e : Env) (s : State) (m : MethodId) (below : List Frame) (meth : Method) (c : Code) (ls : Array Slot), z_B p s m As.toArray meth c D cA bs own cc nL ret → meth.name = y.name → z_Ok D cA bs s σ s.heap [] → lv_has ls nL lv →
      W p l e (zrm fr mc ms lo) s m As.toArray below meth c s.heap [] 0 0 (MQ below Qc As.toArray s mc ms (fun q => bs ≤ q)) (F0 m 0 ls [])) : z_M l D cA bs y cc nL ret fr lo mc ms As σ Qc := by
  refine Met.ofW (cc := cc) (maxL := nL) (ret := ret) hy rfl ?_
  intro p e s m args below meth c s₁ B hml hv
  obtain ⟨rfl, hWd, hKT⟩ := hv
  have hts := atoms_spec (ws := z_wy y cc nL ret) B.pre
  have hown : s.vm.findClass own = some m.cls := hyc ▸ findClass_of_methodNamed B.named
  have hsz : bs ≤ s.heap.size := by rw [hWd.1]; exact hWd.2.1
  rw [lg_entry_eq]
  exact body p e s m below meth c _ ⟨B.exec, B.bytes, hml, hown, fun w hw => hts w (List.mem_cons_of_mem _ hw), B.returns, B.notSynchronized, hKT, hsz⟩ (name_of_methodNamed B.named B.method).1 ⟨hWd, va_S.rf⟩ (by rw [← hlv]; exact lv_entry As hl0)
section ROWS4
variable {p : Program} {l : Launch} {e : Env} {R : Room} {s : State} {m : MethodId} {args : Array Value} {below : List Frame} {meth : Method} {c : Code} {H : Heap} {locs : List Loc} {cells slots : Nat} {Q : State → Prop}
variable {cc : ByteArray} {pc : Nat} {ls : Array Slot} {rest : List Value}
theorem z_aload_n (hexec : p.tables.exec = Jvm.exec) (hb : c.code = cc) {k : Fin 4} {i : Nat} {x : Option Nat} (hdg : decode cc pc = .ok (.aload_n k, 1)) (hi : (k : Nat) = i) (hl : ls[i]? = some (.val (va_rf x)))
    (kk : W p l e R s m args below meth c H locs cells slots Q (F0 m (pc + 1) ls (va_rf x :: rest))) : W p l e R s m args below meth c H locs cells slots Q (F0 m pc ls rest) := by
  cases x with
  | none => exact lv_aload_nN hexec hb hdg hi hl kk
  | some a => exact lv_aload_n hexec hb hdg hi hl kk
theorem z_aload (hexec : p.tables.exec = Jvm.exec) (hb : c.code = cc) {i : Nat} {x : Option Nat} (hdg : decode cc pc = .ok (.aload i, 2)) (hl : ls[i]? = some (.val (va_rf x)))
    (kk : W p l e R s m args below meth c H locs cells slots Q (F0 m (pc + 2) ls (va_rf x :: rest))) : W p l e R s m args below meth c H locs cells slots Q (F0 m pc ls rest) := by
  cases x with
  | none => exact lv_aloadN hexec hb hdg hl kk
  | some a => exact lv_aload hexec hb hdg hl kk
theorem z_astore_n (hexec : p.tables.exec = Jvm.exec) (hb : c.code = cc) {k : Fin 4} {i nL : Nat} {x : Option Nat} {lv lv' : List (Nat × Value)} (hdg : decode cc pc = .ok (.astore_n k, 1)) (hi : (k : Nat) = i) (h : lv_has ls nL lv) (hn : i < nL) (hl : (i, va_rf x) :: lv.filter (fun q => !(q.1 == i) && !(q.1 + 1 == i && q.2.category == 2)) = lv')
    (kk : ∀ ls' : Array Slot, lv_has ls' nL lv' → W p l e R s m args below meth c H locs cells slots Q (F0 m (pc + 1) ls' rest)) : W p l e R s m args below meth c H locs cells slots Q (F0 m pc ls (va_rf x :: rest)) := by
  cases x with
  | none => exact lv_astore_nN hexec hb hdg hi h hn hl kk
  | some a => exact lv_astore_n hexec hb hdg hi h hn hl kk
theorem z_astore (hexec : p.tables.exec = Jvm.exec) (hb : c.code = cc) {i nL : Nat} {x : Option Nat} {lv lv' : List (Nat × Value)} (hdg : decode cc pc = .ok (.astore i, 2)) (h : lv_has ls nL lv) (hn : i < nL) (hl : (i, va_rf x) :: lv.filter (fun q => !(q.1 == i) && !(q.1 + 1 == i && q.2.category == 2)) = lv')
    (kk : ∀ ls' : Array Slot, lv_has ls' nL lv' → W p l e R s m args below meth c H locs cells slots Q (F0 m (pc + 2) ls' rest)) : W p l e R s m args below meth c H locs cells slots Q (F0 m pc ls (va_rf x :: rest)) := by
  cases x with
  | none => exact lv_astoreN hexec hb hdg h hn hl kk
  | some a => exact lv_astore hexec hb hdg h hn hl kk
theorem z_ifnull (hexec : p.tables.exec = Jvm.exec) (hb : c.code = cc) {r : Option Nat} {off : Int} {tgt : Nat} (hdg : decode cc pc = .ok (.ifnull off, 3)) (ht : (pc : Int) + off = (tgt : Int))
    (k0 : r = none → W p l e R s m args below meth c H locs cells slots Q (F0 m tgt ls rest)) (k1 : ∀ a, r = some a → W p l e R s m args below meth c H locs cells slots Q (F0 m (pc + 3) ls rest)) : W p l e R s m args below meth c H locs cells slots Q (F0 m pc ls (va_rf r :: rest)) := by
  cases r with
  | none => exact lv_ifnullN hexec hb hdg ht (k0 rfl)
  | some a => exact lv_ifnull hexec hb hdg (k1 a rfl)
theorem z_ifnonnull (hexec : p.tables.exec = Jvm.exec) (hb : c.code = cc) {r : Option Nat} {off : Int} {tgt : Nat} (hdg : decode cc pc = .ok (.ifnonnull off, 3)) (ht : (pc : Int) + off = (tgt : Int))
    (k0 : r = none → W p l e R s m args below meth c H locs cells slots Q (F0 m (pc + 3) ls rest)) (k1 : ∀ a, r = some a → W p l e R s m args below meth c H locs cells slots Q (F0 m tgt ls rest)) : W p l e R s m args below meth c H locs cells slots Q (F0 m pc ls (va_rf r :: rest)) := by
  cases r with
  | none => exact lv_ifnonnullN hexec hb hdg (k0 rfl)
  | some a => exact lv_ifnonnull hexec hb hdg ht (k1 a rfl)
end ROWS4
