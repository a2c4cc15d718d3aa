/-! THE CLAIM OUT OF ONE WALK OF THE LAW'S BODY. Your part is whole_start (and what it stands on); all else here is the same for every law, but numbers. -/
def R_law : String := "TokenBusLaw"
def lw_P (b : Addr) (xs : List Int32) (args : Array Value) (s : State) : Prop := args = #[.ref b] ∧ s.IntsAt b xs ∧ xs.length ≤ 2048 ∧ (Jvm.Cond.and given_1 narrow_1).before args s = true
/-- what a walk over the start with the record d0 says of its end, said of the start itself -/
theorem lw_closed {s t : State} {o : Outcome} {d0 : Drawn} {L : List Loc} {k n : Nat} (hd0 : s.drawn.sameBut d0 lw_cs) (hv : ∃ v, o = .returned v) (hW : (s.setDrawn d0).WarmedH t.vm) (hs : (s.setDrawn d0).sameButNew ({ t with vm := s.vm } : State) L k n) : State.butDraws s t lw_cs (fun t1 => Framed s o t1 L k n) := by
  have h2 : t.drawn = d0 := congrArg State.drawn hs.1
  refine ⟨⟨hv, hW, State.sameButNew.setDrawn hs s.drawn⟩, ?_, by decide⟩
  rw [h2]
  exact hd0
def lw_Q (_ : Array Value) (s : State) (o : Outcome) (t : State) : Prop := o = .returned (some (.int 1)) ∧ State.butDraws s t lw_cs (fun t1 => Framed s o t1 [] 601024 7293034)
def lw_Z (below : List Frame) (a : Array Value) (s : State) : State → Prop := fun t => ∃ o, t.status = .running ∧ Ended t below o ∧ lw_Q a s o t
/-- the law's own end, with 1 on the stack, nothing written that was there before, its room as the claim has it; d0: the record of draws at this point (at the entry s.drawn: begin with 'refine W.base ?_' and 'have hd0 := Drawn.sameBut.refl s.drawn lw_cs') -/
theorem lw_ret {p : Program} {l : Launch} {e : Env} {s : State} {m : MethodId} {below : List Frame} {meth : Method} {c : Code} {b : Nat} {d0 : Drawn} (hd0 : s.drawn.sameBut d0 lw_cs) (hx : p.tables.exec = Jvm.exec) (hb : c.code = code) (hr : meth.sig.returnType = ret) (hlocks : meth.locks = false) {pc : Nat} {H : Heap} {ls : Array Slot} (hdg : decode code pc = .ok (.ireturn, 1)) : W p l e room_1 (s.setDrawn d0) m #[Value.ref b] below meth c H [] 601024 7293034 (lw_Z below #[Value.ref b] s) (F0 m pc ls [.int 1]) := by
  intro T hT X
  obtain ⟨fs, hret, hrun, hended, hW, hframe⟩ := X.leave (v := some (.int 1)) (hlocks := hlocks) (fun h => by rw [hr] at h; cases h)
  have hmeth' : T.vm.method? m = some meth := X.method'
  refine ⟨T.setFrames fs, ?_, .returned (some (.int 1)), hrun, hended, rfl, lw_closed hd0 ⟨_, rfl⟩ hW hframe⟩
  jvm_step X.here [X.here.top, hx, hb, hdg, hmeth', hr, ret, narrow_b1]
  (try refine ⟨rfl, ?_⟩); (try refine ⟨rfl, ?_⟩)
  first | (intro acts; rw [hret _ acts rfl rfl rfl]) | rw [hret _ _ rfl rfl rfl]
  exact Steps.refl _
/-- what holds at the law's entry: the machine, the code, the tables' words (any of lw_tbl by 'hts w (by decide +kernel)'), the script of L ints xs at the cell b, what the Statement gives of the start (any of its parts by flat_of_before) -/
def lw_At (p : Program) (s : State) (m : MethodId) (meth : Method) (c : Code) (b L : Nat) (xs : Nat → Int32) : Prop :=
  p.tables.exec = Jvm.exec ∧ c.code = code ∧ meth.sig.returnType = ret ∧ c.maxLocals = 9 ∧ s.vm.findClass R_law = some m.cls ∧ (∀ w ∈ lw_tbl, w.before #[Value.ref b] s = true) ∧ va_X b L xs s s.heap ∧ b < s.heap.size ∧ meth.locks = false ∧ (Jvm.Cond.and given_1 narrow_1).before #[Value.ref b] s = true
/-! methods with handlers, the law's own rows -/
def zx {β : Type} (x : Nat ⊕ Int32) (A : Nat → Option β) (B : Int32 → Option β) : Option β := match x with
  | .inl k => A k
  | .inr v => B v
theorem z_x0 {β : Type} {k : Nat} {A : Nat → Option β} {B : Int32 → Option β} {r : β} (h : zx (.inl k) A B = some r) : A k = some r := h
theorem z_x1 {β : Type} {v : Int32} {A : Nat → Option β} {B : Int32 → Option β} {r : β} (h : zx (.inr v) A B = some r) : B v = some r := h
def z_wyW (y : MethodName) (cc : ByteArray) (nL : Nat) (ret : Option FieldType) (hh : List (Nat × Nat × Nat × Nat)) : List Cond := Cond.codeWith y cc nL ret hh :: zWS
def z_MW (l : Launch) (D : va_G) (cA : Nat → ClassId) (bs : Nat) (y : MethodName) (cc : ByteArray) (nL : Nat) (ret : Option FieldType) (hh : List (Nat × Nat × Nat × Nat)) (fr lo mc ms : Nat) (As : List Value) (σ : zSt) (r : Int32) (σ' : zSt) : Prop :=
  Met l y (z_wyW y cc nL ret hh) (zrm fr mc ms lo) (va_Pc As (fun U => z_Pc D cA bs σ U ∧ z_X bs U)) (z_Qi D cA bs r σ') mc ms (fun q => bs ≤ q)
def z_SW (own : String) (index : Nat) (y : MethodName) (cc : ByteArray) (nL : Nat) (ret : Option FieldType) (hh : List (Nat × Nat × Nat × Nat)) (n : Nat) : Prop :=
  (∀ w ∈ ([.methodLink own index y, .static y, .initialized y.cls, .codeWith y cc nL ret hh] : List Cond), w ∈ zWS) ∧ y.cls ≠ "java/lang/invoke/MethodHandle" ∧ y.cls ≠ "java/lang/invoke/VarHandle" ∧ (parseMethodDescriptor y.desc).map (fun d => d.parameters.length) = some n
/-- the law's script and its heap -/
def z_L (s : State) (bs b L : Nat) (xs : Nat → Int32) : Prop := va_X b L xs s s.heap ∧ b < s.heap.size ∧ bs = s.heap.size
def z_lim (i : Int32) : Bool := decide (i.toNatClampNeg ≤ 2048)
theorem z_lim_k {k : Nat} {i : Int32} (h : i = nI (4 * k)) (hk : k ≤ 513) (hl : z_lim i = true) : k ≤ 512 := by
  simp only [z_lim, decide_eq_true_eq] at hl
  rw [h, nI_clamp (by omega)] at hl
  omega
theorem z_lim_4 {k : Nat} {i : Int32} (h : i = nI (4 * k)) : i + (4 : Int32) = nI (4 * (k + 1)) := by
  rw [h, show 4 * (k + 1) = 4 * k + 1 + 1 + 1 + 1 by omega, nI_succ, nI_succ, nI_succ, nI_succ, Int32.add_assoc, Int32.add_assoc, Int32.add_assoc]
  rfl
section LAWROWS
variable {p : Program} {l : Launch} {e : Env} {R : Room} {s : State} {m : MethodId} {args : Array Value} {below : List Frame} {meth : Method} {c : Code} {H : Heap} {locs : List Loc} {cells slots : Nat} {Q : State → Prop}
variable {D : va_G} {cA : Nat → ClassId} {bs : Nat} {own : String} {cc : ByteArray} {nL : Nat} {ret : Option FieldType} {σ σ' : zSt} {pc : Nat} {ls : Array Slot} {rest st As : List Value} {q ci k index n : Nat}
variable {y : MethodName} {bytes : ByteArray} {maxL fr lo mc ms : Nat} {ret1 : Option FieldType} {C host : String} {out : (Nat ⊕ Int32) × zSt} {hh : List (Nat × Nat × Nat × Nat)} {r : Int32} {b L : Nat} {xs : Nat → Int32}
theorem z_blindX : FrameBlind (va_Pc As (fun U => z_Pc D cA bs σ U ∧ z_X bs U)) := fun a U g mk h => ⟨h.1, ⟨h.2.1.1, z_KT.same (s := U) (U := U.calling g mk a) rfl h.2.1.2⟩, z_X.same (s := U) (U := U.calling g mk a) rfl rfl h.2.2⟩
theorem z_runX (B : z_B p s m args meth c D cA bs own cc nL ret) (hX : z_X bs s) (hW : z_Ok D cA bs s σ H locs) (V : z_V own index C y bytes maxL ret1 n) (hM : z_MX l D cA bs y bytes maxL ret1 fr lo mc ms (.ref q :: As) σ out) (ho : z_ob σ q ci = true) (hci : (vwCl[ci]?).map (fun r => r.1) = some C)
    (hn : As.length = n) (hst : st = As.reverse ++ .ref q :: rest) (hrs : (rest.map fun v => v.category).sum ≤ 8) (hls : ls.size = nL) (hR : fr + 1 ≤ R.frames ∧ 8 + (maxL + 11) + lo ≤ R.locals) (hdg : decode cc pc = .ok (.invokevirtual index, 3)) (hf : cells + mc ≤ R.cells ∧ slots + ms ≤ R.slots) :
    vx_Run p l e R s m args below meth c H locs cells slots mc ms (F0 m pc ls st) rest (z_QX D cA bs out (Value.ref q :: As).toArray) (z_XX D cA bs out) (fun q => bs ≤ q) := by
  obtain ⟨hx, hb, hml, hown, hts, -, -, hKT, -⟩ := B
  have hsh := z_ob_sh ho
  obtain ⟨r, hcl, cellB, g1, g2, g3, -⟩ := (hW.1.2.2 q _ hsh).2
  have hC : r.1 = C := by rw [hcl] at hci; exact Option.some.inj hci
  refine vx_runV (Ts := zWS) (own := own) (C := C) (y := y) (ws := z_wy y bytes maxL ret1) (As := As) (rest := rest) (n := n) ⟨hx, hb, hml, hown, hts⟩ hM (cwV n hts (fun w hw => ?_) rfl rfl rfl V.2 hR) ⟨z_blindX, ⟨cellB, g1, by rw [g3]; rfl, by rw [g2, ← hC]; exact (hKT.1.1 ci _ hcl).2.1⟩, fun U hU hWm => ⟨rfl, ⟨by rw [hU]; exact hW.1, hKT.warm hWm⟩, hX.at hW.2 hU hWm⟩⟩ rfl hn hls hst (lv_room (rest := st) hrs) hdg hf
  unfold wsV at hw
  rcases List.mem_append.mp hw with hw | hw
  · exact z_gi V.1 w (by unfold wsV; exact List.mem_append_left _ hw)
  · exact z_gw (V.1 _ (by unfold wsV; exact List.mem_append_right _ List.mem_cons_self)) w hw
theorem z_xci {a : Array Value} (hW : z_Ok D cA bs s σ H locs) (hr : vx_Run p l e R s m args below meth c H locs cells slots mc ms (F0 m pc ls st) rest (z_QX D cA bs out a) (z_XX D cA bs out) (fun q => bs ≤ q))
    (kx : ∀ (k : Nat) (ce : Cell) (q9 : Nat) (H : Heap) (locs : List Loc), out.1 = .inl k → z_Ok D cA bs s out.2 H locs → H[q9]? = some ce → ce.vm = .none → s.vm.findClass (z_exn k) = some ce.cls → vx_W p l e R s m args below meth c H locs (cells + mc) (slots + ms) Q (F0 m pc ls rest) q9)
    (kk : ∀ (r : Int32) (H : Heap) (locs : List Loc), out.1 = .inr r → z_Ok D cA bs s out.2 H locs → W p l e R s m args below meth c H locs (cells + mc) (slots + ms) Q (F0 m (pc + 3) ls (.int r :: rest))) : W p l e R s m args below meth c H locs cells slots Q (F0 m pc ls st) :=
  vx_calli hr hW.2 (fun _ _ h => h) (fun _ h => h) (fun _ _ h => h)
    (fun E ce q9 u t H1 locs1 ht hvm hp hb hz hk hS hc1 hc2 hc3 => by
      obtain ⟨⟨k, e1, e2⟩, hWd⟩ := hb
      subst e2
      exact kx k ce q9 H1 locs1 e1 ⟨by rw [← ht]; exact hWd, hS⟩ hc1 hc2 hc3)
    (fun r u t H1 locs1 ht hvm hp hb hz hk hS => kk r H1 locs1 hp ⟨by rw [← ht]; exact hb.1, hS⟩)
theorem z_runSW (B : z_B p s m args meth c D cA bs own cc nL ret) (hX : z_X bs s) (hW : z_Ok D cA bs s σ H locs) (V : z_SW own index y bytes maxL ret1 hh n) (hM : z_MW l D cA bs y bytes maxL ret1 hh fr lo mc ms As σ r σ')
    (hn : As.length = n) (hst : st = As.reverse ++ rest) (hrs : (rest.map fun v => v.category).sum ≤ 8) (hls : ls.size = nL) (hR : fr + 1 ≤ R.frames ∧ 8 + (maxL + 11) + lo ≤ R.locals) (hdg : decode cc pc = .ok (.invokestatic index, 3)) (hf : cells + mc ≤ R.cells ∧ slots + ms ≤ R.slots) :
    va_Run p l e R s m args below meth c H locs cells slots mc ms (F0 m pc ls st) rest (z_Qi D cA bs r σ' As.toArray) (fun q => bs ≤ q) := by
  obtain ⟨hx, hb, hml, hown, hts, -, -, hKT, -⟩ := B
  obtain ⟨V1, V2⟩ := V
  have hg : GoodIn zWS (z_wyW y bytes maxL ret1 hh) := z_gi fun w hw => (List.mem_cons.mp hw).elim (fun e => by rw [e]; exact V1 _ (by simp)) id
  have hc : Cond.codeWith y bytes maxL ret1 hh ∈ z_wyW y bytes maxL ret1 hh := List.mem_cons_self
  refine vx_runSW (Ts := zWS) (own := own) (y := y) (ws := z_wyW y bytes maxL ret1 hh) (hh := hh) (As := As) (rest := rest) (n := n) ⟨hx, hb, hml, hown, hts⟩ hM ⟨⟨rfl, rfl, hR.1, hR.2, pay_in hts hg, hc⟩, hts _ (V1 _ (by simp)), hts _ (V1 _ (by simp)), ⟨V2.1, V2.2.1⟩, fun sig h => ?_, hts _ (V1 _ (by simp)), hts _ (V1 _ (by simp))⟩ ⟨z_blindX, fun U hU hWm => ⟨rfl, ⟨by rw [hU]; exact hW.1, hKT.warm hWm⟩, hX.at hW.2 hU hWm⟩⟩ rfl hn hls hst (lv_room (rest := st) hrs) hdg hf
  have h2 := V2.2.2
  rw [h] at h2
  exact (Option.some.inj h2).symm
theorem z_sld (B : z_B p s m args meth c D cA bs own cc nL ret) (hW : z_Ok D cA bs s σ H locs) (HL : z_L s bs b L xs) {i : Int32} (hi : z_ix i L = true) (hdg : decode cc pc = .ok (.iaload, 1))
    (kk : W p l e R s m args below meth c H locs cells slots Q (F0 m (pc + 1) ls (.int (xs i.toNatClampNeg) :: rest))) : W p l e R s m args below meth c H locs cells slots Q (F0 m pc ls (.int i :: .ref b :: rest)) :=
  va_sld (A := fun q => bs ≤ q) B.1 B.2.1 HL.1 HL.2.1 (fun h => absurd h (by have h1 := HL.2.1; have h2 := HL.2.2; show ¬ bs ≤ b; omega)) hW.2 (z_ix_in hi) hdg kk
theorem z_slen (B : z_B p s m args meth c D cA bs own cc nL ret) (hW : z_Ok D cA bs s σ H locs) (HL : z_L s bs b L xs) (hdg : decode cc pc = .ok (.arraylength, 1))
    (kk : W p l e R s m args below meth c H locs cells slots Q (F0 m (pc + 1) ls (.int (Int32.ofNat L) :: rest))) : W p l e R s m args below meth c H locs cells slots Q (F0 m pc ls (.ref b :: rest)) :=
  va_slen (A := fun q => bs ≤ q) B.1 B.2.1 HL.1 HL.2.1 (fun h => absurd h (by have h1 := HL.2.1; have h2 := HL.2.2; show ¬ bs ≤ b; omega)) hW.2 hdg kk
end LAWROWS
/-- the law's end -/
theorem z_rlaw {p : Program} {l : Launch} {e : Env} {s : State} {m : MethodId} {below : List Frame} {meth : Method} {c : Code} {H : Heap} {locs : List Loc} {cells slots : Nat} {D : va_G} {cA : Nat → ClassId} {bs : Nat} {σ : zSt} {pc : Nat} {ls : Array Slot} {b L : Nat} {xs : Nat → Int32}
    (B : z_B p s m #[Value.ref b] meth c D cA bs RL cL_law 9 ret) (hW : z_Ok D cA bs s σ H locs) (HL : z_L s bs b L xs) (hdg : decode code pc = .ok (.ireturn, 1)) (h1 : cells ≤ 601024) (h2 : slots ≤ 7293034) :
    W p l e room_1 s m #[Value.ref b] below meth c H locs cells slots (lw_Z below #[Value.ref b] s) (F0 m pc ls [.int (1 : Int32)]) := by
  refine va_forget (fun q hq => by rw [← HL.2.2]; exact hW.2.2.2 q hq) ?_
  refine W.widen h1 h2 ?_
  refine W.base ?_
  exact lw_ret (Drawn.sameBut.refl s.drawn lw_cs) B.1 B.2.1 B.2.2.2.2.2.1 B.2.2.2.2.2.2.1 hdg
/-- the contract of a method with handlers, out of its body's walk -/
theorem z_metW {l : Launch} {D : va_G} {cA : Nat → ClassId} {bs : Nat} {own : String} {y : MethodName} {cc : ByteArray} {nL : Nat} {ret : Option FieldType} {hh : List (Nat × Nat × Nat × Nat)} {fr lo mc ms : Nat} {As : List Value} {σ : zSt} {r : Int32} {σ' : zSt} {lv : List (Nat × Value)}
    (hy : plainName y.cls = true) (hyc : y.cls = own) (hl0 : (lg_sl As).length ≤ nL) (hlv : lv_args 0 As = lv)
    (body : ∀ (p : Program) (e : Env) (s : State) (m : MethodId) (below : List Frame) (meth : Method) (c : Code) (ls : Array Slot), z_B p s m As.toArray meth c D cA bs own cc nL ret → z_X bs s → c.exceptionTable.toList = tableOf hh → z_Ok D cA bs s σ s.heap [] → lv_has ls nL lv →
      W p l e (zrm fr mc ms lo) s m As.toArray below meth c s.heap [] 0 0 (MQ below (z_Qi D cA bs r σ') As.toArray s mc ms (fun q => bs ≤ q)) (F0 m 0 ls [])) : z_MW l D cA bs y cc nL ret hh fr lo mc ms As σ r σ' := by
  refine va_MetW (cc := cc) (maxL := nL) (ret := ret) (hh := hh) hy rfl ?_
  intro p e s m args below meth c s₁ B hml hv
  obtain ⟨rfl, ⟨hWd, hKT⟩, hX⟩ := hv
  have hts := atoms_spec (ws := z_wyW y cc nL ret hh) B.pre
  have hown : s.vm.findClass own = some m.cls := hyc ▸ findClass_of_methodNamed B.named
  have hsz : bs ≤ s.heap.size := by rw [hWd.1]; exact hWd.2.1
  have htab := vx_table (x := y) B (hts (Cond.codeWith y cc nL ret hh) List.mem_cons_self)
  rw [lg_entry_eq]
  exact body p e s m below meth c _ ⟨B.exec, B.bytes, hml, hown, fun w hw => hts w (List.mem_cons_of_mem _ hw), B.returns, B.notSynchronized, hKT, hsz⟩ hX htab ⟨hWd, va_S.rf⟩ (by rw [← hlv]; exact lv_entry As hl0)
