/-! THE CLAIM OUT OF ONE WALK OF THE LAW'S BODY. Your part is whole_start (and what it stands on); all else here is the same for every law, but numbers. -/
def R_law : String := "TokenBusLaw"
def lw_P (b : Addr) (xs : List Int32) (args : Array Value) (s : State) : Prop := args = #[.ref b] ∧ s.IntsAt b xs ∧ xs.length ≤ 260 ∧ (Jvm.Cond.and given_1 narrow_1).before args s = true
/-- what a walk over the start with the record d0 says of its end, said of the start itself -/
theorem lw_closed {s t : State} {o : Outcome} {d0 : Drawn} {L : List Loc} {k n : Nat} (hd0 : s.drawn.sameBut d0 lw_cs) (hv : ∃ v, o = .returned v) (hW : (s.setDrawn d0).WarmedH t.vm) (hs : (s.setDrawn d0).sameButNew ({ t with vm := s.vm } : State) L k n) : State.butDraws s t lw_cs (fun t1 => Framed s o t1 L k n) := by
  have h2 : t.drawn = d0 := congrArg State.drawn hs.1
  refine ⟨⟨hv, hW, State.sameButNew.setDrawn hs s.drawn⟩, ?_, by decide⟩
  rw [h2]
  exact hd0
def lw_Q (_ : Array Value) (s : State) (o : Outcome) (t : State) : Prop := o = .returned (some (.int 1)) ∧ State.butDraws s t lw_cs (fun t1 => Framed s o t1 [] 600130 7301080)
def lw_Z (below : List Frame) (a : Array Value) (s : State) : State → Prop := fun t => ∃ o, t.status = .running ∧ Ended t below o ∧ lw_Q a s o t
/-- the law's own end, with 1 on the stack, nothing written that was there before, its room as the claim has it; d0: the record of draws at this point (at the entry s.drawn: begin with 'refine W.base ?_' and 'have hd0 := Drawn.sameBut.refl s.drawn lw_cs') -/
theorem lw_ret {p : Program} {l : Launch} {e : Env} {s : State} {m : MethodId} {below : List Frame} {meth : Method} {c : Code} {b : Nat} {d0 : Drawn} (hd0 : s.drawn.sameBut d0 lw_cs) (hx : p.tables.exec = Jvm.exec) (hb : c.code = code) (hr : meth.sig.returnType = ret) (hlocks : meth.locks = false) {pc : Nat} {H : Heap} {ls : Array Slot} (hdg : decode code pc = .ok (.ireturn, 1)) : W p l e room_1 (s.setDrawn d0) m #[Value.ref b] below meth c H [] 600130 7301080 (lw_Z below #[Value.ref b] s) (F0 m pc ls [.int 1]) := by
  intro T hT X
  obtain ⟨fs, hret, hrun, hended, hW, hframe⟩ := X.leave (v := some (.int 1)) (hlocks := hlocks) (fun h => by rw [hr] at h; cases h)
  have hmeth' : T.vm.method? m = some meth := X.method'
  refine ⟨T.setFrames fs, ?_, .returned (some (.int 1)), hrun, hended, rfl, lw_closed hd0 ⟨_, rfl⟩ hW hframe⟩
  jvm_step X.here [X.here.top, hx, hb, hdg, hmeth', hr, ret, narrow_b1]
  (try refine ⟨rfl, ?_⟩); (try refine ⟨rfl, ?_⟩)
  first | (intro acts; rw [hret _ acts rfl rfl rfl]) | rw [hret _ _ rfl rfl rfl]
  exact Steps.refl _
/-- what holds at the law's entry: the machine, the code, the tables' words (any of lw_tbl by 'hts w (by decide +kernel)'), the script of L ints xs at the cell b, what the Statement gives of the start (any of its parts by flat_of_before) -/
def lw_At (p : Program) (s : State) (m : MethodId) (meth : Method) (c : Code) (b L : Nat) (xs : Nat → Int32) : Prop :=
  p.tables.exec = Jvm.exec ∧ c.code = code ∧ meth.sig.returnType = ret ∧ c.maxLocals = 8 ∧ s.vm.findClass R_law = some m.cls ∧ (∀ w ∈ lw_tbl, w.before #[Value.ref b] s = true) ∧ va_X b L xs s s.heap ∧ b < s.heap.size ∧ meth.locks = false ∧ (Jvm.Cond.and given_1 narrow_1).before #[Value.ref b] s = true
/-- the script at a state: the array at b, which isn't ours -/
def z_L (s : State) (bs b L : Nat) (xs : Nat → Int32) : Prop := va_X b L xs s s.heap ∧ b < bs ∧ bs ≤ s.heap.size
/-- the contract of a method that reads the script -/
def z_ML (l : Launch) (D : va_G) (cA : Nat → ClassId) (bs : Nat) (y : MethodName) (cc : ByteArray) (nL : Nat) (ret : Option FieldType) (fr lo mc ms : Nat) (As : List Value) (σ : zSt) (Qc : Array Value → State → Outcome → State → Prop) (b L : Nat) (xs : Nat → Int32) : Prop :=
  Met l y (z_wy y cc nL ret) (zrm fr mc ms lo) (va_Pc As (fun U => z_Pc D cA bs σ U ∧ va_X b L xs U U.heap ∧ b < bs)) Qc mc ms (fun q => bs ≤ q)
section LAWROWS
variable {p : Program} {l : Launch} {e : Env} {R : Room} {s : State} {m : MethodId} {args : Array Value} {below : List Frame} {meth : Method} {c : Code} {H : Heap} {locs : List Loc} {cells slots : Nat} {Q : State → Prop}
variable {D : va_G} {cA : Nat → ClassId} {bs : Nat} {own : String} {cc : ByteArray} {nL : Nat} {ret : Option FieldType} {σ σ' : zSt} {pc : Nat} {ls : Array Slot} {rest st As : List Value} {q ci k index n : Nat}
variable {y : MethodName} {bytes : ByteArray} {maxL fr lo mc ms : Nat} {ret1 : Option FieldType} {C host : String} {Qc : Array Value → State → Outcome → State → Prop} {r : Int32} {b L : Nat} {xs : Nat → Int32}
theorem z_blindL : FrameBlind (va_Pc As (fun U => z_Pc D cA bs σ U ∧ va_X b L xs U U.heap ∧ b < bs)) := fun a U g mk h => ⟨h.1, ⟨h.2.1.1, z_KT.same (s := U) (U := U.calling g mk a) rfl h.2.1.2⟩, va_X.moved (u := U) (U := U.calling g mk a) (Vm.Alike.refl _) h.2.2.1, h.2.2.2⟩
theorem z_runSL (B : z_B p s m args meth c D cA bs own cc nL ret) (hW : z_Ok D cA bs s σ H locs) (HL : z_L s bs b L xs) (V : z_SS own index y bytes maxL ret1 n) (hM : z_ML l D cA bs y bytes maxL ret1 fr lo mc ms As σ Qc b L xs)
    (hn : As.length = n) (hst : st = As.reverse ++ rest) (hrs : (rest.map fun v => v.category).sum ≤ 8) (hls : ls.size = nL) (hR : fr + 1 ≤ R.frames ∧ 8 + (maxL + 11) + lo ≤ R.locals) (hdg : decode cc pc = .ok (.invokestatic index, 3)) (hf : cells + mc ≤ R.cells ∧ slots + ms ≤ R.slots) :
    va_Run p l e R s m args below meth c H locs cells slots mc ms (F0 m pc ls st) rest (Qc As.toArray) (fun q => bs ≤ q) := by
  obtain ⟨hx, hb, hml, hown, hts, -, -, hKT, -⟩ := B
  obtain ⟨V1, V2⟩ := V
  have hX : va_X b L xs s H := HL.1.kept (hW.2.2.1 b (Nat.lt_of_lt_of_le HL.2.1 HL.2.2) (Nat.not_le.mpr HL.2.1))
  refine va_runS (Ts := zWS) (own := own) (y := y) (ws := z_wy y bytes maxL ret1) (As := As) (rest := rest) (n := n) ⟨hx, hb, hml, hown, hts⟩ hM ⟨callB_of n hts (z_gw (V1 _ (by simp))) rfl rfl rfl (hts _ (V1 _ (by simp))) (hts _ (V1 _ (by simp))) V2 hR, hts _ (V1 _ (by simp))⟩ ⟨z_blindL, fun U hU hWm => ⟨rfl, ⟨by rw [hU]; exact hW.1, hKT.warm hWm⟩, by rw [hU]; exact va_X.moved hWm.alike hX, HL.2.1⟩⟩ rfl hn hls hst (lv_room (rest := st) hrs) hdg hf
theorem z_sld (B : z_B p s m args meth c D cA bs own cc nL ret) (hW : z_Ok D cA bs s σ H locs) (HL : z_L s bs b L xs) {i : Int32} (hi : z_ix i L = true) (hdg : decode cc pc = .ok (.iaload, 1))
    (kk : W p l e R s m args below meth c H locs cells slots Q (F0 m (pc + 1) ls (.int (xs i.toNatClampNeg) :: rest))) : W p l e R s m args below meth c H locs cells slots Q (F0 m pc ls (.int i :: .ref b :: rest)) :=
  va_sld (A := fun q => bs ≤ q) B.1 B.2.1 HL.1 (Nat.lt_of_lt_of_le HL.2.1 HL.2.2) (Nat.not_le.mpr HL.2.1) hW.2 (z_ix_in hi) hdg kk
theorem z_slen (B : z_B p s m args meth c D cA bs own cc nL ret) (hW : z_Ok D cA bs s σ H locs) (HL : z_L s bs b L xs) (hdg : decode cc pc = .ok (.arraylength, 1))
    (kk : W p l e R s m args below meth c H locs cells slots Q (F0 m (pc + 1) ls (.int (Int32.ofNat L) :: rest))) : W p l e R s m args below meth c H locs cells slots Q (F0 m pc ls (.ref b :: rest)) :=
  va_slen (A := fun q => bs ≤ q) B.1 B.2.1 HL.1 (Nat.lt_of_lt_of_le HL.2.1 HL.2.2) (Nat.not_le.mpr HL.2.1) hW.2 hdg kk
end LAWROWS
/-- the law's end -/
theorem z_rlaw {p : Program} {l : Launch} {e : Env} {s : State} {m : MethodId} {below : List Frame} {meth : Method} {c : Code} {H : Heap} {locs : List Loc} {cells slots : Nat} {D : va_G} {cA : Nat → ClassId} {bs : Nat} {σ : zSt} {pc : Nat} {ls : Array Slot} {b L : Nat} {xs : Nat → Int32}
    (B : z_B p s m #[Value.ref b] meth c D cA bs RL cL_law maxLocals ret) (hW : z_Ok D cA bs s σ H locs) (_ : z_L s bs b L xs) (hbs : bs = s.heap.size) (hdg : decode code pc = .ok (.ireturn, 1)) (h1 : cells ≤ 600130) (h2 : slots ≤ 7301080) :
    W p l e room_1 s m #[Value.ref b] below meth c H locs cells slots (lw_Z below #[Value.ref b] s) (F0 m pc ls [.int (1 : Int32)]) := by
  refine va_forget (fun q hq => by rw [← hbs]; exact hW.2.2.2 q hq) ?_
  refine W.widen h1 h2 ?_
  refine W.base ?_
  exact lw_ret (Drawn.sameBut.refl s.drawn lw_cs) B.1 B.2.1 B.2.2.2.2.2.1 B.2.2.2.2.2.2.1 hdg
/-- the contract of a method that reads the script, out of its body's walk -/
theorem z_metL {l : Launch} {D : va_G} {cA : Nat → ClassId} {bs : Nat} {own : String} {y : MethodName} {cc : ByteArray} {nL : Nat} {ret : Option FieldType} {fr lo mc ms : Nat} {As : List Value} {σ : zSt} {Qc : Array Value → State → Outcome → State → Prop} {lv : List (Nat × Value)} {b L : Nat} {xs : Nat → Int32}
    (hy : plainName y.cls = true) (hyc : y.cls = own) (hl0 : (lg_sl As).length ≤ nL) (hlv : lv_args 0 As = lv)
    (body : ∀ (p : Program) (e : Env) (s : State) (m : MethodId) (below : List Frame) (meth : Method) (c : Code) (ls : Array Slot), z_B p s m As.toArray meth c D cA bs own cc nL ret → z_L s bs b L xs → z_Ok D cA bs s σ s.heap [] → lv_has ls nL lv →
      W p l e (zrm fr mc ms lo) s m As.toArray below meth c s.heap [] 0 0 (MQ below Qc As.toArray s mc ms (fun q => bs ≤ q)) (F0 m 0 ls [])) : z_ML l D cA bs y cc nL ret fr lo mc ms As σ Qc b L xs := by
  refine Met.ofW (cc := cc) (maxL := nL) (ret := ret) hy rfl ?_
  intro p e s m args below meth c s₁ B hml hv
  obtain ⟨rfl, ⟨hWd, hKT⟩, hX, hbb⟩ := hv
  have hts := atoms_spec (ws := z_wy y cc nL ret) B.pre
  have hown : s.vm.findClass own = some m.cls := hyc ▸ findClass_of_methodNamed B.named
  have hsz : bs ≤ s.heap.size := by rw [hWd.1]; exact hWd.2.1
  rw [lg_entry_eq]
  exact body p e s m below meth c _ ⟨B.exec, B.bytes, hml, hown, fun w hw => hts w (List.mem_cons_of_mem _ hw), B.returns, B.notSynchronized, hKT, hsz⟩ ⟨hX, hbb, hsz⟩ ⟨hWd, va_S.rf⟩ (by rw [← hlv]; exact lv_entry As hl0)
