/-- which exception: its number, its class -/
def z_exn : Nat → String := fun k => match k with
  | 0 => "java/lang/IllegalArgumentException"
  | 1 => "java/lang/IllegalStateException"
  | 2 => "java/lang/IndexOutOfBoundsException"
  | _ => "java/util/NoSuchElementException"
abbrev z_sup : List String := ["java/lang/RuntimeException", "java/lang/Exception"]
/-- a class that can be cast to another -/
def z_Yc (C T : String) (U : State) : Prop := ∃ c t : ClassId, U.vm.findClass C = some c ∧ U.vm.findClass T = some t ∧ U.vm.assignable c t = true
theorem z_Yc.of {args : Array Value} {s : State} {C T : String} (h : (Cond.castable C T).before args s = true) : z_Yc C T s := Cond.castable_spec h
theorem z_Yc.use {args : Array Value} {s : State} {C T : String} (h : z_Yc C T s) : (Cond.castable C T).before args s = true := by
  obtain ⟨c, t, h1, h2, h3⟩ := h
  simp [Cond.before, Cond.holds, Cond.value, h1, h2, h3]
theorem z_Yc.moved {C T : String} {u U : State} (hvm : u.vm.Alike U.vm) (h : z_Yc C T u) : z_Yc C T U := by
  obtain ⟨c, t, h1, h2, h3⟩ := h
  exact ⟨c, t, by rw [hvm.findClass]; exact h1, by rw [hvm.findClass]; exact h2, by rw [hvm.assignable]; exact h3⟩
/-- what a throw needs of the state -/
def z_X (bs : Nat) (U : State) : Prop := vx_Zq Bundle.tN "UNASSIGNED_STACK" Bundle.steD (fun q => bs ≤ q) U U.heap ∧ vx_Zq Bundle.tN "SUPPRESSED_SENTINEL" Bundle.listD (fun q => bs ≤ q) U U.heap ∧ (∀ w ∈ zStr, ∃ sa, vk_R w.1 w.2.1 w.2.2 sa U) ∧ (∀ x ∈ zDec, va_Nw (.declares x) U) ∧ (∀ k, z_Yc (z_exn k) (z_exn k) U) ∧ ∀ j k, z_exn j ≠ z_exn k → va_Nc (z_exn j) (z_exn k) U
theorem z_X.at {bs : Nat} {s U : State} {H : Heap} {locs : List Loc} (h : z_X bs s) (hS : va_S (fun q => bs ≤ q) s.heap H locs) (hU : U.heap = H) (hW : s.WarmedH U.vm) : z_X bs U := by
  refine ⟨?_, ?_, fun w hw => ?_, fun x hx => va_Nw.warmD hW (h.2.2.2.1 x hx), fun k => z_Yc.moved hW.alike (h.2.2.2.2.1 k), fun j k hjk => va_Nc.moved hW.alike (h.2.2.2.2.2 j k hjk)⟩
  · rw [hU]
    exact vx_Zq.moved hW.alike (h.1.kept hS.2.1)
  · rw [hU]
    exact vx_Zq.moved hW.alike (h.2.1.kept hS.2.1)
  · obtain ⟨sa, hsa⟩ := h.2.2.1 w hw
    exact ⟨sa, hsa.warm hW⟩
theorem z_X.same {bs : Nat} {s U : State} (e : s.vm = U.vm) (eh : s.heap = U.heap) (h : z_X bs s) : z_X bs U := by
  have ha : s.vm.Alike U.vm := by rw [e]; exact Vm.Alike.refl _
  refine ⟨?_, ?_, fun w hw => ?_, fun x hx => va_Nw.same rfl e (h.2.2.2.1 x hx), fun k => z_Yc.moved ha (h.2.2.2.2.1 k), fun j k hjk => va_Nc.moved ha (h.2.2.2.2.2 j k hjk)⟩
  · rw [← eh]; exact vx_Zq.moved ha h.1
  · rw [← eh]; exact vx_Zq.moved ha h.2.1
  · obtain ⟨sa, hsa⟩ := h.2.2.1 w hw
    exact ⟨sa, hsa.same e.symm⟩
def z_QX (D : va_G) (cA : Nat → ClassId) (bs : Nat) (out : (Nat ⊕ Int32) × zSt) : Array Value → State → Outcome → State → Prop := va_Qi (fun (x : Int32) (_ : Unit) => out.1 = .inr x) (fun _ t => z_Pc D cA bs out.2 t) (fun q => bs ≤ q)
def z_XX (D : va_G) (cA : Nat → ClassId) (bs : Nat) (out : (Nat ⊕ Int32) × zSt) : String → State → State → Prop := vx_X (fun (_ : Unit) => True) (fun E _ t => (∃ k, out.1 = .inl k ∧ E = z_exn k) ∧ z_Wd D cA bs out.2 t.heap) (fun q => bs ≤ q)
def z_MX (l : Launch) (D : va_G) (cA : Nat → ClassId) (bs : Nat) (y : MethodName) (cc : ByteArray) (nL : Nat) (ret : Option FieldType) (fr lo mc ms : Nat) (As : List Value) (σ : zSt) (out : (Nat ⊕ Int32) × zSt) : Prop :=
  vx_Met l y (z_wy y cc nL ret) (zrm fr mc ms lo) (va_Pc As (fun U => z_Pc D cA bs σ U ∧ z_X bs U)) (z_QX D cA bs out) (z_XX D cA bs out) mc ms (fun q => bs ≤ q)
/-- the constructor with a text, of exception k: by which place it names its superclass's, its bytes -/
def z_xix : Nat → Nat := fun k => match k with
  | 0 => 7
  | 1 => 7
  | 2 => 7
  | _ => 13
def z_xby : Nat → ByteArray := fun k => match k with
  | 0 => ⟨#[0x2a, 0x2b, 0xb7, 0x00, 0x07, 0xb1]⟩
  | 1 => ⟨#[0x2a, 0x2b, 0xb7, 0x00, 0x07, 0xb1]⟩
  | 2 => ⟨#[0x2a, 0x2b, 0xb7, 0x00, 0x07, 0xb1]⟩
  | _ => ⟨#[0x2a, 0x2b, 0xb7, 0x00, 0x0d, 0xb1]⟩
theorem z_xd (k : Nat) : decode (z_xby k) 0 = .ok (.aload_n 0, 1) ∧ decode (z_xby k) 1 = .ok (.aload_n 1, 1) ∧ decode (z_xby k) 2 = .ok (.invokespecial (z_xix k), 3) ∧ decode (z_xby k) 5 = .ok (.return_, 1) := by
  unfold z_xby z_xix
  split <;> exact ⟨by decide +kernel, by decide +kernel, by decide +kernel, by decide +kernel⟩
def z_xat (own : String) (ic k : Nat) : List Cond := (z_atX own ic (z_exn k) (z_xix k) (z_xby k) "java/lang/RuntimeException" ["java/lang/Exception"]).filter vx_no
/-- what the tables say of a throw -/
def z_TF (own : String) (ik is ic : Nat) (k : Nat) (text : String) : Prop :=
  Cond.classLink own ik (z_exn k) ∈ zWS ∧ Cond.initialized (z_exn k) ∈ zWS ∧ (own, is, text) ∈ zStr ∧ (∀ w ∈ (z_xat own ic k).filter goodWord, w ∈ zWS) ∧ (∀ w ∈ (z_xat own ic k).filter (fun w => !goodWord w), w ∈ Cond.castable (z_exn k) (z_exn k) :: zDec.map Cond.declares) ∧ (∀ w ∈ Cond.classLink own ik (z_exn k) :: Cond.initialized (z_exn k) :: z_xat own ic k, vx_ot w = true)
theorem z_fit (k : Nat) : Bundle.fit (z_exn k) = true := by
  unfold z_exn
  split <;> decide +kernel
theorem z_supfit : ∀ n ∈ z_sup, Bundle.fit n = true := by decide +kernel
section THROW
variable {p : Program} {l : Launch} {e : Env} {R : Room} {s : State} {m : MethodId} {args : Array Value} {below : List Frame} {meth : Method} {c : Code} {H : Heap} {locs : List Loc} {cells slots : Nat} {Q : State → Prop}
variable {D : va_G} {cA : Nat → ClassId} {bs : Nat} {own : String} {cc : ByteArray} {nL : Nat} {ret : Option FieldType} {σ σ' : zSt} {pc : Nat} {ls : Array Slot} {rest : List Value} {mc ms : Nat} {out : (Nat ⊕ Int32) × zSt}
theorem z_Wd.grow {H1 : Heap} (h : z_Wd D cA bs σ H) (z : H1.size = H.size + 1) (o : ∀ q : Nat, q < H.size → H1[q]? = H[q]?) : z_Wd D cA bs (z_gr σ) H1 := by
  refine ⟨by rw [z, h.1]; rfl, Nat.le_trans h.2.1 (Nat.le_succ _), fun q t hq => ?_⟩
  have hq' : z_sh σ q = some t := hq
  have hlt : q < H.size := by rw [h.1]; exact z_sh_lt h hq'
  rw [show z_cell cA (z_gr σ) q t = z_cell cA σ q t from z_cell_ext rfl rfl rfl t]
  exact ⟨(h.2.2 q t hq').1, (h.2.2 q t hq').2.kept (o q hlt)⟩
theorem z_thr {k ik is ic : Nat} {text : String} (hst : l.stackTraces = false) (B : z_B p s m args meth c D cA bs own cc nL ret) (hX : z_X bs s) (htab : ∀ x ∈ c.exceptionTable.toList, False) (hW : z_Ok D cA bs s σ H locs) (F : z_TF own ik is ic k text) (hls : ls.size = nL)
    (d0 : decode cc pc = .ok (.new ik, 3)) (d3 : decode cc (pc + 3) = .ok (.dup, 1)) (d4 : decode cc (pc + 4) = .ok (.ldc is, 2)) (d6 : decode cc (pc + 6) = .ok (.invokespecial ic, 3)) (d9 : decode cc (pc + 9) = .ok (.athrow, 1))
    (hRf : 5 < R.frames) (hRl : (rest.map fun v => v.category).sum + 82 ≤ R.locals) (hRc : cells + 1 ≤ R.cells) (hRs : slots + 6 ≤ R.slots) (ho : out = (.inl k, z_gr σ)) (hc : cells + 1 ≤ mc) (hs : slots + 6 ≤ ms) :
    W p l e R s m args below meth c H locs cells slots (vx_MQ below (z_QX D cA bs out) (z_XX D cA bs out) args s mc ms (fun q => bs ≤ q)) (F0 m pc ls rest) := by
  subst ho
  obtain ⟨hx, hb, hml, hown, hts, -, hlocks, hKT, -⟩ := B
  obtain ⟨F1, F2, F3, F4, F5, F6⟩ := F
  obtain ⟨sa, hsa⟩ := hX.2.2.1 _ F3
  refine z_throwX (Y1 := "java/lang/RuntimeException") (names := ["java/lang/Exception"]) (rx := z_xby k) (ix := z_xix k) (text := text) (sa := sa) hx hb hst hown (z_fit k) z_supfit (z_xd k).1 (z_xd k).2.1 (z_xd k).2.2.1 (z_xd k).2.2.2 (hts _ F1) (hts _ F2) hsa (vx_hat (fun w hw => hts w (F4 w hw)) F5 (fun w hw => ?_)) F6 hX.1 hX.2.1 hW.2 (by rw [hls, hml]) d0 d3 d4 d6 d9 (fun x hx => (htab x hx).elim) hRf hRl hRc hRs hlocks (fun t hvm hz hk => ?_) hW.2.2.2 hc hs
  · rcases List.mem_cons.mp hw with rfl | hw
    · exact (hX.2.2.2.2.1 k).use
    · obtain ⟨x, hx, rfl⟩ := List.mem_map.mp hw
      exact va_Nw.use rfl (hX.2.2.2.1 x hx)
  · exact ⟨(), trivial, ⟨⟨k, rfl, rfl⟩, hW.1.grow hz hk⟩, by rw [hz]; exact Nat.le_trans hW.2.1 (Nat.le_succ _), fun q h1 h2 => (hk q (Nat.lt_of_lt_of_le h1 hW.2.1)).trans (hW.2.2.1 q h1 h2)⟩
theorem z_thrW {k ik is ic : Nat} {text : String} (hst : l.stackTraces = false) (B : z_B p s m args meth c D cA bs own cc nL ret) (hX : z_X bs s) (htab : ∀ x ∈ c.exceptionTable.toList, False) (hW : z_Ok D cA bs s σ H locs) (F : z_TF own ik is ic k text) (hls : ls.size = nL)
    (d0 : decode cc pc = .ok (.new ik, 3)) (d3 : decode cc (pc + 3) = .ok (.dup, 1)) (d4 : decode cc (pc + 4) = .ok (.ldc_w is, 3)) (d6 : decode cc (pc + 7) = .ok (.invokespecial ic, 3)) (d9 : decode cc (pc + 10) = .ok (.athrow, 1))
    (hRf : 5 < R.frames) (hRl : (rest.map fun v => v.category).sum + 82 ≤ R.locals) (hRc : cells + 1 ≤ R.cells) (hRs : slots + 6 ≤ R.slots) (ho : out = (.inl k, z_gr σ)) (hc : cells + 1 ≤ mc) (hs : slots + 6 ≤ ms) :
    W p l e R s m args below meth c H locs cells slots (vx_MQ below (z_QX D cA bs out) (z_XX D cA bs out) args s mc ms (fun q => bs ≤ q)) (F0 m pc ls rest) := by
  subst ho
  obtain ⟨hx, hb, hml, hown, hts, -, hlocks, hKT, -⟩ := B
  obtain ⟨F1, F2, F3, F4, F5, F6⟩ := F
  obtain ⟨sa, hsa⟩ := hX.2.2.1 _ F3
  refine z_throwXW (Y1 := "java/lang/RuntimeException") (names := ["java/lang/Exception"]) (rx := z_xby k) (ix := z_xix k) (text := text) (sa := sa) hx hb hst hown (z_fit k) z_supfit (z_xd k).1 (z_xd k).2.1 (z_xd k).2.2.1 (z_xd k).2.2.2 (hts _ F1) (hts _ F2) hsa (vx_hat (fun w hw => hts w (F4 w hw)) F5 (fun w hw => ?_)) F6 hX.1 hX.2.1 hW.2 (by rw [hls, hml]) d0 d3 d4 d6 d9 (fun x hx => (htab x hx).elim) hRf hRl hRc hRs hlocks (fun t hvm hz hk => ?_) hW.2.2.2 hc hs
  · rcases List.mem_cons.mp hw with rfl | hw
    · exact (hX.2.2.2.2.1 k).use
    · obtain ⟨x, hx, rfl⟩ := List.mem_map.mp hw
      exact va_Nw.use rfl (hX.2.2.2.1 x hx)
  · exact ⟨(), trivial, ⟨⟨k, rfl, rfl⟩, hW.1.grow hz hk⟩, by rw [hz]; exact Nat.le_trans hW.2.1 (Nat.le_succ _), fun q h1 h2 => (hk q (Nat.lt_of_lt_of_le h1 hW.2.1)).trans (hW.2.2.1 q h1 h2)⟩
theorem z_rxi {r : Int32} (B : z_B p s m args meth c D cA bs own cc nL (some .int)) (hW : z_Ok D cA bs s σ H locs) (ho : out = (.inr r, σ)) (hdg : decode cc pc = .ok (.ireturn, 1)) (h1 : cells ≤ mc) (h2 : slots ≤ ms) :
    W p l e R s m args below meth c H locs cells slots (vx_MQ below (z_QX D cA bs out) (z_XX D cA bs out) args s mc ms (fun q => bs ≤ q)) (F0 m pc ls [.int r]) := by
  subst ho
  exact vx_ret (W.widen h1 h2 (W.iret B.1 B.2.1 B.2.2.2.2.2.1 (fun t ht hWm => ⟨⟨r, (), rfl, rfl, by rw [ht]; exact hW.1, B.2.2.2.2.2.2.2.1.warm hWm⟩, hW.2.F ht⟩) hW.2.2.2 hdg B.2.2.2.2.2.2.1))
theorem z_rxz {r : Int32} (hr : z_bl r = true) (B : z_B p s m args meth c D cA bs own cc nL (some .boolean)) (hW : z_Ok D cA bs s σ H locs) (ho : out = (.inr r, σ)) (hdg : decode cc pc = .ok (.ireturn, 1)) (h1 : cells ≤ mc) (h2 : slots ≤ ms) :
    W p l e R s m args below meth c H locs cells slots (vx_MQ below (z_QX D cA bs out) (z_XX D cA bs out) args s mc ms (fun q => bs ≤ q)) (F0 m pc ls [.int r]) := by
  subst ho
  exact vx_ret (W.widen h1 h2 (W.zret B.1 B.2.1 B.2.2.2.2.2.1 (z_bln hr).1 (fun t ht hWm => ⟨⟨r, (), rfl, rfl, by rw [ht]; exact hW.1, B.2.2.2.2.2.2.2.1.warm hWm⟩, hW.2.F ht⟩) hW.2.2.2 hdg B.2.2.2.2.2.2.1))
end THROW
/-- the contract of a method that may throw, out of its body's walk -/
theorem z_metX {l : Launch} {D : va_G} {cA : Nat → ClassId} {bs : Nat} {own : String} {y : MethodName} {cc : ByteArray} {nL : Nat} {ret : Option FieldType} {fr lo mc ms : Nat} {As : List Value} {σ : zSt} {out : (Nat ⊕ Int32) × zSt} {lv : List (Nat × Value)}
    (hy : plainName y.cls = true) (hyc : y.cls = own) (hl0 : (lg_sl As).length ≤ nL) (hlv : lv_args 0 As = lv)
    (body : ∀ (p : Program) (e : Env) (s : State) (m : MethodId) (below : List Frame) (meth : Method) (c : Code) (ls : Array Slot), z_B p s m As.toArray meth c D cA bs own cc nL ret → z_X bs s → (∀ x ∈ c.exceptionTable.toList, False) → z_Ok D cA bs s σ s.heap [] → lv_has ls nL lv →
      W p l e (zrm fr mc ms lo) s m As.toArray below meth c s.heap [] 0 0 (vx_MQ below (z_QX D cA bs out) (z_XX D cA bs out) As.toArray s mc ms (fun q => bs ≤ q)) (F0 m 0 ls [])) : z_MX l D cA bs y cc nL ret fr lo mc ms As σ out := by
  refine vx_ofW (cc := cc) (maxL := nL) (ret := ret) hy rfl ?_
  intro p e s m args below meth c s₁ B hml htab hv
  obtain ⟨rfl, ⟨hWd, hKT⟩, hX⟩ := hv
  have hts := atoms_spec (ws := z_wy y cc nL ret) B.pre
  have hown : s.vm.findClass own = some m.cls := hyc ▸ findClass_of_methodNamed B.named
  have hsz : bs ≤ s.heap.size := by rw [hWd.1]; exact hWd.2.1
  rw [lg_entry_eq]
  exact body p e s m below meth c _ ⟨B.exec, B.bytes, hml, hown, fun w hw => hts w (List.mem_cons_of_mem _ hw), B.returns, B.notSynchronized, hKT, hsz⟩ hX htab ⟨hWd, va_S.rf⟩ (by rw [← hlv]; exact lv_entry As hl0)
