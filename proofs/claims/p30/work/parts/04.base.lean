/-! THE ABSTRACT HEAP: next address, shapes, ints, longs, references -/
abbrev zSh : Type := Nat ⊕ (Nat × Nat)
abbrev zSt : Type := Nat × (Nat → Option zSh) × (Nat → Nat → Int32) × (Nat → Nat → Int64) × (Nat → Nat → Option Nat)
def z_nx (σ : zSt) : Nat := σ.1
def z_sh (σ : zSt) : Nat → Option zSh := σ.2.1
def z_I (σ : zSt) : Nat → Nat → Int32 := σ.2.2.1
def z_J (σ : zSt) : Nat → Nat → Int64 := σ.2.2.2.1
def z_R (σ : zSt) : Nat → Nat → Option Nat := σ.2.2.2.2
def z_u {α : Type} (f : Nat → Nat → α) (q j : Nat) (x : α) : Nat → Nat → α := fun a b => if a = q ∧ b = j then x else f a b
def z_pI (σ : zSt) (q j : Nat) (x : Int32) : zSt := (σ.1, σ.2.1, z_u σ.2.2.1 q j x, σ.2.2.2.1, σ.2.2.2.2)
def z_pJ (σ : zSt) (q j : Nat) (x : Int64) : zSt := (σ.1, σ.2.1, σ.2.2.1, z_u σ.2.2.2.1 q j x, σ.2.2.2.2)
def z_pR (σ : zSt) (q j : Nat) (x : Option Nat) : zSt := (σ.1, σ.2.1, σ.2.2.1, σ.2.2.2.1, z_u σ.2.2.2.2 q j x)
/-- a new cell of ours -/
def z_nw (σ : zSt) (t : zSh) : zSt := (σ.1 + 1, fun a => if a = σ.1 then some t else σ.2.1 a, fun a j => if a = σ.1 then 0 else σ.2.2.1 a j, fun a j => if a = σ.1 then 0 else σ.2.2.2.1 a j, fun a j => if a = σ.1 then none else σ.2.2.2.2 a j)
/-- a new cell that nothing is said of -/
def z_gr (σ : zSt) : zSt := (σ.1 + 1, σ.2)
def z_ln (σ : zSt) (q : Nat) : Nat := match z_sh σ q with
  | some (.inr x) => x.2
  | _ => 0
def z_ob (σ : zSt) (q ci : Nat) : Bool := match z_sh σ q with
  | some (.inl x) => x == ci
  | _ => false
def z_ar (σ : zSt) (q t : Nat) : Bool := match z_sh σ q with
  | some (.inr x) => x.1 == t
  | _ => false
def z_ix (i : Int32) (n : Nat) : Bool := decide (¬ i < 0) && decide (i.toNatClampNeg < n)
def z_bl (x : Int32) : Bool := x == 0 || x == 1
/-! small programs -/
def zl {α β : Type} (x : α) (k : α → Option β) : Option β := k x
def zb {α β : Type} (x : Option α) (k : α → Option β) : Option β := match x with
  | none => none
  | some v => k v
def zb2 {α β : Type} (x : Option (α × zSt)) (k : α → zSt → Option β) : Option β := match x with
  | none => none
  | some v => k v.1 v.2
def zc {β : Type} (x : Option Nat) (A : Option β) (B : Nat → Option β) : Option β := match x with
  | none => A
  | some v => B v
def zex {α β : Type} (x : Option β) : Option (α ⊕ β) := match x with
  | none => none
  | some v => some (.inr v)
def zloop {S R : Type} (body : S → Option (S ⊕ R)) : Nat → S → Option R
  | 0, _ => none
  | n + 1, s => match body s with
    | none => none
    | some (.inl t) => zloop body n t
    | some (.inr r) => some r
def zN : Nat := 5000
section ZP
variable {α β S R : Type}
theorem z_g {b : Bool} {k : Option β} {r : β} (h : (if b = true then k else none) = some r) : b = true ∧ k = some r := by
  cases b with
  | false => simp at h
  | true => exact ⟨rfl, h⟩
theorem z_gp {b : Prop} [inst : Decidable b] {k : Option β} {r : β} (h : (if b then k else none) = some r) : b ∧ k = some r := by
  by_cases hb : b
  · rw [if_pos hb] at h; exact ⟨hb, h⟩
  · rw [if_neg hb] at h; cases h
theorem z_ip {b : Prop} [inst : Decidable b] {A B : Option β} {r : β} (hb : b) (h : (if b then A else B) = some r) : A = some r := by
  rw [if_pos hb] at h; exact h
theorem z_in {b : Prop} [inst : Decidable b] {A B : Option β} {r : β} (hb : ¬ b) (h : (if b then A else B) = some r) : B = some r := by
  rw [if_neg hb] at h; exact h
theorem z_l {x : α} {k : α → Option β} {r : β} (h : zl x k = some r) : ∃ v, x = v ∧ k v = some r := ⟨x, rfl, h⟩
theorem z_b {x : Option α} {k : α → Option β} {r : β} (h : zb x k = some r) : ∃ v, x = some v ∧ k v = some r := by
  cases x with
  | none => cases h
  | some v => exact ⟨v, rfl, h⟩
theorem z_b2 {x : Option (α × zSt)} {k : α → zSt → Option β} {r : β} (h : zb2 x k = some r) : ∃ v σ, x = some (v, σ) ∧ k v σ = some r := by
  cases x with
  | none => cases h
  | some v => exact ⟨v.1, v.2, rfl, h⟩
theorem z_nn {x : Option Nat} {k : Nat → Option β} {r : β} (h : zc x none k = some r) : ∃ v, x = some v ∧ k v = some r := by
  cases x with
  | none => cases h
  | some v => exact ⟨v, rfl, h⟩
theorem z_c0 {A : Option β} {k : Nat → Option β} {r : β} (h : zc none A k = some r) : A = some r := h
theorem z_c1 {A : Option β} {k : Nat → Option β} {v : Nat} {r : β} (h : zc (some v) A k = some r) : k v = some r := h
theorem z_x {x : Option β} {r : α ⊕ β} (h : zex x = some r) : ∃ v, x = some v ∧ r = .inr v := by
  cases x with
  | none => cases h
  | some v => exact ⟨v, rfl, (Option.some.inj h).symm⟩
theorem z_lp {body : S → Option (S ⊕ R)} {n : Nat} {s : S} {r : R} (h : zloop body (n + 1) s = some r) : ∃ o, body s = some o ∧ ((∃ t, o = .inl t ∧ zloop body n t = some r) ∨ o = .inr r) := by
  unfold zloop at h
  cases hb : body s with
  | none => rw [hb] at h; cases h
  | some o =>
    rw [hb] at h
    cases o with
    | inl t => exact ⟨_, rfl, Or.inl ⟨t, rfl, h⟩⟩
    | inr v => exact ⟨_, rfl, Or.inr (congrArg Sum.inr (Option.some.inj h))⟩
end ZP
/-! reads behind writes -/
section ZR
variable (σ : zSt) (q j a b : Nat)
theorem z_I_pI (x : Int32) : z_I (z_pI σ q j x) a b = if a = q ∧ b = j then x else z_I σ a b := rfl
theorem z_J_pI (x : Int32) : z_J (z_pI σ q j x) = z_J σ := rfl
theorem z_R_pI (x : Int32) : z_R (z_pI σ q j x) = z_R σ := rfl
theorem z_sh_pI (x : Int32) : z_sh (z_pI σ q j x) = z_sh σ := rfl
theorem z_nx_pI (x : Int32) : z_nx (z_pI σ q j x) = z_nx σ := rfl
theorem z_J_pJ (x : Int64) : z_J (z_pJ σ q j x) a b = if a = q ∧ b = j then x else z_J σ a b := rfl
theorem z_I_pJ (x : Int64) : z_I (z_pJ σ q j x) = z_I σ := rfl
theorem z_R_pJ (x : Int64) : z_R (z_pJ σ q j x) = z_R σ := rfl
theorem z_sh_pJ (x : Int64) : z_sh (z_pJ σ q j x) = z_sh σ := rfl
theorem z_nx_pJ (x : Int64) : z_nx (z_pJ σ q j x) = z_nx σ := rfl
theorem z_R_pR (x : Option Nat) : z_R (z_pR σ q j x) a b = if a = q ∧ b = j then x else z_R σ a b := rfl
theorem z_I_pR (x : Option Nat) : z_I (z_pR σ q j x) = z_I σ := rfl
theorem z_J_pR (x : Option Nat) : z_J (z_pR σ q j x) = z_J σ := rfl
theorem z_sh_pR (x : Option Nat) : z_sh (z_pR σ q j x) = z_sh σ := rfl
theorem z_nx_pR (x : Option Nat) : z_nx (z_pR σ q j x) = z_nx σ := rfl
theorem z_I_gr : z_I (z_gr σ) = z_I σ := rfl
theorem z_J_gr : z_J (z_gr σ) = z_J σ := rfl
theorem z_R_gr : z_R (z_gr σ) = z_R σ := rfl
theorem z_sh_gr : z_sh (z_gr σ) = z_sh σ := rfl
theorem z_nx_gr : z_nx (z_gr σ) = z_nx σ + 1 := rfl
theorem z_I_nw (t : zSh) : z_I (z_nw σ t) a b = if a = z_nx σ then 0 else z_I σ a b := rfl
theorem z_J_nw (t : zSh) : z_J (z_nw σ t) a b = if a = z_nx σ then 0 else z_J σ a b := rfl
theorem z_R_nw (t : zSh) : z_R (z_nw σ t) a b = if a = z_nx σ then none else z_R σ a b := rfl
theorem z_sh_nw (t : zSh) : z_sh (z_nw σ t) a = if a = z_nx σ then some t else z_sh σ a := rfl
theorem z_nx_nw (t : zSh) : z_nx (z_nw σ t) = z_nx σ + 1 := rfl
end ZR
theorem z_ix_in {i : Int32} {n : Nat} (h : z_ix i n = true) : vp_in i n := by
  simp only [z_ix, Bool.and_eq_true, decide_eq_true_eq] at h
  intro q
  rcases q with q | q
  · exact h.1 q
  · omega
theorem z_ob_sh {σ : zSt} {q ci : Nat} (h : z_ob σ q ci = true) : z_sh σ q = some (.inl ci) := by
  unfold z_ob at h
  split at h
  · rename_i x hx
    rw [hx, eq_of_beq h]
  · cases h
theorem z_ar_sh {σ : zSt} {q t : Nat} (h : z_ar σ q t = true) : z_sh σ q = some (.inr (t, z_ln σ q)) := by
  unfold z_ar at h
  split at h
  · rename_i x hx
    obtain ⟨x1, x2⟩ := x
    have e : x1 = t := eq_of_beq h
    subst e
    unfold z_ln
    rw [hx]
  · cases h
/-! WHAT A HEAP OF THE MACHINE IS, of an abstract one -/
def z_kf : FieldType → Nat
  | .long => 1
  | .object _ => 2
  | .array _ => 2
  | _ => 0
def z_ty : Nat → Nat → FieldType := fun ci => match ci with
  | 0 => tyX0
  | 1 => tyX1
  | 2 => tyX2
  | 3 => tyX3
  | 4 => tyX4
  | 5 => tyX4
  | 6 => tyX6
  | 7 => tyX7
  | _ => tyX9
def z_kd (ci k : Nat) : Nat := z_kf (z_ty ci k)
def z_cN : Nat → Nat := fun ci => match ci with
  | 0 => 10
  | 1 => 2
  | 2 => 11
  | 3 => 2
  | 4 => 3
  | 5 => 3
  | 6 => 9
  | 7 => 2
  | _ => 5
def z_val (σ : zSt) (q j kd : Nat) : Value := match kd with
  | 0 => .int (z_I σ q j)
  | 1 => .long (z_J σ q j)
  | _ => va_rf (z_R σ q j)
def z_fs (σ : zSt) (q ci : Nat) : List Value := (List.range (z_cN ci)).map (fun j => z_val σ q j (z_kd ci j))
/-- kinds of arrays: 0 int, 1 byte, 2 long, 3 stations, 4 lines -/
def z_el (σ : zSt) (q t n : Nat) : vp_A := match t with
  | 0 => (n, .inl (z_I σ q))
  | 1 => (n, .inl (z_I σ q))
  | 2 => (n, .inr (.inl (z_J σ q)))
  | _ => (n, .inr (.inr (.inr (.inr (z_R σ q)))))
def z_at : Nat → FieldType := fun t => match t with
  | 0 => .int
  | 1 => .byte
  | 2 => .byte
  | 3 => .object RX6
  | _ => .object RX2
def z_cell (cA : Nat → ClassId) (σ : zSt) (q : Nat) : zSh → va_E := fun t => match t with
  | .inl ci => .inr (ci, z_fs σ q ci)
  | .inr x => .inl (cA x.1, z_el σ q x.1 x.2)
def z_Wd (D : va_G) (cA : Nat → ClassId) (bs : Nat) (σ : zSt) (H : Heap) : Prop :=
  H.size = z_nx σ ∧ bs ≤ z_nx σ ∧ ∀ (q : Nat) (t : zSh), z_sh σ q = some t → bs ≤ q ∧ va_at D vwCl (q, z_cell cA σ q t) H
abbrev z_tys (cA : Nat → ClassId) : List (ClassId × FieldType) := [(cA 0, .int), (cA 1, .byte), (cA 2, .byte), (cA 3, .object RX6), (cA 4, .object RX2)]
/-- the tables' words that every method may use -/
def zWS : List Cond := lw_tbl.filter goodWord
def z_KT (D : va_G) (cA : Nat → ClassId) (U : State) : Prop := va_K D vwCl (z_tys cA) U ∧ (∀ w ∈ zNest, va_Nw (.methodLinkNest w.1 w.2.1 w.2.2.1 w.2.2.2) U) ∧ va_AO RX6 U ∧ va_AO RX2 U

theorem z_KT.warm {D : va_G} {cA : Nat → ClassId} {s U : State} (hW : s.WarmedH U.vm) (h : z_KT D cA s) : z_KT D cA U :=
  ⟨va_K.moved hW.alike h.1, fun w hw => va_Nw.warmM hW (h.2.1 w hw), va_AO.moved hW.alike h.2.2.1, va_AO.moved hW.alike h.2.2.2⟩
theorem z_KT.same {D : va_G} {cA : Nat → ClassId} {s U : State} (e : s.vm = U.vm) (h : z_KT D cA s) : z_KT D cA U := by
  refine ⟨va_K.moved (by rw [e]; exact Vm.Alike.refl _) h.1, fun w hw => va_Nw.same rfl e (h.2.1 w hw), va_AO.moved (by rw [e]; exact Vm.Alike.refl _) h.2.2.1, va_AO.moved (by rw [e]; exact Vm.Alike.refl _) h.2.2.2⟩
/-- what a method's state is, as a contract says it -/
def z_Pc (D : va_G) (cA : Nat → ClassId) (bs : Nat) (σ : zSt) (U : State) : Prop := z_Wd D cA bs σ U.heap ∧ z_KT D cA U
def zrm (fr mc ms lo : Nat) : Room := { frames := fr, cells := mc, slots := ms, locals := lo }
/-- inside a body -/
def z_B (p : Program) (s : State) (m : MethodId) (args : Array Value) (meth : Method) (c : Code) (D : va_G) (cA : Nat → ClassId) (bs : Nat) (own : String) (cc : ByteArray) (nL : Nat) (ret : Option FieldType) : Prop :=
  p.tables.exec = Jvm.exec ∧ c.code = cc ∧ c.maxLocals = nL ∧ s.vm.findClass own = some m.cls ∧ (∀ w ∈ zWS, w.before args s = true) ∧ meth.sig.returnType = ret ∧ meth.locks = false ∧ z_KT D cA s ∧ bs ≤ s.heap.size
/-- the world, on the way -/
def z_Ok (D : va_G) (cA : Nat → ClassId) (bs : Nat) (s : State) (σ : zSt) (H : Heap) (locs : List Loc) : Prop := z_Wd D cA bs σ H ∧ va_S (fun q => bs ≤ q) s.heap H locs
theorem z_lw {i : Nat} {w : Cond} (h : lw_tbl[i]? = some w) (g : goodWord w = true) : w ∈ zWS := List.mem_filter.mpr ⟨List.mem_of_getElem? h, g⟩
theorem z_good {w : Cond} (h : w ∈ zWS) : goodWord w = true := (List.mem_filter.mp h).2
theorem z_ins {ws : List Cond} (ps : List Nat) (hp : ws = ps.filterMap (fun i => lw_tbl[i]?)) (h : ws.all goodWord = true) : ∀ w ∈ ws, w ∈ zWS := by
  intro w hw
  have g := List.all_eq_true.mp h w hw
  rw [hp] at hw
  obtain ⟨i, -, hi⟩ := List.mem_filterMap.mp hw
  exact z_lw hi g
theorem z_gi {ws : List Cond} (h : ∀ w ∈ ws, w ∈ zWS) : GoodIn zWS ws := fun w hw => ⟨h w hw, good_of_word (z_good (h w hw))⟩
/-- a field's link and its class's words -/
def z_F (own : String) (index ci k : Nat) : Prop := ∃ (C : String) (T : u_T), vwCl[ci]? = some (C, T, z_cN ci) ∧ k < z_cN ci ∧ Cond.fieldLink own index C (T k).2.1 (T k).2.2.1 ∈ zWS ∧ (∀ w ∈ u_ws C T (z_cN ci), w ∈ zWS) ∧ (T k).1 = C ∧ (∀ k, k < z_cN ci → parseFieldDescriptor (T k).2.2.1 = some (z_ty ci k)) ∧ (∀ a, a < z_cN ci → ∀ b, b < z_cN ci → a ≠ b → (T a).2.1 ≠ (T b).2.1) ∧ (T k).2.2.2 = false
def z_FF (own : String) (index ci k : Nat) : Prop := ∃ (C : String) (T : u_T), vwCl[ci]? = some (C, T, z_cN ci) ∧ k < z_cN ci ∧ Cond.fieldLink own index C (T k).2.1 (T k).2.2.1 ∈ zWS ∧ (∀ w ∈ u_ws C T (z_cN ci), w ∈ zWS) ∧ (T k).1 = C ∧ (∀ k, k < z_cN ci → parseFieldDescriptor (T k).2.2.1 = some (z_ty ci k)) ∧ (∀ a, a < z_cN ci → ∀ b, b < z_cN ci → a ≠ b → (T a).2.1 ≠ (T b).2.1) ∧ (T k).2.2.2 = true
theorem z_fs_get {σ : zSt} {q ci k : Nat} (hk : k < z_cN ci) : (z_fs σ q ci)[k]? = some (z_val σ q k (z_kd ci k)) := by
  unfold z_fs
  rw [List.getElem?_map, List.getElem?_range hk]
  rfl
theorem z_fs_len {σ : zSt} {q ci : Nat} : (z_fs σ q ci).length = z_cN ci := by
  unfold z_fs
  rw [List.length_map, List.length_range]
theorem z_fs_set {σ σ' : zSt} {q ci k : Nat} {v : Value} (hk : k < z_cN ci) (e : z_val σ' q k (z_kd ci k) = v) (o : ∀ j, j ≠ k → z_val σ' q j (z_kd ci j) = z_val σ q j (z_kd ci j)) : (z_fs σ q ci).set k v = z_fs σ' q ci := by
  apply List.ext_getElem?
  intro j
  by_cases hj : j < z_cN ci
  · by_cases hjk : k = j
    · subst hjk
      rw [List.getElem?_set_self (by rw [z_fs_len]; exact hj), z_fs_get hj, e]
    · rw [List.getElem?_set_ne hjk, z_fs_get hj, z_fs_get hj, o j (Ne.symm hjk)]
  · rw [List.getElem?_eq_none (by rw [List.length_set, z_fs_len]; omega), List.getElem?_eq_none (by rw [z_fs_len]; omega)]
theorem z_cat (r : Option Nat) : (va_rf r).category = 1 := by cases r <;> rfl
/-- a world behind a write to the cell q -/
theorem z_Wd.put {D : va_G} {cA : Nat → ClassId} {bs : Nat} {σ σ' : zSt} {H H1 : Heap} {q : Nat} {t : zSh} (h : z_Wd D cA bs σ H) (hq : z_sh σ q = some t) (e1 : z_sh σ' = z_sh σ) (e2 : z_nx σ' = z_nx σ) (z : H1.size = H.size) (oq : ∀ a : Nat, a ≠ q → H1[a]? = H[a]?)
    (hc : ∀ a t', a ≠ q → z_cell cA σ' a t' = z_cell cA σ a t') (hn : va_at D vwCl (q, z_cell cA σ' q t) H1) : z_Wd D cA bs σ' H1 := by
  refine ⟨by rw [z, e2]; exact h.1, by rw [e2]; exact h.2.1, fun a t' ha => ?_⟩
  rw [e1] at ha
  by_cases hqa : a = q
  · subst hqa
    obtain rfl : t = t' := Option.some.inj (hq.symm.trans ha)
    exact ⟨(h.2.2 _ _ ha).1, hn⟩
  · rw [hc a t' hqa]
    exact ⟨(h.2.2 _ _ ha).1, (h.2.2 _ _ ha).2.kept (oq a hqa)⟩
theorem z_cell_ext {cA : Nat → ClassId} {σ σ' : zSt} {a : Nat} (h1 : z_I σ' a = z_I σ a) (h2 : z_J σ' a = z_J σ a) (h3 : z_R σ' a = z_R σ a) (t : zSh) : z_cell cA σ' a t = z_cell cA σ a t := by
  cases t with
  | inl ci =>
    simp only [z_cell]
    congr 2
    unfold z_fs
    apply List.map_congr_left
    intro j _
    unfold z_val
    split <;> simp [h1, h2, h3]
  | inr x =>
    simp only [z_cell]
    congr 2
    unfold z_el
    split <;> simp [h1, h2, h3]
theorem z_u_ne {α : Type} {f : Nat → Nat → α} {q j a : Nat} {x : α} (h : a ≠ q) : z_u f q j x a = f a := by
  funext b
  simp [z_u, h]
section ROWS
variable {p : Program} {l : Launch} {e : Env} {R : Room} {s : State} {m : MethodId} {args : Array Value} {below : List Frame} {meth : Method} {c : Code} {H : Heap} {locs : List Loc} {cells slots : Nat} {Q : State → Prop}
variable {D : va_G} {cA : Nat → ClassId} {bs : Nat} {own : String} {cc : ByteArray} {nL : Nat} {ret : Option FieldType} {σ : zSt} {pc : Nat} {ls : Array Slot} {rest : List Value} {q ci k index : Nat}
theorem z_getV (B : z_B p s m args meth c D cA bs own cc nL ret) (hW : z_Ok D cA bs s σ H locs) (F : z_F own index ci k ∨ z_FF own index ci k) (ho : z_ob σ q ci = true) (hdg : decode cc pc = .ok (.getfield index, 3))
    (kk : W p l e R s m args below meth c H locs cells slots Q (F0 m (pc + 3) ls (z_val σ q k (z_kd ci k) :: rest))) : W p l e R s m args below meth c H locs cells slots Q (F0 m pc ls (.ref q :: rest)) := by
  obtain ⟨hx, hb, hml, hown, hts, -, -, hKT, -⟩ := B
  have hP : va_P D vwCl [(q, z_cell cA σ q (.inl ci))] H := fun i x hi => by
    cases i with
    | zero => cases hi; exact (hW.1.2.2 q _ (z_ob_sh ho)).2
    | succ i => cases hi
  have F' : ∃ (C : String) (T : u_T), vwCl[ci]? = some (C, T, z_cN ci) ∧ k < z_cN ci ∧ Cond.fieldLink own index C (T k).2.1 (T k).2.2.1 ∈ zWS ∧ (∀ w ∈ u_ws C T (z_cN ci), w ∈ zWS) ∧ (T k).1 = C := by
    rcases F with F | F
    · obtain ⟨C, T, a1, a2, a3, a4, a5, -⟩ := F
      exact ⟨C, T, a1, a2, a3, a4, a5⟩
    · obtain ⟨C, T, a1, a2, a3, a4, a5, -⟩ := F
      exact ⟨C, T, a1, a2, a3, a4, a5⟩
  obtain ⟨C, T, a1, a2, a3, a4, a5⟩ := F'
  exact va_get (D := D) (cl := vwCl) (ci := ci) (own := own) (ref := C) (T := T) (N := z_cN ci) (Ts := zWS) (fs := z_fs σ q ci) hx hb hts a4 hown hKT.1 hP 0 rfl a1 k a2 (hts _ a3) (fun x hx => by rw [a5] at hx; exact hx) (z_fs_get a2) hdg kk
theorem z_getI (B : z_B p s m args meth c D cA bs own cc nL ret) (hW : z_Ok D cA bs s σ H locs) (F : z_F own index ci k ∨ z_FF own index ci k) (hk : z_kd ci k = 0) (ho : z_ob σ q ci = true) (hdg : decode cc pc = .ok (.getfield index, 3))
    (kk : W p l e R s m args below meth c H locs cells slots Q (F0 m (pc + 3) ls (.int (z_I σ q k) :: rest))) : W p l e R s m args below meth c H locs cells slots Q (F0 m pc ls (.ref q :: rest)) :=
  z_getV B hW F ho hdg (by rw [hk]; exact kk)
theorem z_getJ (B : z_B p s m args meth c D cA bs own cc nL ret) (hW : z_Ok D cA bs s σ H locs) (F : z_F own index ci k ∨ z_FF own index ci k) (hk : z_kd ci k = 1) (ho : z_ob σ q ci = true) (hdg : decode cc pc = .ok (.getfield index, 3))
    (kk : W p l e R s m args below meth c H locs cells slots Q (F0 m (pc + 3) ls (.long (z_J σ q k) :: rest))) : W p l e R s m args below meth c H locs cells slots Q (F0 m pc ls (.ref q :: rest)) :=
  z_getV B hW F ho hdg (by rw [hk]; exact kk)
theorem z_getR (B : z_B p s m args meth c D cA bs own cc nL ret) (hW : z_Ok D cA bs s σ H locs) (F : z_F own index ci k ∨ z_FF own index ci k) (hk : z_kd ci k = 2) (ho : z_ob σ q ci = true) {v : Option Nat} (hv : z_R σ q k = v) (hdg : decode cc pc = .ok (.getfield index, 3))
    (kk : W p l e R s m args below meth c H locs cells slots Q (F0 m (pc + 3) ls (va_rf v :: rest))) : W p l e R s m args below meth c H locs cells slots Q (F0 m pc ls (.ref q :: rest)) :=
  z_getV B hW F ho hdg (by rw [hk]; show W _ _ _ _ _ _ _ _ _ _ _ _ _ _ _ (F0 m (pc + 3) ls (va_rf (z_R σ q k) :: rest)); rw [hv]; exact kk)
theorem z_getN (B : z_B p s m args meth c D cA bs own cc nL ret) (hW : z_Ok D cA bs s σ H locs) (F : z_F own index ci k ∨ z_FF own index ci k) (hk : z_kd ci k = 2) (ho : z_ob σ q ci = true) {v : Nat} (hv : z_R σ q k = some v) (hdg : decode cc pc = .ok (.getfield index, 3))
    (kk : W p l e R s m args below meth c H locs cells slots Q (F0 m (pc + 3) ls (.ref v :: rest))) : W p l e R s m args below meth c H locs cells slots Q (F0 m pc ls (.ref q :: rest)) :=
  z_getR B hW F hk ho hv hdg kk
end ROWS
