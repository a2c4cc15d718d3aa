section
/-! a copy of the abstract heap and the printed functions of claims/whole, for quick trials: to be replaced -/
/-! THE ABSTRACT HEAP: next address, shapes, ints, longs, references -/
abbrev zSh : Type := Nat ⊕ (Nat × Nat)
abbrev zSt : Type := Nat × (Nat → Option zSh) × (Nat → Nat → Int32) × (Nat → Nat → Int64) × (Nat → Nat → Option Nat)
def z_nx (σ : zSt) : Nat := σ.1
def z_sh (σ : zSt) : Nat → Option zSh := σ.2.1
def z_I (σ : zSt) : Nat → Nat → Int32 := σ.2.2.1
def z_J (σ : zSt) : Nat → Nat → Int64 := σ.2.2.2.1
def z_R (σ : zSt) : Nat → Nat → Option Nat := σ.2.2.2.2
def z_u {α : Type} (f : Nat → Nat → α) (q j : Nat) (x : α) : Nat → Nat → α := fun a b => if a = q ∧ b = j then x else f a b
def z_pI (σ : zSt) (q j : Nat) (x : Int32) : zSt := (σ.1, σ.2.1, z_u σ.2.2.1 q j x, σ.2.2.2.1, σ.2.2.2.2)
def z_pJ (σ : zSt) (q j : Nat) (x : Int64) : zSt := (σ.1, σ.2.1, σ.2.2.1, z_u σ.2.2.2.1 q j x, σ.2.2.2.2)
def z_pR (σ : zSt) (q j : Nat) (x : Option Nat) : zSt := (σ.1, σ.2.1, σ.2.2.1, σ.2.2.2.1, z_u σ.2.2.2.2 q j x)
/-- a new cell of ours -/
def z_nw (σ : zSt) (t : zSh) : zSt := (σ.1 + 1, fun a => if a = σ.1 then some t else σ.2.1 a, fun a j => if a = σ.1 then 0 else σ.2.2.1 a j, fun a j => if a = σ.1 then 0 else σ.2.2.2.1 a j, fun a j => if a = σ.1 then none else σ.2.2.2.2 a j)
/-- a new cell that nothing is said of -/
def z_gr (σ : zSt) : zSt := (σ.1 + 1, σ.2)
def z_ln (σ : zSt) (q : Nat) : Nat := match z_sh σ q with
  | some (.inr x) => x.2
  | _ => 0
def z_ob (σ : zSt) (q ci : Nat) : Bool := match z_sh σ q with
  | some (.inl x) => x == ci
  | _ => false
def z_ar (σ : zSt) (q t : Nat) : Bool := match z_sh σ q with
  | some (.inr x) => x.1 == t
  | _ => false
def z_ix (i : Int32) (n : Nat) : Bool := decide (¬ i < 0) && decide (i.toNatClampNeg < n)
def z_bl (x : Int32) : Bool := x == 0 || x == 1
/-! small programs -/
def zl {α β : Type} (x : α) (k : α → Option β) : Option β := k x
def zb {α β : Type} (x : Option α) (k : α → Option β) : Option β := match x with
  | none => none
  | some v => k v
def zb2 {α β : Type} (x : Option (α × zSt)) (k : α → zSt → Option β) : Option β := match x with
  | none => none
  | some v => k v.1 v.2
def zc {β : Type} (x : Option Nat) (A : Option β) (B : Nat → Option β) : Option β := match x with
  | none => A
  | some v => B v
def zex {α β : Type} (x : Option β) : Option (α ⊕ β) := match x with
  | none => none
  | some v => some (.inr v)
def zloop {S R : Type} (body : S → Option (S ⊕ R)) : Nat → S → Option R
  | 0, _ => none
  | n + 1, s => match body s with
    | none => none
    | some (.inl t) => zloop body n t
    | some (.inr r) => some r
def zN : Nat := 5000
section ZP
variable {α β S R : Type}
theorem z_g {b : Bool} {k : Option β} {r : β} (h : (if b = true then k else none) = some r) : b = true ∧ k = some r := by
  cases b with
  | false => simp at h
  | true => exact ⟨rfl, h⟩
theorem z_gp {b : Prop} [inst : Decidable b] {k : Option β} {r : β} (h : (if b then k else none) = some r) : b ∧ k = some r := by
  by_cases hb : b
  · rw [if_pos hb] at h; exact ⟨hb, h⟩
  · rw [if_neg hb] at h; cases h
theorem z_ip {b : Prop} [inst : Decidable b] {A B : Option β} {r : β} (hb : b) (h : (if b then A else B) = some r) : A = some r := by
  rw [if_pos hb] at h; exact h
theorem z_in {b : Prop} [inst : Decidable b] {A B : Option β} {r : β} (hb : ¬ b) (h : (if b then A else B) = some r) : B = some r := by
  rw [if_neg hb] at h; exact h
theorem z_l {x : α} {k : α → Option β} {r : β} (h : zl x k = some r) : ∃ v, x = v ∧ k v = some r := ⟨x, rfl, h⟩
theorem z_b {x : Option α} {k : α → Option β} {r : β} (h : zb x k = some r) : ∃ v, x = some v ∧ k v = some r := by
  cases x with
  | none => cases h
  | some v => exact ⟨v, rfl, h⟩
theorem z_b2 {x : Option (α × zSt)} {k : α → zSt → Option β} {r : β} (h : zb2 x k = some r) : ∃ v σ, x = some (v, σ) ∧ k v σ = some r := by
  cases x with
  | none => cases h
  | some v => exact ⟨v.1, v.2, rfl, h⟩
theorem z_nn {x : Option Nat} {k : Nat → Option β} {r : β} (h : zc x none k = some r) : ∃ v, x = some v ∧ k v = some r := by
  cases x with
  | none => cases h
  | some v => exact ⟨v, rfl, h⟩
theorem z_c0 {A : Option β} {k : Nat → Option β} {r : β} (h : zc none A k = some r) : A = some r := h
theorem z_c1 {A : Option β} {k : Nat → Option β} {v : Nat} {r : β} (h : zc (some v) A k = some r) : k v = some r := h
theorem z_x {x : Option β} {r : α ⊕ β} (h : zex x = some r) : ∃ v, x = some v ∧ r = .inr v := by
  cases x with
  | none => cases h
  | some v => exact ⟨v, rfl, (Option.some.inj h).symm⟩
theorem z_lp {body : S → Option (S ⊕ R)} {n : Nat} {s : S} {r : R} (h : zloop body (n + 1) s = some r) : ∃ o, body s = some o ∧ ((∃ t, o = .inl t ∧ zloop body n t = some r) ∨ o = .inr r) := by
  unfold zloop at h
  cases hb : body s with
  | none => rw [hb] at h; cases h
  | some o =>
    rw [hb] at h
    cases o with
    | inl t => exact ⟨_, rfl, Or.inl ⟨t, rfl, h⟩⟩
    | inr v => exact ⟨_, rfl, Or.inr (congrArg Sum.inr (Option.some.inj h))⟩
end ZP
/-! reads behind writes -/
section ZR
variable (σ : zSt) (q j a b : Nat)
theorem z_I_pI (x : Int32) : z_I (z_pI σ q j x) a b = if a = q ∧ b = j then x else z_I σ a b := rfl
theorem z_J_pI (x : Int32) : z_J (z_pI σ q j x) = z_J σ := rfl
theorem z_R_pI (x : Int32) : z_R (z_pI σ q j x) = z_R σ := rfl
theorem z_sh_pI (x : Int32) : z_sh (z_pI σ q j x) = z_sh σ := rfl
theorem z_nx_pI (x : Int32) : z_nx (z_pI σ q j x) = z_nx σ := rfl
theorem z_J_pJ (x : Int64) : z_J (z_pJ σ q j x) a b = if a = q ∧ b = j then x else z_J σ a b := rfl
theorem z_I_pJ (x : Int64) : z_I (z_pJ σ q j x) = z_I σ := rfl
theorem z_R_pJ (x : Int64) : z_R (z_pJ σ q j x) = z_R σ := rfl
theorem z_sh_pJ (x : Int64) : z_sh (z_pJ σ q j x) = z_sh σ := rfl
theorem z_nx_pJ (x : Int64) : z_nx (z_pJ σ q j x) = z_nx σ := rfl
theorem z_R_pR (x : Option Nat) : z_R (z_pR σ q j x) a b = if a = q ∧ b = j then x else z_R σ a b := rfl
theorem z_I_pR (x : Option Nat) : z_I (z_pR σ q j x) = z_I σ := rfl
theorem z_J_pR (x : Option Nat) : z_J (z_pR σ q j x) = z_J σ := rfl
theorem z_sh_pR (x : Option Nat) : z_sh (z_pR σ q j x) = z_sh σ := rfl
theorem z_nx_pR (x : Option Nat) : z_nx (z_pR σ q j x) = z_nx σ := rfl
theorem z_I_gr : z_I (z_gr σ) = z_I σ := rfl
theorem z_J_gr : z_J (z_gr σ) = z_J σ := rfl
theorem z_R_gr : z_R (z_gr σ) = z_R σ := rfl
theorem z_sh_gr : z_sh (z_gr σ) = z_sh σ := rfl
theorem z_nx_gr : z_nx (z_gr σ) = z_nx σ + 1 := rfl
theorem z_I_nw (t : zSh) : z_I (z_nw σ t) a b = if a = z_nx σ then 0 else z_I σ a b := rfl
theorem z_J_nw (t : zSh) : z_J (z_nw σ t) a b = if a = z_nx σ then 0 else z_J σ a b := rfl
theorem z_R_nw (t : zSh) : z_R (z_nw σ t) a b = if a = z_nx σ then none else z_R σ a b := rfl
theorem z_sh_nw (t : zSh) : z_sh (z_nw σ t) a = if a = z_nx σ then some t else z_sh σ a := rfl
theorem z_nx_nw (t : zSh) : z_nx (z_nw σ t) = z_nx σ + 1 := rfl
end ZR
def z_nl (n : Int32) (cap : Nat) : Bool := decide (¬ n < 0) && decide (n.toNatClampNeg ≤ cap)
def z_cp (σ : zSt) (q0 q1 : Nat) (sp dp n : Int32) : zSt := (σ.1, σ.2.1, fun a j => if a = q1 then va_cpy (σ.2.2.1 q0) (σ.2.2.1 q1) sp.toNatClampNeg dp.toNatClampNeg n.toNatClampNeg j else σ.2.2.1 a j, σ.2.2.2.1, σ.2.2.2.2)
def z_cpg (q0 q1 : Nat) (sp dp n : Int32) (n0 n1 : Nat) : Bool := decide (¬ q0 = q1) && (decide (¬ sp < 0) && (decide (¬ dp < 0) && (decide (¬ n < 0) && (decide (sp.toNatClampNeg + n.toNatClampNeg ≤ n0) && decide (dp.toNatClampNeg + n.toNatClampNeg ≤ n1)))))
def vf_n64b (r : UInt64) : Bool := decide (r &&& 0x7fffffffffffffff ≤ 0x7ff0000000000000)
def zx {β : Type} (x : Nat ⊕ Int32) (A : Nat → Option β) (B : Int32 → Option β) : Option β := match x with
  | .inl k => A k
  | .inr v => B v
def z_lim (i : Int32) : Bool := decide (i.toNatClampNeg ≤ 2048)
set_option maxRecDepth 100000 in
def f_X0_init (σ : zSt) (l0 : Nat) : Option (Unit) :=
(some ())
set_option maxRecDepth 100000 in
def f_X0_clear (σ : zSt) (l0 : Nat) : Option (zSt) :=
(if z_ob σ l0 0 then (zl (z_pI σ l0 0 (0 : Int32)) (fun σ2 => (if z_ob σ2 l0 0 then (zl (z_pI σ2 l0 1 (0 : Int32)) (fun σ5 => (if z_ob σ5 l0 0 then (zl (z_pI σ5 l0 2 (0 : Int32)) (fun σ8 => (if z_ob σ8 l0 0 then (zl (z_pI σ8 l0 3 (0 : Int32)) (fun σ11 => (if z_ob σ11 l0 0 then (zl (z_pI σ11 l0 4 (0 : Int32)) (fun σ14 => (if z_ob σ14 l0 0 then (zl (z_pI σ14 l0 5 (0 : Int32)) (fun σ17 => (if z_ob σ17 l0 0 then (zl (z_pI σ17 l0 6 (0 : Int32)) (fun σ20 => (if z_ob σ20 l0 0 then (zl (z_pI σ20 l0 7 (0 : Int32)) (fun σ23 => (if z_ob σ23 l0 0 then (zl (z_pI σ23 l0 8 (0 : Int32)) (fun σ26 => (if z_ob σ26 l0 0 then (zl (z_pJ σ26 l0 9 (0 : Int64)) (fun σ29 => (some σ29))) else none))) else none))) else none))) else none))) else none))) else none))) else none))) else none))) else none))) else none)
set_option maxRecDepth 100000 in
def f_X0_copyFrom (σ : zSt) (l0 : Nat) (l1 : Nat) : Option (zSt) :=
(if z_ob σ l1 0 then (if z_ob σ l0 0 then (zl (z_pI σ l0 0 (z_I σ l1 0)) (fun σ3 => (if z_ob σ3 l1 0 then (if z_ob σ3 l0 0 then (zl (z_pI σ3 l0 1 (z_I σ3 l1 1)) (fun σ7 => (if z_ob σ7 l1 0 then (if z_ob σ7 l0 0 then (zl (z_pI σ7 l0 2 (z_I σ7 l1 2)) (fun σ11 => (if z_ob σ11 l1 0 then (if z_ob σ11 l0 0 then (zl (z_pI σ11 l0 3 (z_I σ11 l1 3)) (fun σ15 => (if z_ob σ15 l1 0 then (if z_ob σ15 l0 0 then (zl (z_pI σ15 l0 4 (z_I σ15 l1 4)) (fun σ19 => (if z_ob σ19 l1 0 then (if z_ob σ19 l0 0 then (zl (z_pI σ19 l0 5 (z_I σ19 l1 5)) (fun σ23 => (if z_ob σ23 l1 0 then (if z_ob σ23 l0 0 then (zl (z_pI σ23 l0 6 (z_I σ23 l1 6)) (fun σ27 => (if z_ob σ27 l1 0 then (if z_ob σ27 l0 0 then (zl (z_pI σ27 l0 7 (z_I σ27 l1 7)) (fun σ31 => (if z_ob σ31 l1 0 then (if z_ob σ31 l0 0 then (zl (z_pI σ31 l0 8 (z_I σ31 l1 8)) (fun σ35 => (if z_ob σ35 l1 0 then (if z_ob σ35 l0 0 then (zl (z_pJ σ35 l0 9 (z_J σ35 l1 9)) (fun σ39 => (some σ39))) else none) else none))) else none) else none))) else none) else none))) else none) else none))) else none) else none))) else none) else none))) else none) else none))) else none) else none))) else none) else none))) else none) else none)
set_option maxRecDepth 100000 in
def f_X0_addSent (σ : zSt) (l0 : Nat) (l1 : Int32) (l2 : Int32) : Option (zSt) :=
(if z_ob σ l0 0 then (zl (z_pI σ l0 1 ((z_I σ l0 1) + (1 : Int32))) (fun σ2 => (if z_ob σ2 l0 0 then (zl (z_pI σ2 l0 6 ((z_I σ2 l0 6) + l1)) (fun σ5 => (if z_ob σ5 l0 0 then (zl (z_pJ σ5 l0 9 ((z_J σ5 l0 9) + l2.toInt64)) (fun σ8 => (if z_ob σ8 l0 0 then (zl (z_pI σ8 l0 8 (if (z_I σ8 l0 8) < l2 then l2 else (z_I σ8 l0 8))) (fun σ11 => (some σ11))) else none))) else none))) else none))) else none)
set_option maxRecDepth 100000 in
def f_X0_value (σ : zSt) (l0 : Nat) (l1 : Int32) : Option (Int32) :=
(if l1 = (0 : Int32) then
(if z_ob σ l0 0 then (some (z_I σ l0 0)) else none)
else
(if l1 = (1 : Int32) then
(if z_ob σ l0 0 then (some (z_I σ l0 1)) else none)
else
(if l1 = (2 : Int32) then
(if z_ob σ l0 0 then (some (z_I σ l0 2)) else none)
else
(if l1 = (3 : Int32) then
(if z_ob σ l0 0 then (some (z_I σ l0 3)) else none)
else
(if l1 = (4 : Int32) then
(if z_ob σ l0 0 then (some (z_I σ l0 4)) else none)
else
(if l1 = (5 : Int32) then
(if z_ob σ l0 0 then (some (z_I σ l0 5)) else none)
else
(if z_ob σ l0 0 then (some (z_I σ l0 6)) else none)))))))
set_option maxRecDepth 100000 in
def f_X7_init (σ : zSt) (l0 : Nat) (l1 : Int32) (l2 : Int32) : Option (zSt) :=
(if z_ob σ l0 7 then (zl (z_pI σ l0 0 l2) (fun σ2 => (if z_nl (l1 * l2) 600 then (zl (z_nw σ2 (.inr (0, (l1 * l2).toNatClampNeg))) (fun σ5 => (if z_ob σ5 l0 7 then (zl (z_pR σ5 l0 1 (some (z_nx σ2))) (fun σ8 => (some σ8))) else none))) else none))) else none)
set_option maxRecDepth 100000 in
def f_X3_init (σ : zSt) (l0 : Nat) : Option (zSt) :=
(zl (z_nw σ (.inl 7)) (fun σ1 => (zb (f_X7_init σ1 (z_nx σ) (100 : Int32) (6 : Int32)) (fun σ4 => (if z_ob σ4 l0 3 then (zl (z_pR σ4 l0 0 (some (z_nx σ))) (fun σ6 => (some σ6))) else none)))))
set_option maxRecDepth 100000 in
def f_X4_init (σ : zSt) (l0 : Nat) : Option (zSt) :=
(zl (z_nw σ (.inr (0, 20))) (fun σ1 => (if z_ob σ1 l0 4 then (zl (z_pR σ1 l0 0 (some (z_nx σ))) (fun σ4 => (zl (z_nw σ4 (.inr (0, 20))) (fun σ6 => (if z_ob σ6 l0 4 then (zl (z_pR σ6 l0 1 (some (z_nx σ4))) (fun σ9 => (some σ9))) else none))))) else none)))
set_option maxRecDepth 100000 in
def f_X6_init (σ : zSt) (l0 : Nat) : Option (Unit) :=
(some ())
set_option maxRecDepth 100000 in
def f_X2_init (σ : zSt) (l0 : Nat) : Option (zSt) :=
(zl (z_nw σ (.inr (3, 8))) (fun σ1 => (if z_ob σ1 l0 2 then (zl (z_pR σ1 l0 0 (some (z_nx σ))) (fun σ4 => (zl (z_nw σ4 (.inl 3)) (fun σ6 => (zb (f_X3_init σ6 (z_nx σ4)) (fun σ9 => (if z_ob σ9 l0 2 then (zl (z_pR σ9 l0 1 (some (z_nx σ4))) (fun σ11 => (zl (z_nw σ11 (.inl 4)) (fun σ13 => (zb (f_X4_init σ13 (z_nx σ11)) (fun σ16 => (if z_ob σ16 l0 2 then (zl (z_pR σ16 l0 2 (some (z_nx σ11))) (fun σ18 => (zl (z_nw σ18 (.inl 0)) (fun σ20 => (zb (f_X0_init σ20 (z_nx σ18)) (fun r23 => (if z_ob σ20 l0 2 then (zl (z_pR σ20 l0 3 (some (z_nx σ18))) (fun σ25 => (zl (z_nw σ25 (.inl 7)) (fun σ27 => (zb (f_X7_init σ27 (z_nx σ25) (40 : Int32) (4 : Int32)) (fun σ30 => (if z_ob σ30 l0 2 then (zl (z_pR σ30 l0 4 (some (z_nx σ25))) (fun σ32 => (if z_ob σ32 l0 2 then (zl (z_pI σ32 l0 6 (60 : Int32)) (fun σ35 => (if z_ob σ35 l0 2 then (zl (z_pI σ35 l0 7 (4 : Int32)) (fun σ38 => (if z_ob σ38 l0 2 then (zl (z_pI σ38 l0 8 (3 : Int32)) (fun σ41 => (if z_ob σ41 l0 2 then (zl (z_pI σ41 l0 10 (-1 : Int32)) (fun σ44 => (if z_ob σ44 l0 2 then (zc (z_R σ44 l0 0) none (fun q47 => (if z_ar σ44 q47 3 then (if (Int32.ofNat (z_ln σ44 q47)) ≤ (0 : Int32) then
(some σ44)
else
(zc (z_R σ44 l0 0) none (fun q50 => (zl (z_nw σ44 (.inl 6)) (fun σ52 => (zb (f_X6_init σ52 (z_nx σ44)) (fun r55 => (if z_ar σ52 q50 3 then (if z_ix (0 : Int32) (z_ln σ52 q50) then (if z_ob σ52 (z_nx σ44) 6 then (zl (z_pR σ52 q50 (0 : Int32).toNatClampNeg (some (z_nx σ44))) (fun σ59 => (if z_ob σ59 l0 2 then (zc (z_R σ59 l0 0) none (fun q62 => (if z_ar σ59 q62 3 then (if (Int32.ofNat (z_ln σ59 q62)) ≤ (1 : Int32) then
(some σ59)
else
(zc (z_R σ59 l0 0) none (fun q65 => (zl (z_nw σ59 (.inl 6)) (fun σ67 => (zb (f_X6_init σ67 (z_nx σ59)) (fun r70 => (if z_ar σ67 q65 3 then (if z_ix (1 : Int32) (z_ln σ67 q65) then (if z_ob σ67 (z_nx σ59) 6 then (zl (z_pR σ67 q65 (1 : Int32).toNatClampNeg (some (z_nx σ59))) (fun σ74 => (if z_ob σ74 l0 2 then (zc (z_R σ74 l0 0) none (fun q77 => (if z_ar σ74 q77 3 then (if (Int32.ofNat (z_ln σ74 q77)) ≤ (2 : Int32) then
(some σ74)
else
(zc (z_R σ74 l0 0) none (fun q80 => (zl (z_nw σ74 (.inl 6)) (fun σ82 => (zb (f_X6_init σ82 (z_nx σ74)) (fun r85 => (if z_ar σ82 q80 3 then (if z_ix (2 : Int32) (z_ln σ82 q80) then (if z_ob σ82 (z_nx σ74) 6 then (zl (z_pR σ82 q80 (2 : Int32).toNatClampNeg (some (z_nx σ74))) (fun σ89 => (if z_ob σ89 l0 2 then (zc (z_R σ89 l0 0) none (fun q92 => (if z_ar σ89 q92 3 then (if (Int32.ofNat (z_ln σ89 q92)) ≤ (3 : Int32) then
(some σ89)
else
(zc (z_R σ89 l0 0) none (fun q95 => (zl (z_nw σ89 (.inl 6)) (fun σ97 => (zb (f_X6_init σ97 (z_nx σ89)) (fun r100 => (if z_ar σ97 q95 3 then (if z_ix (3 : Int32) (z_ln σ97 q95) then (if z_ob σ97 (z_nx σ89) 6 then (zl (z_pR σ97 q95 (3 : Int32).toNatClampNeg (some (z_nx σ89))) (fun σ104 => (if z_ob σ104 l0 2 then (zc (z_R σ104 l0 0) none (fun q107 => (if z_ar σ104 q107 3 then (if (Int32.ofNat (z_ln σ104 q107)) ≤ (4 : Int32) then
(some σ104)
else
(zc (z_R σ104 l0 0) none (fun q110 => (zl (z_nw σ104 (.inl 6)) (fun σ112 => (zb (f_X6_init σ112 (z_nx σ104)) (fun r115 => (if z_ar σ112 q110 3 then (if z_ix (4 : Int32) (z_ln σ112 q110) then (if z_ob σ112 (z_nx σ104) 6 then (zl (z_pR σ112 q110 (4 : Int32).toNatClampNeg (some (z_nx σ104))) (fun σ119 => (if z_ob σ119 l0 2 then (zc (z_R σ119 l0 0) none (fun q122 => (if z_ar σ119 q122 3 then (if (Int32.ofNat (z_ln σ119 q122)) ≤ (5 : Int32) then
(some σ119)
else
(zc (z_R σ119 l0 0) none (fun q125 => (zl (z_nw σ119 (.inl 6)) (fun σ127 => (zb (f_X6_init σ127 (z_nx σ119)) (fun r130 => (if z_ar σ127 q125 3 then (if z_ix (5 : Int32) (z_ln σ127 q125) then (if z_ob σ127 (z_nx σ119) 6 then (zl (z_pR σ127 q125 (5 : Int32).toNatClampNeg (some (z_nx σ119))) (fun σ134 => (if z_ob σ134 l0 2 then (zc (z_R σ134 l0 0) none (fun q137 => (if z_ar σ134 q137 3 then (if (Int32.ofNat (z_ln σ134 q137)) ≤ (6 : Int32) then
(some σ134)
else
(zc (z_R σ134 l0 0) none (fun q140 => (zl (z_nw σ134 (.inl 6)) (fun σ142 => (zb (f_X6_init σ142 (z_nx σ134)) (fun r145 => (if z_ar σ142 q140 3 then (if z_ix (6 : Int32) (z_ln σ142 q140) then (if z_ob σ142 (z_nx σ134) 6 then (zl (z_pR σ142 q140 (6 : Int32).toNatClampNeg (some (z_nx σ134))) (fun σ149 => (if z_ob σ149 l0 2 then (zc (z_R σ149 l0 0) none (fun q152 => (if z_ar σ149 q152 3 then (if (Int32.ofNat (z_ln σ149 q152)) ≤ (7 : Int32) then
(some σ149)
else
(zc (z_R σ149 l0 0) none (fun q155 => (zl (z_nw σ149 (.inl 6)) (fun σ157 => (zb (f_X6_init σ157 (z_nx σ149)) (fun r160 => (if z_ar σ157 q155 3 then (if z_ix (7 : Int32) (z_ln σ157 q155) then (if z_ob σ157 (z_nx σ149) 6 then (zl (z_pR σ157 q155 (7 : Int32).toNatClampNeg (some (z_nx σ149))) (fun σ164 => (if z_ob σ164 l0 2 then (zc (z_R σ164 l0 0) none (fun q167 => (if z_ar σ164 q167 3 then (if (Int32.ofNat (z_ln σ164 q167)) ≤ (8 : Int32) then
(some σ164)
else
(zc (z_R σ164 l0 0) none (fun q170 => (zl (z_nw σ164 (.inl 6)) (fun σ172 => (zb (f_X6_init σ172 (z_nx σ164)) (fun r175 => (if z_ar σ172 q170 3 then (if z_ix (8 : Int32) (z_ln σ172 q170) then (if z_ob σ172 (z_nx σ164) 6 then (zl (z_pR σ172 q170 (8 : Int32).toNatClampNeg (some (z_nx σ164))) (fun σ179 => none)) else none) else none) else none)))))))) else none))) else none))) else none) else none) else none)))))))) else none))) else none))) else none) else none) else none)))))))) else none))) else none))) else none) else none) else none)))))))) else none))) else none))) else none) else none) else none)))))))) else none))) else none))) else none) else none) else none)))))))) else none))) else none))) else none) else none) else none)))))))) else none))) else none))) else none) else none) else none)))))))) else none))) else none))) else none) else none) else none)))))))) else none))) else none))) else none))) else none))) else none))) else none))) else none))))))) else none))))))) else none))))))) else none))))))) else none)))
set_option maxRecDepth 100000 in
def f_X1_init (σ : zSt) (l0 : Nat) : Option (zSt) :=
(zl (z_nw σ (.inr (4, 4))) (fun σ1 => (if z_ob σ1 l0 1 then (zl (z_pR σ1 l0 0 (some (z_nx σ))) (fun σ4 => (if z_ob σ4 l0 1 then (zc (z_R σ4 l0 0) none (fun q7 => (if z_ar σ4 q7 4 then (if (Int32.ofNat (z_ln σ4 q7)) ≤ (0 : Int32) then
(some σ4)
else
(zc (z_R σ4 l0 0) none (fun q10 => (zl (z_nw σ4 (.inl 2)) (fun σ12 => (zb (f_X2_init σ12 (z_nx σ4)) (fun σ15 => (if z_ar σ15 q10 4 then (if z_ix (0 : Int32) (z_ln σ15 q10) then (if z_ob σ15 (z_nx σ4) 2 then (zl (z_pR σ15 q10 (0 : Int32).toNatClampNeg (some (z_nx σ4))) (fun σ19 => (if z_ob σ19 l0 1 then (zc (z_R σ19 l0 0) none (fun q22 => (if z_ar σ19 q22 4 then (if (Int32.ofNat (z_ln σ19 q22)) ≤ (1 : Int32) then
(some σ19)
else
(zc (z_R σ19 l0 0) none (fun q25 => (zl (z_nw σ19 (.inl 2)) (fun σ27 => (zb (f_X2_init σ27 (z_nx σ19)) (fun σ30 => (if z_ar σ30 q25 4 then (if z_ix (1 : Int32) (z_ln σ30 q25) then (if z_ob σ30 (z_nx σ19) 2 then (zl (z_pR σ30 q25 (1 : Int32).toNatClampNeg (some (z_nx σ19))) (fun σ34 => (if z_ob σ34 l0 1 then (zc (z_R σ34 l0 0) none (fun q37 => (if z_ar σ34 q37 4 then (if (Int32.ofNat (z_ln σ34 q37)) ≤ (2 : Int32) then
(some σ34)
else
(zc (z_R σ34 l0 0) none (fun q40 => (zl (z_nw σ34 (.inl 2)) (fun σ42 => (zb (f_X2_init σ42 (z_nx σ34)) (fun σ45 => (if z_ar σ45 q40 4 then (if z_ix (2 : Int32) (z_ln σ45 q40) then (if z_ob σ45 (z_nx σ34) 2 then (zl (z_pR σ45 q40 (2 : Int32).toNatClampNeg (some (z_nx σ34))) (fun σ49 => (if z_ob σ49 l0 1 then (zc (z_R σ49 l0 0) none (fun q52 => (if z_ar σ49 q52 4 then (if (Int32.ofNat (z_ln σ49 q52)) ≤ (3 : Int32) then
(some σ49)
else
(zc (z_R σ49 l0 0) none (fun q55 => (zl (z_nw σ49 (.inl 2)) (fun σ57 => (zb (f_X2_init σ57 (z_nx σ49)) (fun σ60 => (if z_ar σ60 q55 4 then (if z_ix (3 : Int32) (z_ln σ60 q55) then (if z_ob σ60 (z_nx σ49) 2 then (zl (z_pR σ60 q55 (3 : Int32).toNatClampNeg (some (z_nx σ49))) (fun σ64 => (if z_ob σ64 l0 1 then (zc (z_R σ64 l0 0) none (fun q67 => (if z_ar σ64 q67 4 then (if (Int32.ofNat (z_ln σ64 q67)) ≤ (4 : Int32) then
(some σ64)
else
(zc (z_R σ64 l0 0) none (fun q70 => (zl (z_nw σ64 (.inl 2)) (fun σ72 => (zb (f_X2_init σ72 (z_nx σ64)) (fun σ75 => (if z_ar σ75 q70 4 then (if z_ix (4 : Int32) (z_ln σ75 q70) then (if z_ob σ75 (z_nx σ64) 2 then (zl (z_pR σ75 q70 (4 : Int32).toNatClampNeg (some (z_nx σ64))) (fun σ79 => none)) else none) else none) else none)))))))) else none))) else none))) else none) else none) else none)))))))) else none))) else none))) else none) else none) else none)))))))) else none))) else none))) else none) else none) else none)))))))) else none))) else none))) else none) else none) else none)))))))) else none))) else none))) else none)))
set_option maxRecDepth 100000 in
def f_X1_stateAt_23 (σ : zSt) (s0 : Option Nat) : Option (Option Nat) :=
(some s0)
set_option maxRecDepth 100000 in
def f_X1_stateAt_22 (σ : zSt) : Option (Option Nat) :=
(f_X1_stateAt_23 σ none)
set_option maxRecDepth 100000 in
def f_X1_stateAt (σ : zSt) (l0 : Nat) (l1 : Int32) : Option (Option Nat) :=
(if l1 < 0 then
(f_X1_stateAt_22 σ)
else
(if z_ob σ l0 1 then (zc (z_R σ l0 0) none (fun q2 => (if z_ar σ q2 4 then (if (Int32.ofNat (z_ln σ q2)) ≤ l1 then
(f_X1_stateAt_22 σ)
else
(zc (z_R σ l0 0) none (fun q5 => (if z_ar σ q5 4 then (if z_ix l1 (z_ln σ q5) then (zl (z_R σ q5 l1.toNatClampNeg) (fun v9 => (f_X1_stateAt_23 σ v9))) else none) else none)))) else none))) else none))
set_option maxRecDepth 100000 in
def b_X1_dropOldest_8 (l0 : Nat) (l1 : Option Nat) (σ : zSt) (l2 : Int32) : Option ((zSt × Int32) ⊕ (zSt)) :=
(if z_ob σ l0 1 then (zc (z_R σ l0 0) none (fun q2 => (if z_ar σ q2 4 then (if (Int32.ofNat (z_ln σ q2)) ≤ l2 then
(zex (zc (z_R σ l0 0) none (fun q5 => (if z_ar σ q5 4 then (zl (z_pI σ l0 1 ((Int32.ofNat (z_ln σ q5)) - (1 : Int32))) (fun σ8 => (if z_ob σ8 l0 1 then (zc (z_R σ8 l0 0) none (fun q11 => (zc l1 none (fun a13 => (if z_ar σ8 q11 4 then (if z_ix (z_I σ8 l0 1) (z_ln σ8 q11) then (if z_ob σ8 a13 2 then (zl (z_pR σ8 q11 (z_I σ8 l0 1).toNatClampNeg (some a13)) (fun σ18 => (some σ18))) else none) else none) else none))))) else none))) else none))))
else
(zc (z_R σ l0 0) none (fun q21 => (zc (z_R σ l0 0) none (fun q23 => (if z_ar σ q23 4 then (if z_ix l2 (z_ln σ q23) then (zl (z_R σ q23 l2.toNatClampNeg) (fun v27 => (zc v27 none (fun a29 => (if z_ar σ q21 4 then (if z_ix (l2 - (1 : Int32)) (z_ln σ q21) then (if z_ob σ a29 2 then (zl (z_pR σ q21 (l2 - (1 : Int32)).toNatClampNeg (some a29)) (fun σ34 => (some (.inl (σ34, (l2 + (1 : Int32))))))) else none) else none) else none))))) else none) else none)))))) else none))) else none)
set_option maxRecDepth 100000 in
def f_X1_dropOldest_8 (l0 : Nat) (l1 : Option Nat) (σ : zSt) (l2 : Int32) : Option (zSt) := zloop (fun (t : zSt × Int32) => b_X1_dropOldest_8 l0 l1 t.1 t.2) zN (σ, l2)
set_option maxRecDepth 100000 in
def f_X1_dropOldest (σ : zSt) (l0 : Nat) : Option (zSt) :=
(if z_ob σ l0 1 then (zb (f_X1_stateAt σ l0 (0 : Int32)) (fun r3 => (f_X1_dropOldest_8 l0 r3 σ (1 : Int32)))) else none)
set_option maxRecDepth 100000 in
def f_X2_takeTimes (σ : zSt) (l0 : Nat) (l1 : Nat) : Option (zSt) :=
(if z_ob σ l1 2 then (if z_ob σ l0 2 then (zl (z_pI σ l0 6 (z_I σ l1 6)) (fun σ3 => (if z_ob σ3 l1 2 then (if z_ob σ3 l0 2 then (zl (z_pI σ3 l0 7 (z_I σ3 l1 7)) (fun σ7 => (if z_ob σ7 l1 2 then (if z_ob σ7 l0 2 then (zl (z_pI σ7 l0 8 (z_I σ7 l1 8)) (fun σ11 => (some σ11))) else none) else none))) else none) else none))) else none) else none)
set_option maxRecDepth 100000 in
def f_X7_copyFrom (σ : zSt) (l0 : Nat) (l1 : Nat) (l2 : Int32) : Option (zSt) :=
(if z_ob σ l0 7 then (zc (z_R σ l0 1) none (fun q2 => (if z_ar σ q2 0 then (if z_ob σ l1 7 then (zc (z_R σ l1 1) none (fun q6 => (if z_ar σ q6 0 then (zl (if (Int32.ofNat (z_ln σ q6)) < (Int32.ofNat (z_ln σ q2)) then (Int32.ofNat (z_ln σ q6)) else (Int32.ofNat (z_ln σ q2))) (fun x9 => (zl (if (0 : Int32) < (if (l2 * (z_I σ l0 0)) < x9 then (l2 * (z_I σ l0 0)) else x9) then (if (l2 * (z_I σ l0 0)) < x9 then (l2 * (z_I σ l0 0)) else x9) else (0 : Int32)) (fun x11 => (zc (z_R σ l1 1) none (fun q13 => (zc (z_R σ l0 1) none (fun q15 => (if z_ar σ q13 0 then (if z_ar σ q15 0 then (if z_cpg q13 q15 (0 : Int32) (0 : Int32) x11 (z_ln σ q13) (z_ln σ q15) then (zl (z_cp σ q13 q15 (0 : Int32) (0 : Int32) x11) (fun σ20 => (some σ20))) else none) else none) else none))))))))) else none))) else none) else none))) else none)
set_option maxRecDepth 100000 in
def f_X3_copyFrom (σ : zSt) (l0 : Nat) (l1 : Nat) : Option (zSt) :=
(if z_ob σ l1 3 then (if z_ob σ l0 3 then (zl (z_pI σ l0 1 (z_I σ l1 1)) (fun σ3 => (if z_ob σ3 l0 3 then (zc (z_R σ3 l0 0) none (fun q6 => (if z_ob σ3 l1 3 then (zc (z_R σ3 l1 0) none (fun q9 => (if z_ob σ3 q6 7 then (zb (f_X7_copyFrom σ3 q6 q9 (z_I σ3 l1 1)) (fun σ13 => (some σ13))) else none))) else none))) else none))) else none) else none)
set_option maxRecDepth 100000 in
def f_X4_copyFrom_54 (σ : zSt) : Option (zSt) :=
(some σ)
set_option maxRecDepth 100000 in
def b_X4_copyFrom_10 (l0 : Nat) (l1 : Nat) (σ : zSt) (l2 : Int32) : Option ((zSt × Int32) ⊕ (zSt)) :=
(if z_ob σ l0 4 then (if (z_I σ l0 2) ≤ l2 then
(zex (f_X4_copyFrom_54 σ))
else
(if (20 : Int32) ≤ l2 then
(zex (f_X4_copyFrom_54 σ))
else
(zc (z_R σ l0 0) none (fun q4 => (if z_ob σ l1 4 then (zc (z_R σ l1 0) none (fun q7 => (if z_ar σ q7 0 then (if z_ix l2 (z_ln σ q7) then (if z_ar σ q4 0 then (if z_ix l2 (z_ln σ q4) then (zl (z_pI σ q4 l2.toNatClampNeg (z_I σ q7 l2.toNatClampNeg)) (fun σ13 => (if z_ob σ13 l0 4 then (zc (z_R σ13 l0 1) none (fun q16 => (if z_ob σ13 l1 4 then (zc (z_R σ13 l1 1) none (fun q19 => (if z_ar σ13 q19 0 then (if z_ix l2 (z_ln σ13 q19) then (if z_ar σ13 q16 0 then (if z_ix l2 (z_ln σ13 q16) then (zl (z_pI σ13 q16 l2.toNatClampNeg (z_I σ13 q19 l2.toNatClampNeg)) (fun σ25 => (some (.inl (σ25, (l2 + (1 : Int32))))))) else none) else none) else none) else none))) else none))) else none))) else none) else none) else none) else none))) else none))))) else none)
set_option maxRecDepth 100000 in
def f_X4_copyFrom_10 (l0 : Nat) (l1 : Nat) (σ : zSt) (l2 : Int32) : Option (zSt) := zloop (fun (t : zSt × Int32) => b_X4_copyFrom_10 l0 l1 t.1 t.2) zN (σ, l2)
set_option maxRecDepth 100000 in
def f_X4_copyFrom (σ : zSt) (l0 : Nat) (l1 : Nat) : Option (zSt) :=
(if z_ob σ l1 4 then (if z_ob σ l0 4 then (zl (z_pI σ l0 2 (z_I σ l1 2)) (fun σ3 => (f_X4_copyFrom_10 l0 l1 σ3 (0 : Int32)))) else none) else none)
set_option maxRecDepth 100000 in
def f_X2_logLength (σ : zSt) (l0 : Nat) : Option (Int32) :=
(if z_ob σ l0 2 then (zc (z_R σ l0 3) none (fun q2 => (if z_ob σ q2 0 then (some (if (40 : Int32) < (z_I σ q2 0) then (40 : Int32) else (z_I σ q2 0))) else none))) else none)
set_option maxRecDepth 100000 in
def f_X2_stationIn_31 (σ : zSt) (s0 : Option Nat) : Option (Option Nat) :=
(some s0)
set_option maxRecDepth 100000 in
def f_X2_stationIn_30 (σ : zSt) : Option (Option Nat) :=
(f_X2_stationIn_31 σ none)
set_option maxRecDepth 100000 in
def f_X2_stationIn (σ : zSt) (l0 : Nat) (l1 : Int32) : Option (Option Nat) :=
(if l1 < 0 then
(f_X2_stationIn_30 σ)
else
(if z_ob σ l0 2 then (if (z_I σ l0 5) ≤ l1 then
(f_X2_stationIn_30 σ)
else
(zc (z_R σ l0 0) none (fun q2 => (if z_ar σ q2 3 then (if (Int32.ofNat (z_ln σ q2)) ≤ l1 then
(f_X2_stationIn_30 σ)
else
(zc (z_R σ l0 0) none (fun q5 => (if z_ar σ q5 3 then (if z_ix l1 (z_ln σ q5) then (zl (z_R σ q5 l1.toNatClampNeg) (fun v9 => (f_X2_stationIn_31 σ v9))) else none) else none)))) else none)))) else none))
set_option maxRecDepth 100000 in
def f_X6_copyFrom (σ : zSt) (l0 : Nat) (l1 : Nat) : Option (zSt) :=
(if z_ob σ l1 6 then (if z_ob σ l0 6 then (zl (z_pI σ l0 0 (z_I σ l1 0)) (fun σ3 => (if z_ob σ3 l1 6 then (if z_ob σ3 l0 6 then (if z_bl (z_I σ3 l1 1) then (zl (z_pI σ3 l0 1 (z_I σ3 l1 1)) (fun σ8 => (if z_ob σ8 l1 6 then (if z_ob σ8 l0 6 then (if z_bl (z_I σ8 l1 2) then (zl (z_pI σ8 l0 2 (z_I σ8 l1 2)) (fun σ13 => (if z_ob σ13 l1 6 then (if z_ob σ13 l0 6 then (zl (z_pI σ13 l0 3 (z_I σ13 l1 3)) (fun σ17 => (if z_ob σ17 l1 6 then (if z_ob σ17 l0 6 then (zl (z_pI σ17 l0 4 (z_I σ17 l1 4)) (fun σ21 => (if z_ob σ21 l1 6 then (if z_ob σ21 l0 6 then (zl (z_pI σ21 l0 5 (z_I σ21 l1 5)) (fun σ25 => (if z_ob σ25 l1 6 then (if z_ob σ25 l0 6 then (zl (z_pI σ25 l0 6 (z_I σ25 l1 6)) (fun σ29 => (if z_ob σ29 l1 6 then (if z_ob σ29 l0 6 then (zl (z_pI σ29 l0 7 (z_I σ29 l1 7)) (fun σ33 => (if z_ob σ33 l1 6 then (if z_ob σ33 l0 6 then (zl (z_pI σ33 l0 8 (z_I σ33 l1 8)) (fun σ37 => (some σ37))) else none) else none))) else none) else none))) else none) else none))) else none) else none))) else none) else none))) else none) else none))) else none) else none) else none))) else none) else none) else none))) else none) else none)
set_option maxRecDepth 100000 in
def f_X2_copyStations_46 (σ : zSt) (l0 : Nat) (l1 : Nat) (l2 : Int32) : Option ((zSt × Int32) ⊕ (zSt)) :=
(some (.inl (σ, (l2 + (1 : Int32)))))
set_option maxRecDepth 100000 in
def b_X2_copyStations_10 (l0 : Nat) (l1 : Nat) (σ : zSt) (l2 : Int32) : Option ((zSt × Int32) ⊕ (zSt)) :=
(if z_ob σ l0 2 then (if (z_I σ l0 5) ≤ l2 then
(zex (some σ))
else
(if z_ob σ l1 2 then (zb (f_X2_stationIn σ l1 l2) (fun r5 => (zb (f_X2_stationIn σ l0 l2) (fun r7 => (zc r5
(f_X2_copyStations_46 σ l0 l1 l2)
(fun a8 => (zc r7
(f_X2_copyStations_46 σ l0 l1 l2)
(fun a9 => (if z_ob σ a9 6 then (zb (f_X6_copyFrom σ a9 a8) (fun σ12 => (f_X2_copyStations_46 σ12 l0 l1 l2))) else none))))))))) else none)) else none)
set_option maxRecDepth 100000 in
def f_X2_copyStations_10 (l0 : Nat) (l1 : Nat) (σ : zSt) (l2 : Int32) : Option (zSt) := zloop (fun (t : zSt × Int32) => b_X2_copyStations_10 l0 l1 t.1 t.2) zN (σ, l2)
set_option maxRecDepth 100000 in
def f_X2_copyStations (σ : zSt) (l0 : Nat) (l1 : Nat) : Option (zSt) :=
(if z_ob σ l1 2 then (if z_ob σ l0 2 then (zl (z_pI σ l0 5 (z_I σ l1 5)) (fun σ3 => (f_X2_copyStations_10 l0 l1 σ3 (0 : Int32)))) else none) else none)
set_option maxRecDepth 100000 in
def f_X2_copyFrom (σ : zSt) (l0 : Nat) (l1 : Nat) : Option (zSt) :=
(if z_ob σ l0 2 then (zb (f_X2_takeTimes σ l0 l1) (fun σ3 => (if z_ob σ3 l1 2 then (if z_ob σ3 l0 2 then (zl (z_pI σ3 l0 9 (z_I σ3 l1 9)) (fun σ6 => (if z_ob σ6 l1 2 then (if z_ob σ6 l0 2 then (zl (z_pI σ6 l0 10 (z_I σ6 l1 10)) (fun σ10 => (if z_ob σ10 l0 2 then (zc (z_R σ10 l0 1) none (fun q13 => (if z_ob σ10 l1 2 then (zc (z_R σ10 l1 1) none (fun q16 => (if z_ob σ10 q13 3 then (zb (f_X3_copyFrom σ10 q13 q16) (fun σ20 => (if z_ob σ20 l0 2 then (zc (z_R σ20 l0 2) none (fun q22 => (if z_ob σ20 l1 2 then (zc (z_R σ20 l1 2) none (fun q25 => (if z_ob σ20 q22 4 then (zb (f_X4_copyFrom σ20 q22 q25) (fun σ29 => (if z_ob σ29 l0 2 then (zc (z_R σ29 l0 3) none (fun q31 => (if z_ob σ29 l1 2 then (zc (z_R σ29 l1 3) none (fun q34 => (if z_ob σ29 q31 0 then (zb (f_X0_copyFrom σ29 q31 q34) (fun σ38 => (if z_ob σ38 l0 2 then (zc (z_R σ38 l0 4) none (fun q40 => (if z_ob σ38 l1 2 then (zc (z_R σ38 l1 4) none (fun q43 => (zb (f_X2_logLength σ38 l1) (fun r46 => (if z_ob σ38 q40 7 then (zb (f_X7_copyFrom σ38 q40 q43 r46) (fun σ49 => (if z_ob σ49 l0 2 then (zb (f_X2_copyStations σ49 l0 l1) (fun σ52 => (some σ52))) else none))) else none))))) else none))) else none))) else none))) else none))) else none))) else none))) else none))) else none))) else none))) else none))) else none))) else none) else none))) else none) else none))) else none)
set_option maxRecDepth 100000 in
def f_X1_save_44 (σ : zSt) : Option (zSt) :=
(some σ)
set_option maxRecDepth 100000 in
def f_X1_save_16 (σ : zSt) (l0 : Nat) (l1 : Nat) : Option (zSt) :=
(if z_ob σ l0 1 then (zb (f_X1_stateAt σ l0 (z_I σ l0 1)) (fun r3 => (zc r3
(f_X1_save_44 σ)
(fun a4 => (if z_ob σ a4 2 then (zb (f_X2_copyFrom σ a4 l1) (fun σ7 => (if z_ob σ7 l0 1 then (zl (z_pI σ7 l0 1 ((z_I σ7 l0 1) + (1 : Int32))) (fun σ9 => (f_X1_save_44 σ9))) else none))) else none))))) else none)
set_option maxRecDepth 100000 in
def f_X1_save (σ : zSt) (l0 : Nat) (l1 : Nat) : Option (zSt) :=
(if z_ob σ l0 1 then (zc (z_R σ l0 0) none (fun q2 => (if z_ar σ q2 4 then (if (z_I σ l0 1) < (Int32.ofNat (z_ln σ q2)) then
(f_X1_save_16 σ l0 l1)
else
(zb (f_X1_dropOldest σ l0) (fun σ6 => (f_X1_save_16 σ6 l0 l1)))) else none))) else none)
set_option maxRecDepth 100000 in
def f_X1_restore_30 (σ : zSt) : Option (zSt) :=
(some σ)
set_option maxRecDepth 100000 in
def f_X1_restore (σ : zSt) (l0 : Nat) (l1 : Nat) : Option (zSt) :=
(if z_ob σ l0 1 then (zb (f_X1_stateAt σ l0 ((z_I σ l0 1) - (1 : Int32))) (fun r3 => (zc r3
(f_X1_restore_30 σ)
(fun a4 => (if z_ob σ l1 2 then (zb (f_X2_copyFrom σ l1 a4) (fun σ7 => (if z_ob σ7 l0 1 then (zl (z_pI σ7 l0 1 ((z_I σ7 l0 1) - (1 : Int32))) (fun σ9 => (f_X1_restore_30 σ9))) else none))) else none))))) else none)
set_option maxRecDepth 100000 in
def f_X3_clear (σ : zSt) (l0 : Nat) : Option (zSt) :=
(if z_ob σ l0 3 then (zl (z_pI σ l0 1 (0 : Int32)) (fun σ2 => (some σ2))) else none)
set_option maxRecDepth 100000 in
def f_X4_clear (σ : zSt) (l0 : Nat) : Option (zSt) :=
(if z_ob σ l0 4 then (zl (z_pI σ l0 2 (0 : Int32)) (fun σ2 => (some σ2))) else none)
set_option maxRecDepth 100000 in
def f_X2_clear (σ : zSt) (l0 : Nat) : Option (zSt) :=
(if z_ob σ l0 2 then (zl (z_pI σ l0 5 (0 : Int32)) (fun σ2 => (if z_ob σ2 l0 2 then (zc (z_R σ2 l0 1) none (fun q5 => (if z_ob σ2 q5 3 then (zb (f_X3_clear σ2 q5) (fun σ9 => (if z_ob σ9 l0 2 then (zc (z_R σ9 l0 2) none (fun q11 => (if z_ob σ9 q11 4 then (zb (f_X4_clear σ9 q11) (fun σ15 => (if z_ob σ15 l0 2 then (zc (z_R σ15 l0 3) none (fun q17 => (if z_ob σ15 q17 0 then (zb (f_X0_clear σ15 q17) (fun σ21 => (if z_ob σ21 l0 2 then (zl (z_pI σ21 l0 9 (0 : Int32)) (fun σ23 => (if z_ob σ23 l0 2 then (zl (z_pI σ23 l0 10 (-1 : Int32)) (fun σ26 => (some σ26))) else none))) else none))) else none))) else none))) else none))) else none))) else none))) else none))) else none)
set_option maxRecDepth 100000 in
def f_X2_isFull_14 (σ : zSt) (s0 : Int32) : Option (Int32) :=
(if z_bl s0 then (some s0) else none)
set_option maxRecDepth 100000 in
def f_X2_isFull (σ : zSt) (l0 : Nat) : Option (Int32) :=
(if z_ob σ l0 2 then (if (z_I σ l0 5) < (8 : Int32) then
(f_X2_isFull_14 σ (0 : Int32))
else
(f_X2_isFull_14 σ (1 : Int32))) else none)
set_option maxRecDepth 100000 in
def f_X2_isTooLate_14 (σ : zSt) (s0 : Int32) : Option (Int32) :=
(if z_bl s0 then (some s0) else none)
set_option maxRecDepth 100000 in
def f_X2_isTooLate (σ : zSt) (l0 : Nat) : Option (Int32) :=
(if z_ob σ l0 2 then (if (z_I σ l0 9) ≤ (900000 : Int32) then
(f_X2_isTooLate_14 σ (0 : Int32))
else
(f_X2_isTooLate_14 σ (1 : Int32))) else none)
set_option maxRecDepth 100000 in
def f_X2_stationWith_46 (σ : zSt) : Option (Option Nat) :=
(some none)
set_option maxRecDepth 100000 in
def f_X2_stationWith_40 (σ : zSt) (l0 : Nat) (l1 : Int32) (l2 : Int32) : Option ((Int32) ⊕ (Option Nat)) :=
(some (.inl (l2 + (1 : Int32))))
set_option maxRecDepth 100000 in
def b_X2_stationWith_2 (σ : zSt) (l0 : Nat) (l1 : Int32) (l2 : Int32) : Option ((Int32) ⊕ (Option Nat)) :=
(if z_ob σ l0 2 then (if (z_I σ l0 5) ≤ l2 then
(zex (f_X2_stationWith_46 σ))
else
(zc (z_R σ l0 0) none (fun q3 => (if z_ar σ q3 3 then (if (Int32.ofNat (z_ln σ q3)) ≤ l2 then
(zex (f_X2_stationWith_46 σ))
else
(zc (z_R σ l0 0) none (fun q7 => (if z_ar σ q7 3 then (if z_ix l2 (z_ln σ q7) then (zl (z_R σ q7 l2.toNatClampNeg) (fun v11 => (zc v11
(f_X2_stationWith_40 σ l0 l1 l2)
(fun a13 => (if z_ob σ a13 6 then (if (z_I σ a13 0) = l1 then
(zex (some (some a13)))
else
(f_X2_stationWith_40 σ l0 l1 l2)) else none))))) else none) else none)))) else none)))) else none)
set_option maxRecDepth 100000 in
def f_X2_stationWith_2 (σ : zSt) (l0 : Nat) (l1 : Int32) (l2 : Int32) : Option (Option Nat) := zloop (fun (t : Int32) => b_X2_stationWith_2 σ l0 l1 t) zN l2
set_option maxRecDepth 100000 in
def f_X2_stationWith (σ : zSt) (l0 : Nat) (l1 : Int32) : Option (Option Nat) :=
(f_X2_stationWith_2 σ l0 l1 (0 : Int32))
set_option maxRecDepth 100000 in
def f_X6_reset (σ : zSt) (l0 : Nat) (l1 : Int32) : Option (zSt) :=
(if z_ob σ l0 6 then (zl (z_pI σ l0 0 l1) (fun σ2 => (if z_ob σ2 l0 6 then (zl (z_pI σ2 l0 1 (1 : Int32)) (fun σ5 => (if z_ob σ5 l0 6 then (zl (z_pI σ5 l0 2 (0 : Int32)) (fun σ8 => (if z_ob σ8 l0 6 then (zl (z_pI σ8 l0 3 l1) (fun σ11 => (if z_ob σ11 l0 6 then (zl (z_pI σ11 l0 4 l1) (fun σ14 => (if z_ob σ14 l0 6 then (zl (z_pI σ14 l0 5 (-1 : Int32)) (fun σ17 => (if z_ob σ17 l0 6 then (zl (z_pI σ17 l0 6 (0 : Int32)) (fun σ20 => (if z_ob σ20 l0 6 then (zl (z_pI σ20 l0 7 (0 : Int32)) (fun σ23 => (if z_ob σ23 l0 6 then (zl (z_pI σ23 l0 8 (-1 : Int32)) (fun σ26 => (some σ26))) else none))) else none))) else none))) else none))) else none))) else none))) else none))) else none))) else none)
set_option maxRecDepth 100000 in
def f_X2_placeStation_18 (σ : zSt) : Option (Option Nat × zSt) :=
(some (none, σ))
set_option maxRecDepth 100000 in
def f_X2_placeStation_101 (σ : zSt) (l0 : Nat) (l3 : Nat) : Option (Option Nat × zSt) :=
(if z_ob σ l0 2 then (zl (z_pI σ l0 5 ((z_I σ l0 5) + (1 : Int32))) (fun σ2 => (some ((some l3), σ2)))) else none)
set_option maxRecDepth 100000 in
def b_X2_placeStation_38 (l0 : Nat) (l1 : Int32) (l3 : Nat) (σ : zSt) (l2 : Int32) : Option ((zSt × Int32) ⊕ (Option Nat × zSt)) :=
(if l2 ≤ 0 then
(zex (f_X2_placeStation_101 σ l0 l3))
else
(if z_ob σ l0 2 then (zc (z_R σ l0 0) none (fun q3 => (if z_ar σ q3 3 then (if (Int32.ofNat (z_ln σ q3)) ≤ l2 then
(zex (f_X2_placeStation_101 σ l0 l3))
else
(zc (z_R σ l0 0) none (fun q7 => (if z_ar σ q7 3 then (if z_ix (l2 - (1 : Int32)) (z_ln σ q7) then (zl (z_R σ q7 (l2 - (1 : Int32)).toNatClampNeg) (fun v11 => (zc v11
(zex (f_X2_placeStation_101 σ l0 l3))
(fun a13 => (if z_ob σ a13 6 then (if l1 ≤ (z_I σ a13 0) then
(zc (z_R σ l0 0) none (fun q16 => (if z_ar σ q16 3 then (if z_ix l2 (z_ln σ q16) then (zl (z_pR σ q16 l2.toNatClampNeg (some a13)) (fun σ20 => (if z_ob σ20 l0 2 then (zc (z_R σ20 l0 0) none (fun q23 => (if z_ar σ20 q23 3 then (if z_ix (l2 - (1 : Int32)) (z_ln σ20 q23) then (if z_ob σ20 l3 6 then (zl (z_pR σ20 q23 (l2 - (1 : Int32)).toNatClampNeg (some l3)) (fun σ28 => (some (.inl (σ28, (l2 + (-1 : Int32))))))) else none) else none) else none))) else none))) else none) else none)))
else
(zex (f_X2_placeStation_101 σ l0 l3))) else none))))) else none) else none)))) else none))) else none))
set_option maxRecDepth 100000 in
def f_X2_placeStation_38 (l0 : Nat) (l1 : Int32) (l3 : Nat) (σ : zSt) (l2 : Int32) : Option (Option Nat × zSt) := zloop (fun (t : zSt × Int32) => b_X2_placeStation_38 l0 l1 l3 t.1 t.2) zN (σ, l2)
set_option maxRecDepth 100000 in
def f_X2_placeStation (σ : zSt) (l0 : Nat) (l1 : Int32) : Option (Option Nat × zSt) :=
(if z_ob σ l0 2 then (zl (z_I σ l0 5) (fun x2 => (if x2 < 0 then
(f_X2_placeStation_18 σ)
else
(zc (z_R σ l0 0) none (fun q4 => (if z_ar σ q4 3 then (if x2 < (Int32.ofNat (z_ln σ q4)) then
(zc (z_R σ l0 0) none (fun q7 => (if z_ar σ q7 3 then (if z_ix x2 (z_ln σ q7) then (zl (z_R σ q7 x2.toNatClampNeg) (fun v11 => (zc v11
(some (none, σ))
(fun a13 => (if z_ob σ a13 6 then (zb (f_X6_reset σ a13 l1) (fun σ16 => (f_X2_placeStation_38 l0 l1 a13 σ16 x2))) else none))))) else none) else none)))
else
(f_X2_placeStation_18 σ)) else none)))))) else none)
set_option maxRecDepth 100000 in
def f_X2_switchStation_31 (σ : zSt) : Option (zSt) :=
(some σ)
set_option maxRecDepth 100000 in
def f_X2_switchStation (σ : zSt) (l0 : Nat) (l1 : Nat) (l2 : Int32) : Option (zSt) :=
(if z_ob σ l1 6 then (if z_bl l2 then (zl (z_pI σ l1 1 l2) (fun σ3 => (if l2 = 0 then
(if z_ob σ3 l1 6 then (zl (z_pI σ3 l1 2 (0 : Int32)) (fun σ6 => (if z_ob σ6 l0 2 then (if z_ob σ6 l1 6 then (if (z_I σ6 l0 10) = (z_I σ6 l1 0) then
(zl (z_pI σ6 l0 10 (-1 : Int32)) (fun σ10 => (f_X2_switchStation_31 σ10)))
else
(f_X2_switchStation_31 σ6)) else none) else none))) else none)
else
(some σ3)))) else none) else none)
set_option maxRecDepth 100000 in
def f_X2_ringSize_32 (σ : zSt) (l0 : Nat) (l1 : Int32) (l2 : Int32) : Option ((Int32 × Int32) ⊕ (Int32)) :=
(some (.inl (l1, (l2 + (1 : Int32)))))
set_option maxRecDepth 100000 in
def b_X2_ringSize_4 (σ : zSt) (l0 : Nat) (l1 : Int32) (l2 : Int32) : Option ((Int32 × Int32) ⊕ (Int32)) :=
(if z_ob σ l0 2 then (if (z_I σ l0 5) ≤ l2 then
(zex (some l1))
else
(zb (f_X2_stationIn σ l0 l2) (fun r4 => (zc r4
(f_X2_ringSize_32 σ l0 l1 l2)
(fun a5 => (if z_ob σ a5 6 then (if (z_I σ a5 2) = 0 then
(f_X2_ringSize_32 σ l0 l1 l2)
else
(f_X2_ringSize_32 σ l0 (l1 + (1 : Int32)) l2)) else none)))))) else none)
set_option maxRecDepth 100000 in
def f_X2_ringSize_4 (σ : zSt) (l0 : Nat) (l1 : Int32) (l2 : Int32) : Option (Int32) := zloop (fun (t : Int32 × Int32) => b_X2_ringSize_4 σ l0 t.1 t.2) zN (l1, l2)
set_option maxRecDepth 100000 in
def f_X2_ringSize (σ : zSt) (l0 : Nat) : Option (Int32) :=
(f_X2_ringSize_4 σ l0 (0 : Int32) (0 : Int32))
set_option maxRecDepth 100000 in
def f_X2_isComplete_36 (σ : zSt) (l0 : Nat) (l1 : Int32) : Option ((Int32) ⊕ (Int32)) :=
(some (.inl (l1 + (1 : Int32))))
set_option maxRecDepth 100000 in
def b_X2_isComplete_2 (σ : zSt) (l0 : Nat) (l1 : Int32) : Option ((Int32) ⊕ (Int32)) :=
(if z_ob σ l0 2 then (if (z_I σ l0 5) ≤ l1 then
(zex (some (1 : Int32)))
else
(zb (f_X2_stationIn σ l0 l1) (fun r4 => (zc r4
(f_X2_isComplete_36 σ l0 l1)
(fun a5 => (if z_ob σ a5 6 then (if (z_I σ a5 1) = 0 then
(f_X2_isComplete_36 σ l0 l1)
else
(if (z_I σ a5 2) = 0 then
(zex (some (0 : Int32)))
else
(f_X2_isComplete_36 σ l0 l1))) else none)))))) else none)
set_option maxRecDepth 100000 in
def f_X2_isComplete_2 (σ : zSt) (l0 : Nat) (l1 : Int32) : Option (Int32) := zloop (fun (t : Int32) => b_X2_isComplete_2 σ l0 t) zN l1
set_option maxRecDepth 100000 in
def f_X2_isComplete (σ : zSt) (l0 : Nat) : Option (Int32) :=
(f_X2_isComplete_2 σ l0 (0 : Int32))
set_option maxRecDepth 100000 in
def f_X2_isWaitedAt_36 (σ : zSt) (l0 : Nat) (l1 : Int32) : Option ((Int32) ⊕ (Int32)) :=
(some (.inl (l1 + (1 : Int32))))
set_option maxRecDepth 100000 in
def b_X2_isWaitedAt_2 (σ : zSt) (l0 : Nat) (l1 : Int32) : Option ((Int32) ⊕ (Int32)) :=
(if z_ob σ l0 2 then (if (z_I σ l0 5) ≤ l1 then
(zex (some (0 : Int32)))
else
(zb (f_X2_stationIn σ l0 l1) (fun r4 => (zc r4
(f_X2_isWaitedAt_36 σ l0 l1)
(fun a5 => (if z_ob σ a5 6 then (if (z_I σ a5 1) = 0 then
(f_X2_isWaitedAt_36 σ l0 l1)
else
(if (z_I σ a5 6) ≤ 0 then
(f_X2_isWaitedAt_36 σ l0 l1)
else
(zex (some (1 : Int32))))) else none)))))) else none)
set_option maxRecDepth 100000 in
def f_X2_isWaitedAt_2 (σ : zSt) (l0 : Nat) (l1 : Int32) : Option (Int32) := zloop (fun (t : Int32) => b_X2_isWaitedAt_2 σ l0 t) zN l1
set_option maxRecDepth 100000 in
def f_X2_isWaitedAt (σ : zSt) (l0 : Nat) : Option (Int32) :=
(f_X2_isWaitedAt_2 σ l0 (0 : Int32))
set_option maxRecDepth 100000 in
def f_X4_touch_44 (σ : zSt) : Option (Int32) :=
(some (0 : Int32))
set_option maxRecDepth 100000 in
def f_X4_touch_38 (σ : zSt) (l0 : Nat) (l1 : Int32) (l2 : Int32) (l3 : Int32) : Option ((Int32) ⊕ (Int32)) :=
(some (.inl (l3 + (1 : Int32))))
set_option maxRecDepth 100000 in
def b_X4_touch_2 (σ : zSt) (l0 : Nat) (l1 : Int32) (l2 : Int32) (l3 : Int32) : Option ((Int32) ⊕ (Int32)) :=
(if z_ob σ l0 4 then (if (z_I σ l0 2) ≤ l3 then
(zex (f_X4_touch_44 σ))
else
(if (20 : Int32) ≤ l3 then
(zex (f_X4_touch_44 σ))
else
(zc (z_R σ l0 0) none (fun q4 => (if z_ar σ q4 0 then (if z_ix l3 (z_ln σ q4) then (if l2 < (z_I σ q4 l3.toNatClampNeg) then
(f_X4_touch_38 σ l0 l1 l2 l3)
else
(zc (z_R σ l0 1) none (fun q8 => (if z_ar σ q8 0 then (if z_ix l3 (z_ln σ q8) then (if (z_I σ q8 l3.toNatClampNeg) < l1 then
(f_X4_touch_38 σ l0 l1 l2 l3)
else
(zex (some (1 : Int32)))) else none) else none)))) else none) else none))))) else none)
set_option maxRecDepth 100000 in
def f_X4_touch_2 (σ : zSt) (l0 : Nat) (l1 : Int32) (l2 : Int32) (l3 : Int32) : Option (Int32) := zloop (fun (t : Int32) => b_X4_touch_2 σ l0 l1 l2 t) zN l3
set_option maxRecDepth 100000 in
def f_X4_touch (σ : zSt) (l0 : Nat) (l1 : Int32) (l2 : Int32) : Option (Int32) :=
(f_X4_touch_2 σ l0 l1 l2 (0 : Int32))
set_option maxRecDepth 100000 in
def f_X2_transmit_56 (σ : zSt) (s0 : Int32) : Option (Int32 × zSt) :=
(if z_bl s0 then (some (s0, σ)) else none)
set_option maxRecDepth 100000 in
def f_X2_transmit_47 (σ : zSt) (l2 : Int32) : Option (Int32 × zSt) :=
(if l2 = 0 then
(f_X2_transmit_56 σ (1 : Int32))
else
(f_X2_transmit_56 σ (0 : Int32)))
set_option maxRecDepth 100000 in
def f_X2_transmit (σ : zSt) (l0 : Nat) (l1 : Int32) : Option (Int32 × zSt) :=
(if z_ob σ l0 2 then (zc (z_R σ l0 2) none (fun q2 => (if z_ob σ q2 4 then (zb (f_X4_touch σ q2 (z_I σ l0 9) (((z_I σ l0 9) + l1) - (1 : Int32))) (fun r6 => (zl (z_pI σ l0 9 ((z_I σ l0 9) + l1)) (fun σ7 => (if r6 = 0 then
(f_X2_transmit_47 σ7 r6)
else
(if z_ob σ7 l0 2 then (zc (z_R σ7 l0 3) none (fun q10 => (if z_ob σ7 q10 0 then (zl (z_pI σ7 q10 2 ((z_I σ7 q10 2) + (1 : Int32))) (fun σ13 => (f_X2_transmit_47 σ13 r6))) else none))) else none)))))) else none))) else none)
set_option maxRecDepth 100000 in
def f_X7_put_33 (σ : zSt) : Option (zSt) :=
(some σ)
set_option maxRecDepth 100000 in
def f_X7_put (σ : zSt) (l0 : Nat) (l1 : Int32) (l2 : Int32) (l3 : Int32) : Option (zSt) :=
(if z_ob σ l0 7 then (zl ((l1 * (z_I σ l0 0)) + l2) (fun x2 => (if x2 < 0 then
(f_X7_put_33 σ)
else
(zc (z_R σ l0 1) none (fun q4 => (if z_ar σ q4 0 then (if (Int32.ofNat (z_ln σ q4)) ≤ x2 then
(f_X7_put_33 σ)
else
(zc (z_R σ l0 1) none (fun q7 => (if z_ar σ q7 0 then (if z_ix x2 (z_ln σ q7) then (zl (z_pI σ q7 x2.toNatClampNeg l3) (fun σ11 => (f_X7_put_33 σ11))) else none) else none)))) else none)))))) else none)
set_option maxRecDepth 100000 in
def f_X2_logVisit (σ : zSt) (l0 : Nat) (l1 : Int32) (l2 : Int32) (l3 : Int32) (l4 : Int32) : Option (zSt) :=
(if z_ob σ l0 2 then (zc (z_R σ l0 3) none (fun q2 => (if z_ob σ q2 0 then (zl (((z_I σ q2 0) - (1 : Int32)) - ((z_I σ q2 0) - (1 : Int32)) / (40 : Int32) * (40 : Int32)) (fun x5 => (zc (z_R σ l0 4) none (fun q7 => (if z_ob σ q7 7 then (zb (f_X7_put σ q7 x5 (0 : Int32) l1) (fun σ11 => (if z_ob σ11 l0 2 then (zc (z_R σ11 l0 4) none (fun q13 => (if z_ob σ11 q13 7 then (zb (f_X7_put σ11 q13 x5 (1 : Int32) l2) (fun σ17 => (if z_ob σ17 l0 2 then (zc (z_R σ17 l0 4) none (fun q19 => (if z_ob σ17 q19 7 then (zb (f_X7_put σ17 q19 x5 (2 : Int32) l3) (fun σ23 => (if z_ob σ23 l0 2 then (zc (z_R σ23 l0 4) none (fun q25 => (if z_ob σ23 q25 7 then (zb (f_X7_put σ23 q25 x5 (3 : Int32) l4) (fun σ29 => (some σ29))) else none))) else none))) else none))) else none))) else none))) else none))) else none))))) else none))) else none)
set_option maxRecDepth 100000 in
def f_X7_at_32 (σ : zSt) (s0 : Int32) : Option (Int32) :=
(some s0)
set_option maxRecDepth 100000 in
def f_X7_at_31 (σ : zSt) : Option (Int32) :=
(f_X7_at_32 σ (-1 : Int32))
set_option maxRecDepth 100000 in
def f_X7_at (σ : zSt) (l0 : Nat) (l1 : Int32) (l2 : Int32) : Option (Int32) :=
(if z_ob σ l0 7 then (zl ((l1 * (z_I σ l0 0)) + l2) (fun x2 => (if x2 < 0 then
(f_X7_at_31 σ)
else
(zc (z_R σ l0 1) none (fun q4 => (if z_ar σ q4 0 then (if (Int32.ofNat (z_ln σ q4)) ≤ x2 then
(f_X7_at_31 σ)
else
(zc (z_R σ l0 1) none (fun q7 => (if z_ar σ q7 0 then (if z_ix x2 (z_ln σ q7) then (f_X7_at_32 σ (z_I σ q7 x2.toNatClampNeg)) else none) else none)))) else none)))))) else none)
set_option maxRecDepth 100000 in
def f_X2_logValue (σ : zSt) (l0 : Nat) (l1 : Int32) (l2 : Int32) : Option (Int32) :=
(if z_ob σ l0 2 then (zc (z_R σ l0 3) none (fun q2 => (if z_ob σ q2 0 then (zb (f_X2_logLength σ l0) (fun r6 => (zl ((z_I σ q2 0) - r6) (fun x7 => (zc (z_R σ l0 4) none (fun q9 => (if z_ob σ q9 7 then (zb (f_X7_at σ q9 ((x7 + l1) - (x7 + l1) / (40 : Int32) * (40 : Int32)) l2) (fun r13 => (some r13))) else none))))))) else none))) else none)
set_option maxRecDepth 100000 in
def f_X3_number (σ : zSt) (l0 : Nat) : Option (Int32) :=
(if z_ob σ l0 3 then (some (z_I σ l0 1)) else none)
set_option maxRecDepth 100000 in
def f_X2_settingValue (σ : zSt) (l0 : Nat) (l1 : Int32) : Option (Int32) :=
(if l1 = (0 : Int32) then
(if z_ob σ l0 2 then (some (z_I σ l0 6)) else none)
else
(if l1 = (1 : Int32) then
(if z_ob σ l0 2 then (some (z_I σ l0 7)) else none)
else
(if l1 = (2 : Int32) then
(if z_ob σ l0 2 then (some (z_I σ l0 8)) else none)
else
(if l1 = (3 : Int32) then
(if z_ob σ l0 2 then (some (z_I σ l0 5)) else none)
else
(if l1 = (4 : Int32) then
(if z_ob σ l0 2 then (zb (f_X2_ringSize σ l0) (fun r7 => (some r7))) else none)
else
(if l1 = (5 : Int32) then
(if z_ob σ l0 2 then (zc (z_R σ l0 2) none (fun q9 => (if z_ob σ q9 4 then (some (z_I σ q9 2)) else none))) else none)
else
(if l1 = (6 : Int32) then
(if z_ob σ l0 2 then (some (z_I σ l0 9)) else none)
else
(if l1 = (7 : Int32) then
(if z_ob σ l0 2 then (some (z_I σ l0 10)) else none)
else
(if z_ob σ l0 2 then (zc (z_R σ l0 1) none (fun q15 => (if z_ob σ q15 3 then (zb (f_X3_number σ q15) (fun r19 => (some r19))) else none))) else none)))))))))
set_option maxRecDepth 100000 in
def f_X9_mixed (σ : zSt) (l0 : Int64) (l2 : Int64) : Option (Int64) :=
(some (((31 : Int64) * l0) + l2))
set_option maxRecDepth 100000 in
def f_X6_value_52 (σ : zSt) (s0 : Int32) : Option (Int32) :=
(some s0)
set_option maxRecDepth 100000 in
def f_X6_value_65 (σ : zSt) (s0 : Int32) : Option (Int32) :=
(some s0)
set_option maxRecDepth 100000 in
def f_X6_value (σ : zSt) (l0 : Nat) (l1 : Int32) : Option (Int32) :=
(if l1 = (0 : Int32) then
(if z_ob σ l0 6 then (if (z_I σ l0 1) = 0 then
(f_X6_value_52 σ (0 : Int32))
else
(f_X6_value_52 σ (1 : Int32))) else none)
else
(if l1 = (1 : Int32) then
(if z_ob σ l0 6 then (if (z_I σ l0 2) = 0 then
(f_X6_value_65 σ (0 : Int32))
else
(f_X6_value_65 σ (1 : Int32))) else none)
else
(if l1 = (2 : Int32) then
(if z_ob σ l0 6 then (some (z_I σ l0 3)) else none)
else
(if l1 = (3 : Int32) then
(if z_ob σ l0 6 then (some (z_I σ l0 4)) else none)
else
(if l1 = (4 : Int32) then
(if z_ob σ l0 6 then (some (z_I σ l0 6)) else none)
else
(if l1 = (5 : Int32) then
(if z_ob σ l0 6 then (some (z_I σ l0 7)) else none)
else
(if z_ob σ l0 6 then (some (z_I σ l0 8)) else none)))))))
set_option maxRecDepth 100000 in
def f_X3_follower (σ : zSt) (l0 : Nat) (l1 : Int32) : Option (Int32) :=
(if z_ob σ l0 3 then (zc (z_R σ l0 0) none (fun q2 => (if z_ob σ q2 7 then (zb (f_X7_at σ q2 l1 (5 : Int32)) (fun r6 => (some r6))) else none))) else none)
set_option maxRecDepth 100000 in
def b_X2_withStation_56 (σ : zSt) (l0 : Nat) (l3 : Nat) (l4 : Int64) (l6 : Int32) (l7 : Int32) : Option ((Int64 × Int32 × Int32) ⊕ (Int64)) :=
(if z_ob σ l3 6 then (if (z_I σ l3 6) ≤ l7 then
(zex (some l4))
else
(zb (f_X9_mixed σ l4 l6.toInt64) (fun r4 => (if z_ob σ l0 2 then (zc (z_R σ l0 1) none (fun q6 => (if z_ob σ q6 3 then (zb (f_X3_follower σ q6 l6) (fun r10 => (some (.inl (r4, r10, (l7 + (1 : Int32))))))) else none))) else none)))) else none)
set_option maxRecDepth 100000 in
def f_X2_withStation_56 (σ : zSt) (l0 : Nat) (l3 : Nat) (l4 : Int64) (l6 : Int32) (l7 : Int32) : Option (Int64) := zloop (fun (t : Int64 × Int32 × Int32) => b_X2_withStation_56 σ l0 l3 t.1 t.2.1 t.2.2) zN (l4, l6, l7)
set_option maxRecDepth 100000 in
def b_X2_withStation_20 (σ : zSt) (l0 : Nat) (l3 : Nat) (l4 : Int64) (l6 : Int32) : Option ((Int64 × Int32) ⊕ (Int64)) :=
(if (6 : Int32) < l6 then
(zex (if z_ob σ l3 6 then (zl (z_I σ l3 5) (fun x2 => (f_X2_withStation_56 σ l0 l3 l4 x2 (0 : Int32)))) else none))
else
(if z_ob σ l3 6 then (zb (f_X6_value σ l3 l6) (fun r7 => (zb (f_X9_mixed σ l4 r7.toInt64) (fun r9 => (some (.inl (r9, (l6 + (1 : Int32))))))))) else none))
set_option maxRecDepth 100000 in
def f_X2_withStation_20 (σ : zSt) (l0 : Nat) (l3 : Nat) (l4 : Int64) (l6 : Int32) : Option (Int64) := zloop (fun (t : Int64 × Int32) => b_X2_withStation_20 σ l0 l3 t.1 t.2) zN (l4, l6)
set_option maxRecDepth 100000 in
def f_X2_withStation (σ : zSt) (l0 : Nat) (l1 : Int64) (l3 : Option Nat) : Option (Int64) :=
(zc l3
(some l1)
(fun a1 => (if z_ob σ a1 6 then (zb (f_X9_mixed σ l1 ((z_I σ a1 0).toInt64)) (fun r4 => (f_X2_withStation_20 σ l0 a1 r4 (0 : Int32)))) else none)))
set_option maxRecDepth 100000 in
def f_X3_value (σ : zSt) (l0 : Nat) (l1 : Int32) (l2 : Int32) : Option (Int32) :=
(if z_ob σ l0 3 then (zc (z_R σ l0 0) none (fun q2 => (if z_ob σ q2 7 then (zb (f_X7_at σ q2 l1 l2) (fun r6 => (some r6))) else none))) else none)
set_option maxRecDepth 100000 in
def b_X2_withLog_25 (σ : zSt) (l0 : Nat) (l3 : Int32) (l6 : Int32) (l4 : Int64) (l7 : Int32) : Option ((Int64 × Int32) ⊕ ((Int64 × Int32) ⊕ (Int64))) :=
(if (4 : Int32) ≤ l7 then
(zex (some (.inl (l4, (l6 + (1 : Int32))))))
else
(if z_ob σ l0 2 then (zb (f_X2_logValue σ l0 l6 l7) (fun r4 => (zb (f_X9_mixed σ l4 r4.toInt64) (fun r6 => (some (.inl (r6, (l7 + (1 : Int32))))))))) else none))
set_option maxRecDepth 100000 in
def f_X2_withLog_25 (σ : zSt) (l0 : Nat) (l3 : Int32) (l6 : Int32) (l4 : Int64) (l7 : Int32) : Option ((Int64 × Int32) ⊕ (Int64)) := zloop (fun (t : Int64 × Int32) => b_X2_withLog_25 σ l0 l3 l6 t.1 t.2) zN (l4, l7)
set_option maxRecDepth 100000 in
def b_X2_withLog_16 (σ : zSt) (l0 : Nat) (l3 : Int32) (l4 : Int64) (l6 : Int32) : Option ((Int64 × Int32) ⊕ (Int64)) :=
(if l3 ≤ l6 then
(zex (some l4))
else
(f_X2_withLog_25 σ l0 l3 l6 l4 (0 : Int32)))
set_option maxRecDepth 100000 in
def f_X2_withLog_16 (σ : zSt) (l0 : Nat) (l3 : Int32) (l4 : Int64) (l6 : Int32) : Option (Int64) := zloop (fun (t : Int64 × Int32) => b_X2_withLog_16 σ l0 l3 t.1 t.2) zN (l4, l6)
set_option maxRecDepth 100000 in
def f_X2_withLog (σ : zSt) (l0 : Nat) (l1 : Int64) : Option (Int64) :=
(if z_ob σ l0 2 then (zb (f_X2_logLength σ l0) (fun r3 => (zb (f_X9_mixed σ l1 r3.toInt64) (fun r5 => (f_X2_withLog_16 σ l0 r3 r5 (0 : Int32)))))) else none)
set_option maxRecDepth 100000 in
def b_X2_hashed_116 (σ : zSt) (l0 : Nat) (l3 : Int64) (l5 : Int32) : Option ((Int64 × Int32) ⊕ (Int64)) :=
(if (6 : Int32) < l5 then
(zex (if z_ob σ l0 2 then (zc (z_R σ l0 3) none (fun q2 => (if z_ob σ q2 0 then (zb (f_X9_mixed σ l3 ((z_I σ q2 7).toInt64)) (fun r6 => (zb (f_X2_withLog σ l0 r6) (fun r8 => (some r8))))) else none))) else none))
else
(if z_ob σ l0 2 then (zc (z_R σ l0 3) none (fun q11 => (if z_ob σ q11 0 then (zb (f_X0_value σ q11 l5) (fun r15 => (zb (f_X9_mixed σ l3 r15.toInt64) (fun r17 => (some (.inl (r17, (l5 + (1 : Int32))))))))) else none))) else none))
set_option maxRecDepth 100000 in
def f_X2_hashed_116 (σ : zSt) (l0 : Nat) (l3 : Int64) (l5 : Int32) : Option (Int64) := zloop (fun (t : Int64 × Int32) => b_X2_hashed_116 σ l0 t.1 t.2) zN (l3, l5)
set_option maxRecDepth 100000 in
def b_X2_hashed_78 (σ : zSt) (l0 : Nat) (l5 : Int32) (l3 : Int64) (l6 : Int32) : Option ((Int64 × Int32) ⊕ ((Int64 × Int32) ⊕ (Int64))) :=
(if (4 : Int32) < l6 then
(zex (some (.inl (l3, (l5 + (1 : Int32))))))
else
(if z_ob σ l0 2 then (zc (z_R σ l0 1) none (fun q3 => (if z_ob σ q3 3 then (zb (f_X3_value σ q3 l5 l6) (fun r7 => (zb (f_X9_mixed σ l3 r7.toInt64) (fun r9 => (some (.inl (r9, (l6 + (1 : Int32))))))))) else none))) else none))
set_option maxRecDepth 100000 in
def f_X2_hashed_78 (σ : zSt) (l0 : Nat) (l5 : Int32) (l3 : Int64) (l6 : Int32) : Option ((Int64 × Int32) ⊕ (Int64)) := zloop (fun (t : Int64 × Int32) => b_X2_hashed_78 σ l0 l5 t.1 t.2) zN (l3, l6)
set_option maxRecDepth 100000 in
def b_X2_hashed_63 (σ : zSt) (l0 : Nat) (l3 : Int64) (l5 : Int32) : Option ((Int64 × Int32) ⊕ (Int64)) :=
(if z_ob σ l0 2 then (zc (z_R σ l0 1) none (fun q2 => (if z_ob σ q2 3 then (zb (f_X3_number σ q2) (fun r6 => (if r6 ≤ l5 then
(zex (f_X2_hashed_116 σ l0 l3 (0 : Int32)))
else
(f_X2_hashed_78 σ l0 l5 l3 (0 : Int32))))) else none))) else none)
set_option maxRecDepth 100000 in
def f_X2_hashed_63 (σ : zSt) (l0 : Nat) (l3 : Int64) (l5 : Int32) : Option (Int64) := zloop (fun (t : Int64 × Int32) => b_X2_hashed_63 σ l0 t.1 t.2) zN (l3, l5)
set_option maxRecDepth 100000 in
def b_X2_hashed_33 (σ : zSt) (l0 : Nat) (l3 : Int64) (l5 : Int32) : Option ((Int64 × Int32) ⊕ (Int64)) :=
(if z_ob σ l0 2 then (if (z_I σ l0 5) ≤ l5 then
(zex (f_X2_hashed_63 σ l0 l3 (0 : Int32)))
else
(zb (f_X2_stationIn σ l0 l5) (fun r4 => (zb (f_X2_withStation σ l0 l3 r4) (fun r6 => (some (.inl (r6, (l5 + (1 : Int32)))))))))) else none)
set_option maxRecDepth 100000 in
def f_X2_hashed_33 (σ : zSt) (l0 : Nat) (l3 : Int64) (l5 : Int32) : Option (Int64) := zloop (fun (t : Int64 × Int32) => b_X2_hashed_33 σ l0 t.1 t.2) zN (l3, l5)
set_option maxRecDepth 100000 in
def b_X2_hashed_5 (σ : zSt) (l0 : Nat) (l3 : Int64) (l5 : Int32) : Option ((Int64 × Int32) ⊕ (Int64)) :=
(if (8 : Int32) < l5 then
(zex (f_X2_hashed_33 σ l0 l3 (0 : Int32)))
else
(if z_ob σ l0 2 then (zb (f_X2_settingValue σ l0 l5) (fun r4 => (zb (f_X9_mixed σ l3 r4.toInt64) (fun r6 => (some (.inl (r6, (l5 + (1 : Int32))))))))) else none))
set_option maxRecDepth 100000 in
def f_X2_hashed_5 (σ : zSt) (l0 : Nat) (l3 : Int64) (l5 : Int32) : Option (Int64) := zloop (fun (t : Int64 × Int32) => b_X2_hashed_5 σ l0 t.1 t.2) zN (l3, l5)
set_option maxRecDepth 100000 in
def f_X2_hashed (σ : zSt) (l0 : Nat) (l1 : Int64) : Option (Int64) :=
(f_X2_hashed_5 σ l0 l1 (0 : Int32))
set_option maxRecDepth 100000 in
def f_X3_isFull_14 (σ : zSt) (s0 : Int32) : Option (Int32) :=
(if z_bl s0 then (some s0) else none)
set_option maxRecDepth 100000 in
def f_X3_isFull (σ : zSt) (l0 : Nat) : Option (Int32) :=
(if z_ob σ l0 3 then (if (z_I σ l0 1) < (100 : Int32) then
(f_X3_isFull_14 σ (0 : Int32))
else
(f_X3_isFull_14 σ (1 : Int32))) else none)
set_option maxRecDepth 100000 in
def f_X3_has_17 (σ : zSt) (s0 : Int32) : Option (Int32) :=
(if z_bl s0 then (some s0) else none)
set_option maxRecDepth 100000 in
def f_X3_has_16 (σ : zSt) : Option (Int32) :=
(f_X3_has_17 σ (0 : Int32))
set_option maxRecDepth 100000 in
def f_X3_has (σ : zSt) (l0 : Nat) (l1 : Int32) : Option (Int32) :=
(if l1 < 0 then
(f_X3_has_16 σ)
else
(if z_ob σ l0 3 then (if (z_I σ l0 1) ≤ l1 then
(f_X3_has_16 σ)
else
(f_X3_has_17 σ (1 : Int32))) else none))
set_option maxRecDepth 100000 in
def f_X3_isUrgent_26 (σ : zSt) (s0 : Int32) : Option (Int32) :=
(if z_bl s0 then (some s0) else none)
set_option maxRecDepth 100000 in
def f_X3_isUrgent_25 (σ : zSt) : Option (Int32) :=
(f_X3_isUrgent_26 σ (0 : Int32))
set_option maxRecDepth 100000 in
def f_X3_isUrgent (σ : zSt) (l0 : Nat) (l1 : Int32) : Option (Int32) :=
(if z_ob σ l0 3 then (zb (f_X3_has σ l0 l1) (fun r3 => (if r3 = 0 then
(f_X3_isUrgent_25 σ)
else
(zc (z_R σ l0 0) none (fun q4 => (if z_ob σ q4 7 then (zb (f_X7_at σ q4 l1 (1 : Int32)) (fun r8 => (if r8 < (5 : Int32) then
(f_X3_isUrgent_25 σ)
else
(f_X3_isUrgent_26 σ (1 : Int32))))) else none)))))) else none)
set_option maxRecDepth 100000 in
def f_X3_enqueue_92 (σ : zSt) (l1 : Nat) : Option (zSt) :=
(if z_ob σ l1 6 then (zl (z_pI σ l1 6 ((z_I σ l1 6) + (1 : Int32))) (fun σ2 => (some σ2))) else none)
set_option maxRecDepth 100000 in
def f_X3_enqueue_56 (σ : zSt) (l0 : Nat) (l1 : Nat) (l2 : Int32) (l4 : Int32) (l5 : Int32) : Option (zSt) :=
(if z_ob σ l0 3 then (zc (z_R σ l0 0) none (fun q2 => (if z_ob σ q2 7 then (zb (f_X7_put σ q2 l2 (5 : Int32) l5) (fun σ6 => (if l4 = (-1 : Int32) then
(if z_ob σ6 l1 6 then (zl (z_pI σ6 l1 5 l2) (fun σ14 => (f_X3_enqueue_92 σ14 l1))) else none)
else
(if z_ob σ6 l0 3 then (zc (z_R σ6 l0 0) none (fun q8 => (if z_ob σ6 q8 7 then (zb (f_X7_put σ6 q8 l4 (5 : Int32) l2) (fun σ12 => (f_X3_enqueue_92 σ12 l1))) else none))) else none)))) else none))) else none)
set_option maxRecDepth 100000 in
def b_X3_enqueue_12 (σ : zSt) (l0 : Nat) (l1 : Nat) (l2 : Int32) (l3 : Int32) (l4 : Int32) (l5 : Int32) (l6 : Int32) : Option ((Int32 × Int32 × Int32) ⊕ (zSt)) :=
(if z_ob σ l1 6 then (if (z_I σ l1 6) ≤ l6 then
(zex (f_X3_enqueue_56 σ l0 l1 l2 l4 l5))
else
(if z_ob σ l0 3 then (zc (z_R σ l0 0) none (fun q4 => (if z_ob σ q4 7 then (zb (f_X7_at σ q4 l5 (1 : Int32)) (fun r8 => (if l3 ≤ r8 then
(zb (f_X3_follower σ l0 l5) (fun r10 => (some (.inl (l5, r10, (l6 + (1 : Int32)))))))
else
(zex (f_X3_enqueue_56 σ l0 l1 l2 l4 l5))))) else none))) else none)) else none)
set_option maxRecDepth 100000 in
def f_X3_enqueue_12 (σ : zSt) (l0 : Nat) (l1 : Nat) (l2 : Int32) (l3 : Int32) (l4 : Int32) (l5 : Int32) (l6 : Int32) : Option (zSt) := zloop (fun (t : Int32 × Int32 × Int32) => b_X3_enqueue_12 σ l0 l1 l2 l3 t.1 t.2.1 t.2.2) zN (l4, l5, l6)
set_option maxRecDepth 100000 in
def f_X3_enqueue (σ : zSt) (l0 : Nat) (l1 : Nat) (l2 : Int32) (l3 : Int32) : Option (zSt) :=
(if z_ob σ l1 6 then (zl (z_I σ l1 5) (fun x2 => (f_X3_enqueue_12 σ l0 l1 l2 l3 (-1 : Int32) x2 (0 : Int32)))) else none)
set_option maxRecDepth 100000 in
def f_X3_add (σ : zSt) (l0 : Nat) (l1 : Nat) (l2 : Int32) (l3 : Int32) (l4 : Int32) : Option (Int32 × zSt) :=
(if z_ob σ l0 3 then (zl (z_I σ l0 1) (fun x2 => (zl (z_pI σ l0 1 ((z_I σ l0 1) + (1 : Int32))) (fun σ4 => (if z_ob σ4 l0 3 then (zc (z_R σ4 l0 0) none (fun q7 => (if z_ob σ4 q7 7 then (zb (f_X7_put σ4 q7 x2 (0 : Int32) l2) (fun σ11 => (if z_ob σ11 l0 3 then (zc (z_R σ11 l0 0) none (fun q13 => (if z_ob σ11 q13 7 then (zb (f_X7_put σ11 q13 x2 (1 : Int32) l3) (fun σ17 => (if z_ob σ17 l0 3 then (zc (z_R σ17 l0 0) none (fun q19 => (if z_ob σ17 l1 6 then (if z_ob σ17 q19 7 then (zb (f_X7_put σ17 q19 x2 (2 : Int32) (z_I σ17 l1 0)) (fun σ24 => (if z_ob σ24 l0 3 then (zc (z_R σ24 l0 0) none (fun q26 => (if z_ob σ24 q26 7 then (zb (f_X7_put σ24 q26 x2 (3 : Int32) l4) (fun σ30 => (if z_ob σ30 l0 3 then (zc (z_R σ30 l0 0) none (fun q32 => (if z_ob σ30 q32 7 then (zb (f_X7_put σ30 q32 x2 (4 : Int32) (-1 : Int32)) (fun σ36 => (if z_ob σ36 l0 3 then (zb (f_X3_enqueue σ36 l0 l1 x2 l3) (fun σ39 => (some (x2, σ39)))) else none))) else none))) else none))) else none))) else none))) else none) else none))) else none))) else none))) else none))) else none))) else none))))) else none)
set_option maxRecDepth 100000 in
def b_X3_inQueue_8 (σ : zSt) (l0 : Nat) (l2 : Int32) (l3 : Int32) (l4 : Int32) : Option ((Int32 × Int32) ⊕ (Int32)) :=
(if l2 ≤ l4 then
(zex (some l3))
else
(if z_ob σ l0 3 then (zb (f_X3_follower σ l0 l3) (fun r4 => (some (.inl (r4, (l4 + (1 : Int32))))))) else none))
set_option maxRecDepth 100000 in
def f_X3_inQueue_8 (σ : zSt) (l0 : Nat) (l2 : Int32) (l3 : Int32) (l4 : Int32) : Option (Int32) := zloop (fun (t : Int32 × Int32) => b_X3_inQueue_8 σ l0 l2 t.1 t.2) zN (l3, l4)
set_option maxRecDepth 100000 in
def f_X3_inQueue (σ : zSt) (l0 : Nat) (l1 : Nat) (l2 : Int32) : Option (Int32) :=
(if z_ob σ l1 6 then (zl (z_I σ l1 5) (fun x2 => (f_X3_inQueue_8 σ l0 l2 x2 (0 : Int32)))) else none)
set_option maxRecDepth 100000 in
def f_X3_takeFirst (σ : zSt) (l0 : Nat) (l1 : Nat) (l2 : Int32) : Option (Int32 × zSt) :=
(if z_ob σ l1 6 then (zl (z_I σ l1 5) (fun x2 => (if z_ob σ l0 3 then (zc (z_R σ l0 0) none (fun q5 => (if z_ob σ q5 7 then (zb (f_X7_at σ q5 x2 (3 : Int32)) (fun r9 => (zl (l2 - r9) (fun x10 => (zc (z_R σ l0 0) none (fun q12 => (if z_ob σ q12 7 then (zb (f_X7_put σ q12 x2 (4 : Int32) x10) (fun σ16 => (if z_ob σ16 l0 3 then (zb (f_X3_follower σ16 l0 x2) (fun r19 => (if z_ob σ16 l1 6 then (zl (z_pI σ16 l1 5 r19) (fun σ21 => (if z_ob σ21 l1 6 then (zl (z_pI σ21 l1 6 ((z_I σ21 l1 6) - (1 : Int32))) (fun σ24 => (some (x10, σ24)))) else none))) else none))) else none))) else none))))))) else none))) else none))) else none)
set_option maxRecDepth 100000 in
def f_X4_isFull_14 (σ : zSt) (s0 : Int32) : Option (Int32) :=
(if z_bl s0 then (some s0) else none)
set_option maxRecDepth 100000 in
def f_X4_isFull (σ : zSt) (l0 : Nat) : Option (Int32) :=
(if z_ob σ l0 4 then (if (z_I σ l0 2) < (20 : Int32) then
(f_X4_isFull_14 σ (0 : Int32))
else
(f_X4_isFull_14 σ (1 : Int32))) else none)
set_option maxRecDepth 100000 in
def f_X4_add_46 (σ : zSt) : Option (zSt) :=
(some σ)
set_option maxRecDepth 100000 in
def f_X4_add (σ : zSt) (l0 : Nat) (l1 : Int32) (l2 : Int32) : Option (zSt) :=
(if z_ob σ l0 4 then (if (z_I σ l0 2) < 0 then
(f_X4_add_46 σ)
else
(if (20 : Int32) ≤ (z_I σ l0 2) then
(f_X4_add_46 σ)
else
(zc (z_R σ l0 0) none (fun q2 => (if z_ar σ q2 0 then (if z_ix (z_I σ l0 2) (z_ln σ q2) then (zl (z_pI σ q2 (z_I σ l0 2).toNatClampNeg l1) (fun σ6 => (if z_ob σ6 l0 4 then (zc (z_R σ6 l0 1) none (fun q9 => (if z_ar σ6 q9 0 then (if z_ix (z_I σ6 l0 2) (z_ln σ6 q9) then (zl (z_pI σ6 q9 (z_I σ6 l0 2).toNatClampNeg l2) (fun σ13 => (if z_ob σ13 l0 4 then (zl (z_pI σ13 l0 2 ((z_I σ13 l0 2) + (1 : Int32))) (fun σ16 => (f_X4_add_46 σ16))) else none))) else none) else none))) else none))) else none) else none))))) else none)
set_option maxRecDepth 100000 in
def f_X5_init (σ : zSt) (l0 : Nat) (l1 : Nat) (l2 : Int32) (l3 : Nat) : Option (zSt) :=
(if z_ob σ l0 5 then (zl (z_pI σ l0 5 (-1 : Int32)) (fun σ2 => (if z_ob σ2 l0 5 then (zl (z_pR σ2 l0 0 (some l1)) (fun σ5 => (if z_ob σ5 l0 5 then (zl (z_pI σ5 l0 1 l2) (fun σ8 => (if z_ob σ8 l0 5 then (zl (z_pR σ8 l0 2 (some l3)) (fun σ11 => (some σ11))) else none))) else none))) else none))) else none)
set_option maxRecDepth 100000 in
def f_X5_sign_43 (σ : zSt) (s0 : Int32) : Option (Int32) :=
(some s0)
set_option maxRecDepth 100000 in
def f_X5_sign_42 (σ : zSt) : Option (Int32) :=
(f_X5_sign_43 σ (-1 : Int32))
set_option maxRecDepth 100000 in
def f_X5_sign (σ : zSt) (l0 : Nat) : Option (Int32) :=
(if z_ob σ l0 5 then (if (z_I σ l0 3) < 0 then
(f_X5_sign_42 σ)
else
(if (z_I σ l0 1) ≤ (z_I σ l0 3) then
(f_X5_sign_42 σ)
else
(zc (z_R σ l0 0) none (fun q2 => (if z_ar σ q2 1 then (if (Int32.ofNat (z_ln σ q2)) ≤ (z_I σ l0 3) then
(f_X5_sign_42 σ)
else
(zc (z_R σ l0 0) none (fun q5 => (if z_ar σ q5 1 then (if z_ix (z_I σ l0 3) (z_ln σ q5) then (f_X5_sign_43 σ (z_I σ q5 (z_I σ l0 3).toNatClampNeg)) else none) else none)))) else none))))) else none)
set_option maxRecDepth 100000 in
def f_X5_digit_25 (σ : zSt) (s0 : Int32) : Option (Int32) :=
(some s0)
set_option maxRecDepth 100000 in
def f_X5_digit_24 (σ : zSt) : Option (Int32) :=
(f_X5_digit_25 σ (-1 : Int32))
set_option maxRecDepth 100000 in
def f_X5_digit (σ : zSt) (l0 : Nat) : Option (Int32) :=
(if z_ob σ l0 5 then (zb (f_X5_sign σ l0) (fun r3 => (if r3 < (48 : Int32) then
(f_X5_digit_24 σ)
else
(if (57 : Int32) < r3 then
(f_X5_digit_24 σ)
else
(f_X5_digit_25 σ (r3 - (48 : Int32))))))) else none)
set_option maxRecDepth 100000 in
def f_X5_failsAt (σ : zSt) (l0 : Nat) (l1 : Int32) : Option (Int32 × zSt) :=
(if z_ob σ l0 5 then (zl (z_pI σ l0 5 l1) (fun σ2 => (some ((0 : Int32), σ2)))) else none)
set_option maxRecDepth 100000 in
def f_X5_readNumber (σ : zSt) (l0 : Nat) : Option (Int32 × zSt) :=
(if z_ob σ l0 5 then (zb (f_X5_digit σ l0) (fun r3 => (if r3 = (-1 : Int32) then
(zb2 (f_X5_failsAt σ l0 (z_I σ l0 3)) (fun r18 σ19 => (some ((-1 : Int32), σ19))))
else
(zl (z_pI σ l0 3 ((z_I σ l0 3) + (1 : Int32))) (fun σ4 => (if z_ob σ4 l0 5 then (zb (f_X5_digit σ4 l0) (fun r8 => (if r8 = (-1 : Int32) then
(some (r3, σ4))
else
(zl (z_pI σ4 l0 3 ((z_I σ4 l0 3) + (1 : Int32))) (fun σ9 => (if z_ob σ9 l0 5 then (zb (f_X5_digit σ9 l0) (fun r13 => (if r13 = (-1 : Int32) then
(some ((((10 : Int32) * r3) + r8), σ9))
else
(zb2 (f_X5_failsAt σ9 l0 (z_I σ9 l0 3)) (fun r15 σ16 => (some ((-1 : Int32), σ16))))))) else none)))))) else none)))))) else none)
set_option maxRecDepth 100000 in
def f_X9_isWithin_15 (σ : zSt) (s0 : Int32) : Option (Int32) :=
(if z_bl s0 then (some s0) else none)
set_option maxRecDepth 100000 in
def f_X9_isWithin_14 (σ : zSt) : Option (Int32) :=
(f_X9_isWithin_15 σ (0 : Int32))
set_option maxRecDepth 100000 in
def f_X9_isWithin (σ : zSt) (l0 : Int32) (l1 : Int32) (l2 : Int32) : Option (Int32) :=
(if l0 < l1 then
(f_X9_isWithin_14 σ)
else
(if l2 < l0 then
(f_X9_isWithin_14 σ)
else
(f_X9_isWithin_15 σ (1 : Int32))))
set_option maxRecDepth 100000 in
def f_X9_isAddress (σ : zSt) (l0 : Int32) : Option (Int32) :=
(zb (f_X9_isWithin σ l0 (0 : Int32) (31 : Int32)) (fun r2 => (if z_bl r2 then (some r2) else none)))
set_option maxRecDepth 100000 in
def f_X5_skips (σ : zSt) (l0 : Nat) (l1 : Int32) : Option (Int32 × zSt) :=
(if z_ob σ l0 5 then (zb (f_X5_sign σ l0) (fun r3 => (if r3 = l1 then
(zl (z_pI σ l0 3 ((z_I σ l0 3) + (1 : Int32))) (fun σ4 => (some ((1 : Int32), σ4))))
else
(zb2 (f_X5_failsAt σ l0 (z_I σ l0 3)) (fun r7 σ8 => (if z_bl r7 then (some (r7, σ8)) else none)))))) else none)
set_option maxRecDepth 100000 in
def f_X5_readStation_35 (σ : zSt) (l0 : Nat) (l1 : Int32) : Option (Int32 × zSt) :=
(if z_ob σ l0 5 then (zb2 (f_X5_failsAt σ l0 l1) (fun r3 σ4 => (if z_bl r3 then (some (r3, σ4)) else none))) else none)
set_option maxRecDepth 100000 in
def f_X5_readStation (σ : zSt) (l0 : Nat) : Option (Int32 × zSt) :=
(if z_ob σ l0 5 then (zl (z_I σ l0 3) (fun x2 => (zb2 (f_X5_readNumber σ l0) (fun r5 σ6 => (if r5 = (-1 : Int32) then
(some ((0 : Int32), σ6))
else
(zb (f_X9_isAddress σ6 r5) (fun r8 => (if r8 = 0 then
(f_X5_readStation_35 σ6 l0 x2)
else
(if z_ob σ6 l0 5 then (zc (z_R σ6 l0 2) none (fun q10 => (if z_ob σ6 q10 2 then (zb (f_X2_stationWith σ6 q10 r5) (fun r14 => (zc r14
(zb2 (f_X5_skips σ6 l0 (59 : Int32)) (fun r17 σ18 => (if r17 = 0 then
(some ((0 : Int32), σ18))
else
(if z_ob σ18 l0 5 then (zc (z_R σ18 l0 2) none (fun q20 => (if z_ob σ18 q20 2 then (zb2 (f_X2_placeStation σ18 q20 r5) (fun r24 σ25 => (if z_ob σ25 l0 5 then (zl (z_pR σ25 l0 4 r24) (fun σ27 => (some ((1 : Int32), σ27)))) else none))) else none))) else none))))
(fun a15 => (f_X5_readStation_35 σ6 l0 x2))))) else none))) else none))))))))) else none)
set_option maxRecDepth 100000 in
def f_X5_readMessage_89 (σ : zSt) : Option (Int32 × zSt) :=
(some ((0 : Int32), σ))
set_option maxRecDepth 100000 in
def f_X5_readMessage (σ : zSt) (l0 : Nat) : Option (Int32 × zSt) :=
(if z_ob σ l0 5 then (zl (z_I σ l0 3) (fun x2 => (zb2 (f_X5_readNumber σ l0) (fun r5 σ6 => (if r5 = (-1 : Int32) then
(some ((0 : Int32), σ6))
else
(zb (f_X9_isWithin σ6 r5 (1 : Int32) (20 : Int32)) (fun r8 => (if r8 = 0 then
(if z_ob σ6 l0 5 then (zb2 (f_X5_failsAt σ6 l0 x2) (fun r49 σ50 => (if z_bl r49 then (some (r49, σ50)) else none))) else none)
else
(if z_ob σ6 l0 5 then (zb2 (f_X5_skips σ6 l0 (44 : Int32)) (fun r11 σ12 => (if r11 = 0 then
(some ((0 : Int32), σ12))
else
(if z_ob σ12 l0 5 then (zb (f_X5_digit σ12 l0) (fun r15 => (if r15 = (-1 : Int32) then
(zb2 (f_X5_failsAt σ12 l0 (z_I σ12 l0 3)) (fun r44 σ45 => (if z_bl r44 then (some (r44, σ45)) else none)))
else
(zl (z_pI σ12 l0 3 ((z_I σ12 l0 3) + (1 : Int32))) (fun σ16 => (if z_ob σ16 l0 5 then (zb2 (f_X5_skips σ16 l0 (59 : Int32)) (fun r20 σ21 => (if r20 = 0 then
(f_X5_readMessage_89 σ21)
else
(if z_ob σ21 l0 5 then (zl (z_R σ21 l0 4) (fun v23 => (zc v23
(f_X5_readMessage_89 σ21)
(fun a25 => (zc (z_R σ21 l0 2) none (fun q26 => (if z_ob σ21 q26 2 then (zc (z_R σ21 q26 1) none (fun q29 => (zl (z_R σ21 l0 4) (fun v31 => (zc (z_R σ21 l0 2) none (fun q33 => (if z_ob σ21 q33 2 then (zc v31 none (fun a36 => (if z_ob σ21 q29 3 then (zb2 (f_X3_add σ21 q29 a36 r5 r15 (z_I σ21 q33 9)) (fun r40 σ41 => (some ((1 : Int32), σ41)))) else none))) else none))))))) else none))))))) else none)))) else none)))))) else none)))) else none))))))))) else none)
set_option maxRecDepth 100000 in
def f_X5_readItem_64 (σ : zSt) (l0 : Nat) : Option (Int32 × zSt) :=
(if z_ob σ l0 5 then (zb2 (f_X5_failsAt σ l0 (z_I σ l0 3)) (fun r3 σ4 => (if z_bl r3 then (some (r3, σ4)) else none))) else none)
set_option maxRecDepth 100000 in
def f_X5_readItem_36 (σ : zSt) (l0 : Nat) (l1 : Int32) : Option (Int32 × zSt) :=
(if l1 = (109 : Int32) then
(if z_ob σ l0 5 then (zl (z_R σ l0 4) (fun v2 => (zc v2
(f_X5_readItem_64 σ l0)
(fun a4 => (zl (z_pI σ l0 3 ((z_I σ l0 3) + (1 : Int32))) (fun σ5 => (if z_ob σ5 l0 5 then (zb2 (f_X5_readMessage σ5 l0) (fun r9 σ10 => (if z_bl r9 then (some (r9, σ10)) else none))) else none))))))) else none)
else
(f_X5_readItem_64 σ l0))
set_option maxRecDepth 100000 in
def f_X5_readItem (σ : zSt) (l0 : Nat) : Option (Int32 × zSt) :=
(if z_ob σ l0 5 then (zb (f_X5_sign σ l0) (fun r3 => (if r3 = (115 : Int32) then
(zc (z_R σ l0 2) none (fun q4 => (if z_ob σ q4 2 then (zb (f_X2_isFull σ q4) (fun r8 => (if r8 = 0 then
(zl (z_pI σ l0 3 ((z_I σ l0 3) + (1 : Int32))) (fun σ9 => (if z_ob σ9 l0 5 then (zb2 (f_X5_readStation σ9 l0) (fun r13 σ14 => (if z_bl r13 then (some (r13, σ14)) else none))) else none)))
else
(f_X5_readItem_36 σ l0 r3)))) else none)))
else
(f_X5_readItem_36 σ l0 r3)))) else none)
set_option maxRecDepth 100000 in
def f_X5_readItems_36 (σ : zSt) (l1 : Int32) : Option (Int32 × zSt) :=
(some (l1, σ))
set_option maxRecDepth 100000 in
def b_X5_readItems_2 (l0 : Nat) (σ : zSt) (l1 : Int32) : Option ((zSt × Int32) ⊕ (Int32 × zSt)) :=
(if z_ob σ l0 5 then (if (z_I σ l0 1) ≤ l1 then
(zex (f_X5_readItems_36 σ l1))
else
(if (z_I σ l0 1) ≤ (z_I σ l0 3) then
(zex (f_X5_readItems_36 σ l1))
else
(zb2 (f_X5_readItem σ l0) (fun r5 σ6 => (if r5 = 0 then
(zex (some ((-1 : Int32), σ6)))
else
(some (.inl (σ6, (l1 + (1 : Int32)))))))))) else none)
set_option maxRecDepth 100000 in
def f_X5_readItems_2 (l0 : Nat) (σ : zSt) (l1 : Int32) : Option (Int32 × zSt) := zloop (fun (t : zSt × Int32) => b_X5_readItems_2 l0 t.1 t.2) zN (σ, l1)
set_option maxRecDepth 100000 in
def f_X5_readItems (σ : zSt) (l0 : Nat) : Option (Int32 × zSt) :=
(f_X5_readItems_2 l0 σ (0 : Int32))
set_option maxRecDepth 100000 in
def f_X8_lowest_40 (σ : zSt) (l0 : Nat) (l1 : Int32) (l2 : Int32) : Option ((Int32) ⊕ (Option Nat)) :=
(some (.inl (l2 + (1 : Int32))))
set_option maxRecDepth 100000 in
def f_X8_lowest_38 (σ : zSt) (l3 : Nat) : Option (Option Nat) :=
(some (some l3))
set_option maxRecDepth 100000 in
def b_X8_lowest_2 (σ : zSt) (l0 : Nat) (l1 : Int32) (l2 : Int32) : Option ((Int32) ⊕ (Option Nat)) :=
(if z_ob σ l0 2 then (if (z_I σ l0 5) ≤ l2 then
(zex (some none))
else
(zb (f_X2_stationIn σ l0 l2) (fun r4 => (zc r4
(f_X8_lowest_40 σ l0 l1 l2)
(fun a5 => (if z_ob σ a5 6 then (if (z_I σ a5 1) = 0 then
(f_X8_lowest_40 σ l0 l1 l2)
else
(if (z_I σ a5 2) = 0 then
(if l1 = 0 then
(zex (f_X8_lowest_38 σ a5))
else
(f_X8_lowest_40 σ l0 l1 l2))
else
(zex (f_X8_lowest_38 σ a5)))) else none)))))) else none)
set_option maxRecDepth 100000 in
def f_X8_lowest_2 (σ : zSt) (l0 : Nat) (l1 : Int32) (l2 : Int32) : Option (Option Nat) := zloop (fun (t : Int32) => b_X8_lowest_2 σ l0 l1 t) zN l2
set_option maxRecDepth 100000 in
def f_X8_lowest (σ : zSt) (l0 : Nat) (l1 : Int32) : Option (Option Nat) :=
(f_X8_lowest_2 σ l0 l1 (0 : Int32))
set_option maxRecDepth 100000 in
def f_X8_makeAnew_65 (σ : zSt) (l0 : Nat) (l1 : Nat) : Option (Option Nat × zSt) :=
(if z_ob σ l1 6 then (if z_ob σ l0 2 then (zl (z_pI σ l0 10 (z_I σ l1 0)) (fun σ3 => (if z_ob σ3 l0 2 then (zc (z_R σ3 l0 3) none (fun q6 => (if z_ob σ3 q6 0 then (zl (z_pI σ3 q6 3 ((z_I σ3 q6 3) + (1 : Int32))) (fun σ9 => (some ((some l1), σ9)))) else none))) else none))) else none) else none)
set_option maxRecDepth 100000 in
def f_X8_makeAnew_16 (σ : zSt) (l0 : Nat) (l1 : Option Nat) : Option (Option Nat × zSt) :=
(zc l1
(some (none, σ))
(fun a1 => (if z_ob σ l0 2 then (if z_ob σ a1 6 then (zl (z_pI σ l0 9 ((z_I σ l0 9) + ((z_I σ l0 7) * ((6 : Int32) + ((2 : Int32) * (z_I σ a1 0)))))) (fun σ4 => (if z_ob σ4 a1 6 then (if (z_I σ4 a1 2) = 0 then
(zl (z_pI σ4 a1 2 (1 : Int32)) (fun σ7 => (if z_ob σ7 a1 6 then (zl (z_pI σ7 a1 3 (z_I σ7 a1 0)) (fun σ10 => (f_X8_makeAnew_65 σ10 l0 a1))) else none)))
else
(f_X8_makeAnew_65 σ4 l0 a1)) else none))) else none) else none)))
set_option maxRecDepth 100000 in
def f_X8_makeAnew (σ : zSt) (l0 : Nat) : Option (Option Nat × zSt) :=
(zb (f_X8_lowest σ l0 (1 : Int32)) (fun r2 => (zc r2
(zb (f_X8_lowest σ l0 (0 : Int32)) (fun r5 => (f_X8_makeAnew_16 σ l0 r5)))
(fun a3 => (f_X8_makeAnew_16 σ l0 (some a3))))))
set_option maxRecDepth 100000 in
def f_X8_beginVisit_21 (σ : zSt) (l0 : Nat) (l1 : Nat) (s0 : Int32) : Option (Int32 × zSt) :=
(if z_ob σ l0 2 then (if z_ob σ l1 6 then (zl (z_pI σ l1 8 (z_I σ l0 9)) (fun σ3 => (if z_ob σ3 l1 6 then (zl (z_pI σ3 l1 7 ((z_I σ3 l1 7) + (1 : Int32))) (fun σ6 => (if z_ob σ6 l0 2 then (zc (z_R σ6 l0 3) none (fun q9 => (if z_ob σ6 q9 0 then (zl (z_pI σ6 q9 0 ((z_I σ6 q9 0) + (1 : Int32))) (fun σ12 => (if z_ob σ12 l0 2 then (zc (z_R σ12 l0 3) none (fun q15 => (zc (z_R σ12 l0 3) none (fun q17 => (if z_ob σ12 q17 0 then (if z_ob σ12 q15 0 then (zl (z_pI σ12 q15 7 (if (z_I σ12 q17 7) < s0 then s0 else (z_I σ12 q17 7))) (fun σ21 => (some (s0, σ21)))) else none) else none))))) else none))) else none))) else none))) else none))) else none) else none)
set_option maxRecDepth 100000 in
def f_X8_beginVisit (σ : zSt) (l0 : Nat) (l1 : Nat) : Option (Int32 × zSt) :=
(if z_ob σ l1 6 then (if (z_I σ l1 8) = (-1 : Int32) then
(f_X8_beginVisit_21 σ l0 l1 (0 : Int32))
else
(if z_ob σ l0 2 then (f_X8_beginVisit_21 σ l0 l1 ((z_I σ l0 9) - (z_I σ l1 8))) else none)) else none)
set_option maxRecDepth 100000 in
def f_X8_sendFirst (σ : zSt) (l0 : Nat) (l1 : Nat) : Option (Int32 × zSt) :=
(if z_ob σ l0 2 then (zc (z_R σ l0 1) none (fun q2 => (if z_ob σ l1 6 then (if z_ob σ q2 3 then (zb (f_X3_value σ q2 (z_I σ l1 5) (0 : Int32)) (fun r7 => (zl (z_I σ l0 9) (fun x8 => (zb2 (f_X2_transmit σ l0 r7) (fun r11 σ12 => (if r11 = 0 then
(some ((0 : Int32), σ12))
else
(if z_ob σ12 l0 2 then (zc (z_R σ12 l0 3) none (fun q14 => (zc (z_R σ12 l0 1) none (fun q16 => (if z_ob σ12 q16 3 then (zb2 (f_X3_takeFirst σ12 q16 l1 x8) (fun r20 σ21 => (if z_ob σ21 q14 0 then (zb (f_X0_addSent σ21 q14 r7 r20) (fun σ24 => (some ((1 : Int32), σ24)))) else none))) else none))))) else none)))))))) else none) else none))) else none)
set_option maxRecDepth 100000 in
def f_X8_sendMessages_73 (σ : zSt) (l4 : Int32) : Option (Int32 × zSt) :=
(some (l4, σ))
set_option maxRecDepth 100000 in
def f_X8_sendMessages_53 (σ : zSt) (l0 : Nat) (l1 : Nat) (l2 : Int32) (l3 : Int32) (l4 : Int32) : Option ((zSt × Int32 × Int32) ⊕ (Int32 × zSt)) :=
(zb2 (f_X8_sendFirst σ l0 l1) (fun r2 σ3 => (if r2 = 0 then
(zex (f_X8_sendMessages_73 σ3 l4))
else
(some (.inl (σ3, (l4 + (1 : Int32)), (0 : Int32)))))))
set_option maxRecDepth 100000 in
def b_X8_sendMessages_21 (l0 : Nat) (l1 : Nat) (l2 : Int32) (l3 : Int32) (σ : zSt) (l4 : Int32) (l5 : Int32) : Option ((zSt × Int32 × Int32) ⊕ (Int32 × zSt)) :=
(if (100 : Int32) ≤ l4 then
(zex (f_X8_sendMessages_73 σ l4))
else
(if z_ob σ l1 6 then (if (z_I σ l1 6) ≤ 0 then
(zex (f_X8_sendMessages_73 σ l4))
else
(if l5 = 0 then
(if z_ob σ l0 2 then (if ((z_I σ l0 9) - l3) < l2 then
(f_X8_sendMessages_53 σ l0 l1 l2 l3 l4)
else
(zex (f_X8_sendMessages_73 σ l4))) else none)
else
(f_X8_sendMessages_53 σ l0 l1 l2 l3 l4))) else none))
set_option maxRecDepth 100000 in
def f_X8_sendMessages_21 (l0 : Nat) (l1 : Nat) (l2 : Int32) (l3 : Int32) (σ : zSt) (l4 : Int32) (l5 : Int32) : Option (Int32 × zSt) := zloop (fun (t : zSt × Int32 × Int32) => b_X8_sendMessages_21 l0 l1 l2 l3 t.1 t.2.1 t.2.2) zN (σ, l4, l5)
set_option maxRecDepth 100000 in
def f_X8_sendMessages (σ : zSt) (l0 : Nat) (l1 : Nat) (l2 : Int32) : Option (Int32 × zSt) :=
(if z_ob σ l0 2 then (zl (z_I σ l0 9) (fun x2 => (zc (z_R σ l0 1) none (fun q4 => (if z_ob σ l1 6 then (if z_ob σ q4 3 then (zb (f_X3_isUrgent σ q4 (z_I σ l1 5)) (fun r9 => (f_X8_sendMessages_21 l0 l1 l2 x2 σ (0 : Int32) r9))) else none) else none))))) else none)
set_option maxRecDepth 100000 in
def f_X9_addressBehind (σ : zSt) (l0 : Int32) : Option (Int32) :=
(some ((l0 + (1 : Int32)) &&& (31 : Int32)))
set_option maxRecDepth 100000 in
def f_X8_comesIn_39 (σ : zSt) : Option (Int32 × zSt) :=
(some ((0 : Int32), σ))
set_option maxRecDepth 100000 in
def f_X8_comesIn_20 (σ : zSt) (l0 : Nat) (l1 : Nat) (s0 : Option Nat) : Option (Int32 × zSt) :=
(zc s0
(f_X8_comesIn_39 σ)
(fun a1 => (if z_ob σ a1 6 then (if (z_I σ a1 1) = 0 then
(f_X8_comesIn_39 σ)
else
(if (z_I σ a1 2) = 0 then
(if z_ob σ l0 2 then (zb2 (f_X2_transmit σ l0 (1 : Int32)) (fun r5 σ6 => (if r5 = 0 then
(some ((0 : Int32), σ6))
else
(if z_ob σ6 a1 6 then (zl (z_pI σ6 a1 2 (1 : Int32)) (fun σ8 => (if z_ob σ8 l1 6 then (if z_ob σ8 a1 6 then (zl (z_pI σ8 a1 3 (z_I σ8 l1 3)) (fun σ12 => (if z_ob σ12 a1 6 then (zl (z_pI σ12 a1 4 (z_I σ12 a1 0)) (fun σ15 => (if z_ob σ15 a1 6 then (if z_ob σ15 l1 6 then (zl (z_pI σ15 l1 3 (z_I σ15 a1 0)) (fun σ19 => (if z_ob σ19 l0 2 then (zc (z_R σ19 l0 3) none (fun q22 => (if z_ob σ19 q22 0 then (zl (z_pI σ19 q22 4 ((z_I σ19 q22 4) + (1 : Int32))) (fun σ25 => (some ((1 : Int32), σ25)))) else none))) else none))) else none) else none))) else none))) else none) else none))) else none)))) else none)
else
(f_X8_comesIn_39 σ))) else none)))
set_option maxRecDepth 100000 in
def f_X8_comesIn (σ : zSt) (l0 : Nat) (l1 : Nat) : Option (Int32 × zSt) :=
(if z_ob σ l0 2 then (zb2 (f_X2_transmit σ l0 (1 : Int32)) (fun r3 σ4 => (if r3 = 0 then
(f_X8_comesIn_20 σ4 l0 l1 none)
else
(if z_ob σ4 l1 6 then (if z_ob σ4 l0 2 then (zb (f_X2_stationWith σ4 l0 (z_I σ4 l1 4)) (fun r8 => (f_X8_comesIn_20 σ4 l0 l1 r8))) else none) else none)))) else none)
set_option maxRecDepth 100000 in
def f_X8_pollGap_20 (σ : zSt) : Option (zSt) :=
(some σ)
set_option maxRecDepth 100000 in
def f_X8_pollGap_121 (σ : zSt) : Option (zSt) :=
(some σ)
set_option maxRecDepth 100000 in
def f_X8_pollGap_97 (σ : zSt) (l0 : Nat) (l1 : Nat) (s0 : Int32) (s1 : Option Nat) : Option (zSt) :=
(zc s1 none (fun a1 => (if z_ob σ a1 6 then (zl (z_pI σ a1 4 s0) (fun σ4 => (zb2 (f_X8_comesIn σ4 l0 l1) (fun r7 σ8 => (if r7 = 0 then
(if z_ob σ8 l0 2 then (zl (z_pI σ8 l0 9 ((z_I σ8 l0 9) + (z_I σ8 l0 7))) (fun σ10 => (f_X8_pollGap_121 σ10))) else none)
else
(f_X8_pollGap_121 σ8)))))) else none)))
set_option maxRecDepth 100000 in
def f_X8_pollGap_72 (σ : zSt) (l0 : Nat) (l1 : Nat) (s0 : Int32) : Option (zSt) :=
(if s0 = 0 then
(if z_ob σ l1 6 then (zb (f_X9_addressBehind σ (z_I σ l1 0)) (fun r3 => (f_X8_pollGap_97 σ l0 l1 r3 (some l1)))) else none)
else
(if z_ob σ l1 6 then (zb (f_X9_addressBehind σ (z_I σ l1 4)) (fun r6 => (f_X8_pollGap_97 σ l0 l1 r6 (some l1)))) else none))
set_option maxRecDepth 100000 in
def f_X8_pollGap_71 (σ : zSt) (l0 : Nat) (l1 : Nat) : Option (zSt) :=
(f_X8_pollGap_72 σ l0 l1 (0 : Int32))
set_option maxRecDepth 100000 in
def f_X8_pollGap (σ : zSt) (l0 : Nat) (l1 : Nat) : Option (zSt) :=
(if z_ob σ l0 2 then (if (z_I σ l0 8) < (1 : Int32) then
(f_X8_pollGap_20 σ)
else
(if z_ob σ l1 6 then (if ¬ (z_I σ l0 8) = 0 then (if ((z_I σ l1 7) - (z_I σ l1 7) / (z_I σ l0 8) * (z_I σ l0 8)) = 0 then
(zl ((((z_I σ l1 3) - (z_I σ l1 0)) - (1 : Int32)) &&& (31 : Int32)) (fun x4 => (if x4 = 0 then
(some σ)
else
(zb (f_X9_addressBehind σ (z_I σ l1 4)) (fun r7 => (zl ((r7 - (z_I σ l1 0)) &&& (31 : Int32)) (fun x8 => (if x8 < (1 : Int32) then
(f_X8_pollGap_71 σ l0 l1)
else
(if x4 < x8 then
(f_X8_pollGap_71 σ l0 l1)
else
(f_X8_pollGap_72 σ l0 l1 (1 : Int32)))))))))))
else
(f_X8_pollGap_20 σ)) else none) else none)) else none)
set_option maxRecDepth 100000 in
def f_X8_reaches_38 (σ : zSt) (l0 : Nat) : Option (Int32 × zSt) :=
(if z_ob σ l0 2 then (zl (z_pI σ l0 9 ((z_I σ l0 9) + (z_I σ l0 7))) (fun σ2 => (some ((0 : Int32), σ2)))) else none)
set_option maxRecDepth 100000 in
def f_X8_reaches_17 (σ : zSt) (l0 : Nat) (s0 : Option Nat) : Option (Int32 × zSt) :=
(zc s0
(f_X8_reaches_38 σ l0)
(fun a1 => (if z_ob σ a1 6 then (if (z_I σ a1 1) = 0 then
(f_X8_reaches_38 σ l0)
else
(if (z_I σ a1 2) = 0 then
(f_X8_reaches_38 σ l0)
else
(some ((1 : Int32), σ)))) else none)))
set_option maxRecDepth 100000 in
def f_X8_reaches (σ : zSt) (l0 : Nat) (l1 : Int32) : Option (Int32 × zSt) :=
(if z_ob σ l0 2 then (zb2 (f_X2_transmit σ l0 (1 : Int32)) (fun r3 σ4 => (if r3 = 0 then
(f_X8_reaches_17 σ4 l0 none)
else
(if z_ob σ4 l0 2 then (zb (f_X2_stationWith σ4 l0 l1) (fun r7 => (f_X8_reaches_17 σ4 l0 r7))) else none)))) else none)
set_option maxRecDepth 100000 in
def b_X8_passToNext_2 (l0 : Nat) (l1 : Nat) (σ : zSt) (l2 : Int32) : Option ((zSt × Int32) ⊕ (Int32 × zSt)) :=
(if (3 : Int32) ≤ l2 then
(zex (some ((0 : Int32), σ)))
else
(if z_ob σ l1 6 then (zb2 (f_X8_reaches σ l0 (z_I σ l1 3)) (fun r4 σ5 => (if r4 = 0 then
(some (.inl (σ5, (l2 + (1 : Int32)))))
else
(zex (if z_ob σ5 l1 6 then (if z_ob σ5 l0 2 then (zl (z_pI σ5 l0 10 (z_I σ5 l1 3)) (fun σ8 => (some ((1 : Int32), σ8)))) else none) else none))))) else none))
set_option maxRecDepth 100000 in
def f_X8_passToNext_2 (l0 : Nat) (l1 : Nat) (σ : zSt) (l2 : Int32) : Option (Int32 × zSt) := zloop (fun (t : zSt × Int32) => b_X8_passToNext_2 l0 l1 t.1 t.2) zN (σ, l2)
set_option maxRecDepth 100000 in
def f_X8_passToNext (σ : zSt) (l0 : Nat) (l1 : Nat) : Option (Int32 × zSt) :=
(f_X8_passToNext_2 l0 l1 σ (0 : Int32))
set_option maxRecDepth 100000 in
def f_X8_dropSilent_43 (σ : zSt) : Option (zSt) :=
(some σ)
set_option maxRecDepth 100000 in
def f_X8_dropSilent (σ : zSt) (l0 : Nat) (l1 : Nat) : Option (zSt) :=
(if z_ob σ l1 6 then (if z_ob σ l0 2 then (zb (f_X2_stationWith σ l0 (z_I σ l1 3)) (fun r4 => (zc r4
(f_X8_dropSilent_43 σ)
(fun a5 => (if (some a5) = (some l1) then
(f_X8_dropSilent_43 σ)
else
(if z_ob σ a5 6 then (if (z_I σ a5 2) = 0 then
(f_X8_dropSilent_43 σ)
else
(zl (z_pI σ a5 2 (0 : Int32)) (fun σ7 => (if z_ob σ7 l0 2 then (zc (z_R σ7 l0 3) none (fun q10 => (if z_ob σ7 q10 0 then (zl (z_pI σ7 q10 5 ((z_I σ7 q10 5) + (1 : Int32))) (fun σ13 => (f_X8_dropSilent_43 σ13))) else none))) else none)))) else none)))))) else none) else none)
set_option maxRecDepth 100000 in
def f_X8_askOthers_54 (σ : zSt) (l1 : Nat) : Option (zSt) :=
(if z_ob σ l1 6 then (zl (z_pI σ l1 3 (z_I σ l1 0)) (fun σ2 => (some σ2))) else none)
set_option maxRecDepth 100000 in
def b_X8_askOthers_10 (l0 : Nat) (l1 : Nat) (σ : zSt) (l2 : Int32) (l3 : Int32) : Option ((zSt × Int32 × Int32) ⊕ (zSt)) :=
(if (31 : Int32) < l3 then
(zex (f_X8_askOthers_54 σ l1))
else
(if z_ob σ l1 6 then (if l2 = (z_I σ l1 0) then
(zex (f_X8_askOthers_54 σ l1))
else
(zb2 (f_X8_reaches σ l0 l2) (fun r5 σ6 => (if r5 = 0 then
(zb (f_X9_addressBehind σ6 l2) (fun r8 => (some (.inl (σ6, r8, (l3 + (1 : Int32)))))))
else
(zex (if z_ob σ6 l1 6 then (zl (z_pI σ6 l1 3 l2) (fun σ10 => (if z_ob σ10 l0 2 then (zl (z_pI σ10 l0 10 l2) (fun σ13 => (some σ13))) else none))) else none)))))) else none))
set_option maxRecDepth 100000 in
def f_X8_askOthers_10 (l0 : Nat) (l1 : Nat) (σ : zSt) (l2 : Int32) (l3 : Int32) : Option (zSt) := zloop (fun (t : zSt × Int32 × Int32) => b_X8_askOthers_10 l0 l1 t.1 t.2.1 t.2.2) zN (σ, l2, l3)
set_option maxRecDepth 100000 in
def f_X8_askOthers (σ : zSt) (l0 : Nat) (l1 : Nat) : Option (zSt) :=
(if z_ob σ l1 6 then (zb (f_X9_addressBehind σ (z_I σ l1 3)) (fun r3 => (f_X8_askOthers_10 l0 l1 σ r3 (0 : Int32)))) else none)
set_option maxRecDepth 100000 in
def f_X8_makeVisit_70 (σ : zSt) (l0 : Nat) (l1 : Nat) (l2 : Int32) (l3 : Int32) (l4 : Int32) : Option (zSt) :=
(if z_ob σ l1 6 then (if z_ob σ l0 2 then (zb (f_X2_logVisit σ l0 l2 (z_I σ l1 0) l3 l4) (fun σ4 => (some σ4))) else none) else none)
set_option maxRecDepth 100000 in
def f_X8_makeVisit_18 (σ : zSt) (l0 : Nat) (l1 : Option Nat) : Option (zSt) :=
(zc l1
(some σ)
(fun a1 => (if z_ob σ l0 2 then (zl (z_I σ l0 9) (fun x3 => (zb2 (f_X8_beginVisit σ l0 a1) (fun r6 σ7 => (if z_ob σ7 l0 2 then (zb2 (f_X8_sendMessages σ7 l0 a1 ((z_I σ7 l0 6) - r6)) (fun r10 σ11 => (zb (f_X8_pollGap σ11 l0 a1) (fun σ13 => (zb2 (f_X8_passToNext σ13 l0 a1) (fun r15 σ16 => (if r15 = 0 then
(zb (f_X8_dropSilent σ16 l0 a1) (fun σ18 => (zb (f_X8_askOthers σ18 l0 a1) (fun σ20 => (f_X8_makeVisit_70 σ20 l0 a1 x3 r6 r10)))))
else
(f_X8_makeVisit_70 σ16 l0 a1 x3 r6 r10)))))))) else none))))) else none)))
set_option maxRecDepth 100000 in
def f_X8_makeVisit (σ : zSt) (l0 : Nat) : Option (zSt) :=
(if z_ob σ l0 2 then (zb (f_X2_stationWith σ l0 (z_I σ l0 10)) (fun r3 => (zc r3
(zb2 (f_X8_makeAnew σ l0) (fun r6 σ7 => (f_X8_makeVisit_18 σ7 l0 r6)))
(fun a4 => (f_X8_makeVisit_18 σ l0 (some a4)))))) else none)
set_option maxRecDepth 100000 in
def f_X9_init (σ : zSt) (l0 : Nat) : Option (zSt) :=
(zl (z_nw σ (.inl 2)) (fun σ1 => (zb (f_X2_init σ1 (z_nx σ)) (fun σ4 => (if z_ob σ4 l0 8 then (zl (z_pR σ4 l0 0 (some (z_nx σ))) (fun σ6 => (zl (z_nw σ6 (.inl 2)) (fun σ8 => (zb (f_X2_init σ8 (z_nx σ6)) (fun σ11 => (if z_ob σ11 l0 8 then (zl (z_pR σ11 l0 1 (some (z_nx σ6))) (fun σ13 => (zl (z_nw σ13 (.inl 1)) (fun σ15 => (zb (f_X1_init σ15 (z_nx σ13)) (fun σ18 => (if z_ob σ18 l0 8 then (zl (z_pR σ18 l0 2 (some (z_nx σ13))) (fun σ20 => (zl (z_nw σ20 (.inr (1, 120))) (fun σ22 => (if z_ob σ22 l0 8 then (zl (z_pR σ22 l0 3 (some (z_nx σ20))) (fun σ25 => (some σ25))) else none))))) else none))))))) else none))))))) else none)))))
set_option maxRecDepth 100000 in
def f_X9_loseToken (σ : zSt) (l0 : Nat) : Option (Int32 × zSt) :=
(if z_ob σ l0 8 then (zc (z_R σ l0 0) none (fun q2 => (if z_ob σ q2 2 then (zl (z_I σ q2 10) (fun x5 => (zc (z_R σ l0 2) none (fun q7 => (zc (z_R σ l0 0) none (fun q9 => (if z_ob σ q7 1 then (zb (f_X1_save σ q7 q9) (fun σ13 => (if z_ob σ13 l0 8 then (zc (z_R σ13 l0 0) none (fun q15 => (if z_ob σ13 q15 2 then (zl (z_pI σ13 q15 10 (-1 : Int32)) (fun σ18 => (some (x5, σ18)))) else none))) else none))) else none))))))) else none))) else none)
set_option maxRecDepth 100000 in
def f_X9_logged (σ : zSt) (l0 : Nat) : Option (Int32) :=
(if z_ob σ l0 8 then (zc (z_R σ l0 0) none (fun q2 => (if z_ob σ q2 2 then (zb (f_X2_logLength σ q2) (fun r6 => (some r6))) else none))) else none)
set_option maxRecDepth 100000 in
def f_X9_greatestRotation (σ : zSt) (l0 : Nat) : Option (Int32) :=
(if z_ob σ l0 8 then (zc (z_R σ l0 0) none (fun q2 => (if z_ob σ q2 2 then (zc (z_R σ q2 3) none (fun q5 => (if z_ob σ q5 0 then (some (z_I σ q5 7)) else none))) else none))) else none)
set_option maxRecDepth 100000 in
def f_X9_waits_40 (σ : zSt) (s0 : UInt64) : Option (UInt64) :=
(some s0)
set_option maxRecDepth 100000 in
def f_X9_waits (σ : zSt) (l0 : Nat) (l1 : Int32) : Option (UInt64) :=
(if z_ob σ l0 8 then (zc (z_R σ l0 0) none (fun q2 => (if z_ob σ q2 2 then (zc (z_R σ q2 3) none (fun q5 => (if z_ob σ q5 0 then (if (z_I σ q5 1) = 0 then
(some FP.dconst0)
else
(if l1 = 0 then
(if vf_n64b (FP.ddiv (FP.l2d (z_J σ q5 9)) (FP.i2d (z_I σ q5 1))) then (f_X9_waits_40 σ (FP.ddiv (FP.l2d (z_J σ q5 9)) (FP.i2d (z_I σ q5 1)))) else none)
else
(f_X9_waits_40 σ (FP.i2d (z_I σ q5 8))))) else none))) else none))) else none)
set_option maxRecDepth 100000 in
def f_X9_use_34 (σ : zSt) (s0 : UInt64) : Option (UInt64) :=
(some s0)
set_option maxRecDepth 100000 in
def f_X9_use (σ : zSt) (l0 : Nat) : Option (UInt64) :=
(if z_ob σ l0 8 then (zc (z_R σ l0 0) none (fun q2 => (if z_ob σ q2 2 then (if (z_I σ q2 9) = 0 then
(f_X9_use_34 σ FP.dconst0)
else
(zc (z_R σ l0 0) none (fun q5 => (if z_ob σ q5 2 then (zc (z_R σ q5 3) none (fun q8 => (if z_ob σ q8 0 then (zc (z_R σ l0 0) none (fun q11 => (if z_ob σ q11 2 then (if vf_n64b (FP.ddiv (FP.i2d (z_I σ q8 6)) (FP.i2d (z_I σ q11 9))) then (f_X9_use_34 σ (FP.ddiv (FP.i2d (z_I σ q8 6)) (FP.i2d (z_I σ q11 9)))) else none) else none))) else none))) else none)))) else none))) else none)
set_option maxRecDepth 100000 in
def f_X9_sendsAll_64 (σ : zSt) (s0 : Int32) : Option (Int32 × zSt) :=
(if z_bl s0 then (some (s0, σ)) else none)
set_option maxRecDepth 100000 in
def f_X9_sendsAll_49 (σ : zSt) (l0 : Nat) : Option (Int32 × zSt) :=
(if z_ob σ l0 8 then (zc (z_R σ l0 1) none (fun q2 => (if z_ob σ q2 2 then (zb (f_X2_isWaitedAt σ q2) (fun r6 => (if r6 = 0 then
(f_X9_sendsAll_64 σ (1 : Int32))
else
(f_X9_sendsAll_64 σ (0 : Int32))))) else none))) else none)
set_option maxRecDepth 100000 in
def b_X9_sendsAll_21 (l0 : Nat) (l2 : Int32) (σ : zSt) (l3 : Int32) : Option ((zSt × Int32) ⊕ (Int32 × zSt)) :=
(if l2 ≤ l3 then
(zex (f_X9_sendsAll_49 σ l0))
else
(if z_ob σ l0 8 then (zc (z_R σ l0 1) none (fun q3 => (if z_ob σ q3 2 then (zb (f_X2_isWaitedAt σ q3) (fun r7 => (if r7 = 0 then
(zex (f_X9_sendsAll_49 σ l0))
else
(zc (z_R σ l0 1) none (fun q9 => (zb (f_X8_makeVisit σ q9) (fun σ12 => (some (.inl (σ12, (l3 + (1 : Int32)))))))))))) else none))) else none))
set_option maxRecDepth 100000 in
def f_X9_sendsAll_21 (l0 : Nat) (l2 : Int32) (σ : zSt) (l3 : Int32) : Option (Int32 × zSt) := zloop (fun (t : zSt × Int32) => b_X9_sendsAll_21 l0 l2 t.1 t.2) zN (σ, l3)
set_option maxRecDepth 100000 in
def f_X9_sendsAll (σ : zSt) (l0 : Nat) (l1 : Int32) (l2 : Int32) : Option (Int32 × zSt) :=
(if z_ob σ l0 8 then (zc (z_R σ l0 1) none (fun q2 => (zc (z_R σ l0 0) none (fun q4 => (if z_ob σ q2 2 then (zb (f_X2_copyFrom σ q2 q4) (fun σ8 => (if z_ob σ8 l0 8 then (zc (z_R σ8 l0 1) none (fun q10 => (if z_ob σ8 q10 2 then (zl (z_pI σ8 q10 6 l1) (fun σ13 => (f_X9_sendsAll_21 l0 l2 σ13 (0 : Int32)))) else none))) else none))) else none))))) else none)
set_option maxRecDepth 100000 in
def f_X9_clearText (σ : zSt) (l0 : Nat) : Option (Int32 × zSt) :=
(if z_ob σ l0 8 then (zl (z_I σ l0 4) (fun x2 => (zl (z_pI σ l0 4 (0 : Int32)) (fun σ4 => (some (x2, σ4)))))) else none)
set_option maxRecDepth 100000 in
def f_X9_parse (σ : zSt) (l0 : Nat) : Option (Int32 × zSt) :=
(if z_ob σ l0 8 then (zc (z_R σ l0 1) none (fun q2 => (if z_ob σ q2 2 then (zb (f_X2_clear σ q2) (fun σ6 => (if z_ob σ6 l0 8 then (zc (z_R σ6 l0 1) none (fun q8 => (zc (z_R σ6 l0 0) none (fun q10 => (if z_ob σ6 q8 2 then (zb (f_X2_takeTimes σ6 q8 q10) (fun σ14 => (zl (z_nw σ14 (.inl 5)) (fun σ15 => (if z_ob σ15 l0 8 then (zc (z_R σ15 l0 3) none (fun q18 => (zc (z_R σ15 l0 1) none (fun q20 => (zb (f_X5_init σ15 (z_nx σ14) q18 (z_I σ15 l0 4) q20) (fun σ23 => (if z_ob σ23 (z_nx σ14) 5 then (zb2 (f_X5_readItems σ23 (z_nx σ14)) (fun r26 σ27 => (if r26 = (-1 : Int32) then
(if z_ob σ27 (z_nx σ14) 5 then (some (((-10 : Int32) - (z_I σ27 (z_nx σ14) 5)), σ27)) else none)
else
(if z_ob σ27 l0 8 then (zc (z_R σ27 l0 2) none (fun q29 => (zc (z_R σ27 l0 0) none (fun q31 => (if z_ob σ27 q29 1 then (zb (f_X1_save σ27 q29 q31) (fun σ35 => (if z_ob σ35 l0 8 then (zc (z_R σ35 l0 0) none (fun q37 => (zc (z_R σ35 l0 1) none (fun q39 => (if z_ob σ35 q37 2 then (zb (f_X2_copyFrom σ35 q37 q39) (fun σ43 => (some (r26, σ43)))) else none))))) else none))) else none))))) else none)))) else none))))))) else none))))) else none))))) else none))) else none))) else none)
set_option maxRecDepth 100000 in
def f_X9_digest (σ : zSt) (l0 : Nat) : Option (Int64) :=
(if z_ob σ l0 8 then (zb (f_X9_mixed σ (3169 : Int64) ((z_I σ l0 4).toInt64)) (fun r3 => (zc (z_R σ l0 0) none (fun q4 => (if z_ob σ q4 2 then (zb (f_X2_hashed σ q4 r3) (fun r8 => (zc (z_R σ l0 2) none (fun q9 => (if z_ob σ q9 1 then (zb (f_X9_mixed σ r8 ((z_I σ q9 1).toInt64)) (fun r13 => (some r13))) else none))))) else none))))) else none)
set_option maxRecDepth 100000 in
def f_X10_init (σ : zSt) (l0 : Nat) : Option (zSt) :=
(zl (z_nw σ (.inr (0, 942))) (fun σ1 => (if z_ob σ1 l0 9 then (zl (z_pR σ1 l0 0 (some (z_nx σ))) (fun σ4 => (zl (z_nw σ4 (.inr (0, 3768))) (fun σ6 => (if z_ob σ6 l0 9 then (zl (z_pR σ6 l0 1 (some (z_nx σ4))) (fun σ9 => (zl (z_nw σ9 (.inr (0, 942))) (fun σ11 => (if z_ob σ11 l0 9 then (zl (z_pR σ11 l0 2 (some (z_nx σ9))) (fun σ14 => (zl (z_nw σ14 (.inr (0, 120))) (fun σ16 => (if z_ob σ16 l0 9 then (zl (z_pR σ16 l0 5 (some (z_nx σ14))) (fun σ19 => (if z_ob σ19 l0 9 then (zc (z_R σ19 l0 0) none (fun q22 => (if z_ar σ19 q22 0 then (if z_ix (0 : Int32) (z_ln σ19 q22) then (zl (z_pI σ19 q22 (0 : Int32).toNatClampNeg (60 : Int32)) (fun σ26 => (if z_ob σ26 l0 9 then (zc (z_R σ26 l0 0) none (fun q29 => (if z_ar σ26 q29 0 then (if z_ix (1 : Int32) (z_ln σ26 q29) then (zl (z_pI σ26 q29 (1 : Int32).toNatClampNeg (4 : Int32)) (fun σ33 => (if z_ob σ33 l0 9 then (zc (z_R σ33 l0 0) none (fun q36 => (if z_ar σ33 q36 0 then (if z_ix (2 : Int32) (z_ln σ33 q36) then (zl (z_pI σ33 q36 (2 : Int32).toNatClampNeg (3 : Int32)) (fun σ40 => (if z_ob σ40 l0 9 then (zc (z_R σ40 l0 0) none (fun q43 => (if z_ar σ40 q43 0 then (if z_ix (4 : Int32) (z_ln σ40 q43) then (zl (z_pI σ40 q43 (4 : Int32).toNatClampNeg (-1 : Int32)) (fun σ47 => (some σ47))) else none) else none))) else none))) else none) else none))) else none))) else none) else none))) else none))) else none) else none))) else none))) else none))))) else none))))) else none))))) else none)))
set_option maxRecDepth 100000 in
def f_X10_thrown (σ : zSt) (l0 : Nat) : Option (Int32) :=
(if z_ob σ l0 9 then (some (z_I σ l0 4)) else none)
set_option maxRecDepth 100000 in
def f_X10_in_18 (σ : zSt) (s0 : Int32) : Option (Int32) :=
(if z_bl s0 then (some s0) else none)
set_option maxRecDepth 100000 in
def f_X10_in_17 (σ : zSt) : Option (Int32) :=
(f_X10_in_18 σ (0 : Int32))
set_option maxRecDepth 100000 in
def f_X10_in (σ : zSt) (l0 : Int64) (l2 : Int64) (l4 : Int64) : Option (Int32) :=
(if (lg_cmp l0 l2) < 0 then
(f_X10_in_17 σ)
else
(if 0 < (lg_cmp l0 l4) then
(f_X10_in_17 σ)
else
(f_X10_in_18 σ (1 : Int32))))
set_option maxRecDepth 100000 in
def f_X10_goes_41 (σ : zSt) (s0 : Int32) : Option (Int32 × zSt) :=
(if z_bl s0 then (some (s0, σ)) else none)
set_option maxRecDepth 100000 in
def f_X10_goes_26 (σ : zSt) (l0 : Nat) (s0 : Int32) (s1 : Option Nat) : Option (Int32 × zSt) :=
(zc s1 none (fun a1 => (if z_ob σ a1 9 then (zl (z_pI σ a1 4 s0) (fun σ4 => (if z_ob σ4 l0 9 then (if (z_I σ4 l0 4) = 0 then
(f_X10_goes_41 σ4 (1 : Int32))
else
(f_X10_goes_41 σ4 (0 : Int32))) else none))) else none)))
set_option maxRecDepth 100000 in
def f_X10_goes (σ : zSt) (l0 : Nat) (l1 : Int32) (l2 : Int32) (l3 : Int32) : Option (Int32 × zSt) :=
(if l1 = 0 then
(f_X10_goes_26 σ l0 (1 : Int32) (some l0))
else
(if l2 = 0 then
(f_X10_goes_26 σ l0 (2 : Int32) (some l0))
else
(if l3 = 0 then
(f_X10_goes_26 σ l0 (3 : Int32) (some l0))
else
(f_X10_goes_26 σ l0 (0 : Int32) (some l0)))))
set_option maxRecDepth 100000 in
def b_X10_save_51 (l0 : Nat) (σ : zSt) (l1 : Int32) : Option ((zSt × Int32) ⊕ (zSt)) :=
(if (942 : Int32) ≤ l1 then
(zex (if z_ob σ l0 9 then (zl (z_pI σ l0 3 ((z_I σ l0 3) + (1 : Int32))) (fun σ2 => (some σ2))) else none))
else
(if z_ob σ l0 9 then (zc (z_R σ l0 1) none (fun q6 => (zc (z_R σ l0 0) none (fun q8 => (if z_ar σ q8 0 then (if z_ix l1 (z_ln σ q8) then (if z_ar σ q6 0 then (if z_ix (((942 : Int32) * (z_I σ l0 3)) + l1) (z_ln σ q6) then (zl (z_pI σ q6 (((942 : Int32) * (z_I σ l0 3)) + l1).toNatClampNeg (z_I σ q8 l1.toNatClampNeg)) (fun σ14 => (some (.inl (σ14, (l1 + (1 : Int32))))))) else none) else none) else none) else none))))) else none))
set_option maxRecDepth 100000 in
def f_X10_save_51 (l0 : Nat) (σ : zSt) (l1 : Int32) : Option (zSt) := zloop (fun (t : zSt × Int32) => b_X10_save_51 l0 t.1 t.2) zN (σ, l1)
set_option maxRecDepth 100000 in
def f_X10_save_49 (σ : zSt) (l0 : Nat) : Option (zSt) :=
(f_X10_save_51 l0 σ (0 : Int32))
set_option maxRecDepth 100000 in
def b_X10_save_10 (l0 : Nat) (σ : zSt) (l1 : Int32) : Option ((zSt × Int32) ⊕ (zSt)) :=
(if (2826 : Int32) ≤ l1 then
(zex (if z_ob σ l0 9 then (zl (z_pI σ l0 3 ((z_I σ l0 3) - (1 : Int32))) (fun σ2 => (f_X10_save_49 σ2 l0))) else none))
else
(if z_ob σ l0 9 then (zc (z_R σ l0 1) none (fun q6 => (zc (z_R σ l0 1) none (fun q8 => (if z_ar σ q8 0 then (if z_ix (l1 + (942 : Int32)) (z_ln σ q8) then (if z_ar σ q6 0 then (if z_ix l1 (z_ln σ q6) then (zl (z_pI σ q6 l1.toNatClampNeg (z_I σ q8 (l1 + (942 : Int32)).toNatClampNeg)) (fun σ14 => (some (.inl (σ14, (l1 + (1 : Int32))))))) else none) else none) else none) else none))))) else none))
set_option maxRecDepth 100000 in
def f_X10_save_10 (l0 : Nat) (σ : zSt) (l1 : Int32) : Option (zSt) := zloop (fun (t : zSt × Int32) => b_X10_save_10 l0 t.1 t.2) zN (σ, l1)
set_option maxRecDepth 100000 in
def f_X10_save (σ : zSt) (l0 : Nat) : Option (zSt) :=
(if z_ob σ l0 9 then (if (z_I σ l0 3) = (4 : Int32) then
(f_X10_save_10 l0 σ (0 : Int32))
else
(f_X10_save_49 σ l0)) else none)
set_option maxRecDepth 100000 in
def b_X10_lays_2 (l0 : Nat) (σ : zSt) (l1 : Int32) : Option ((zSt × Int32) ⊕ (zSt)) :=
(if (942 : Int32) ≤ l1 then
(zex (some σ))
else
(if z_ob σ l0 9 then (zc (z_R σ l0 2) none (fun q3 => (zc (z_R σ l0 0) none (fun q5 => (if z_ar σ q5 0 then (if z_ix l1 (z_ln σ q5) then (if z_ar σ q3 0 then (if z_ix l1 (z_ln σ q3) then (zl (z_pI σ q3 l1.toNatClampNeg (z_I σ q5 l1.toNatClampNeg)) (fun σ11 => (some (.inl (σ11, (l1 + (1 : Int32))))))) else none) else none) else none) else none))))) else none))
set_option maxRecDepth 100000 in
def f_X10_lays_2 (l0 : Nat) (σ : zSt) (l1 : Int32) : Option (zSt) := zloop (fun (t : zSt × Int32) => b_X10_lays_2 l0 t.1 t.2) zN (σ, l1)
set_option maxRecDepth 100000 in
def f_X10_lays (σ : zSt) (l0 : Nat) : Option (zSt) :=
(f_X10_lays_2 l0 σ (0 : Int32))
set_option maxRecDepth 100000 in
def b_X10_takesBack_2 (l0 : Nat) (σ : zSt) (l1 : Int32) : Option ((zSt × Int32) ⊕ (zSt)) :=
(if (942 : Int32) ≤ l1 then
(zex (some σ))
else
(if z_ob σ l0 9 then (zc (z_R σ l0 0) none (fun q3 => (zc (z_R σ l0 2) none (fun q5 => (if z_ar σ q5 0 then (if z_ix l1 (z_ln σ q5) then (if z_ar σ q3 0 then (if z_ix l1 (z_ln σ q3) then (zl (z_pI σ q3 l1.toNatClampNeg (z_I σ q5 l1.toNatClampNeg)) (fun σ11 => (some (.inl (σ11, (l1 + (1 : Int32))))))) else none) else none) else none) else none))))) else none))
set_option maxRecDepth 100000 in
def f_X10_takesBack_2 (l0 : Nat) (σ : zSt) (l1 : Int32) : Option (zSt) := zloop (fun (t : zSt × Int32) => b_X10_takesBack_2 l0 t.1 t.2) zN (σ, l1)
set_option maxRecDepth 100000 in
def f_X10_takesBack (σ : zSt) (l0 : Nat) : Option (zSt) :=
(f_X10_takesBack_2 l0 σ (0 : Int32))
set_option maxRecDepth 100000 in
def f_X10_at (σ : zSt) (l0 : Int32) (l1 : Int32) : Option (Int32) :=
(some (((18 : Int32) + ((7 : Int32) * l0)) + l1))
set_option maxRecDepth 100000 in
def f_X10_of (σ : zSt) (l0 : Nat) (l1 : Int32) (l2 : Int32) : Option (Int32) :=
(if z_ob σ l0 9 then (zc (z_R σ l0 0) none (fun q2 => (zb (f_X10_at σ l1 l2) (fun r5 => (if z_ar σ q2 0 then (if z_ix r5 (z_ln σ q2) then (some (z_I σ q2 r5.toNatClampNeg)) else none) else none))))) else none)
set_option maxRecDepth 100000 in
def f_X10_isStation_27 (σ : zSt) (s0 : Int32) : Option (Int32) :=
(if z_bl s0 then (some s0) else none)
set_option maxRecDepth 100000 in
def f_X10_isStation_26 (σ : zSt) : Option (Int32) :=
(f_X10_isStation_27 σ (0 : Int32))
set_option maxRecDepth 100000 in
def f_X10_isStation (σ : zSt) (l0 : Nat) (l1 : Int32) : Option (Int32) :=
(zb (f_X10_in σ l1.toInt64 (0 : Int64) (31 : Int64)) (fun r2 => (if r2 = 0 then
(f_X10_isStation_26 σ)
else
(if z_ob σ l0 9 then (zb (f_X10_of σ l0 l1 (0 : Int32)) (fun r5 => (if r5 = (1 : Int32) then
(f_X10_isStation_27 σ (1 : Int32))
else
(f_X10_isStation_26 σ)))) else none))))
set_option maxRecDepth 100000 in
def f_X10_isInRing_35 (σ : zSt) (s0 : Int32) : Option (Int32) :=
(if z_bl s0 then (some s0) else none)
set_option maxRecDepth 100000 in
def f_X10_isInRing_34 (σ : zSt) : Option (Int32) :=
(f_X10_isInRing_35 σ (0 : Int32))
set_option maxRecDepth 100000 in
def f_X10_isInRing (σ : zSt) (l0 : Nat) (l1 : Int32) : Option (Int32) :=
(if z_ob σ l0 9 then (zb (f_X10_of σ l0 l1 (0 : Int32)) (fun r3 => (if r3 = (1 : Int32) then
(zb (f_X10_of σ l0 l1 (1 : Int32)) (fun r5 => (if r5 = (1 : Int32) then
(zb (f_X10_of σ l0 l1 (2 : Int32)) (fun r7 => (if r7 = (1 : Int32) then
(f_X10_isInRing_35 σ (1 : Int32))
else
(f_X10_isInRing_34 σ))))
else
(f_X10_isInRing_34 σ))))
else
(f_X10_isInRing_34 σ)))) else none)
set_option maxRecDepth 100000 in
def f_X10_inMessage (σ : zSt) (l0 : Int32) (l1 : Int32) : Option (Int32) :=
(some (((242 : Int32) + ((5 : Int32) * l0)) + l1))
set_option maxRecDepth 100000 in
def f_X10_ofMessage (σ : zSt) (l0 : Nat) (l1 : Int32) (l2 : Int32) : Option (Int32) :=
(if z_ob σ l0 9 then (zc (z_R σ l0 0) none (fun q2 => (zb (f_X10_inMessage σ l1 l2) (fun r5 => (if z_ar σ q2 0 then (if z_ix r5 (z_ln σ q2) then (some (z_I σ q2 r5.toNatClampNeg)) else none) else none))))) else none)
set_option maxRecDepth 100000 in
def b_X10_stations_4 (σ : zSt) (l0 : Nat) (l1 : Int32) (l2 : Int32) : Option ((Int32 × Int32) ⊕ (Int32)) :=
(if (32 : Int32) ≤ l2 then
(zex (some l1))
else
(if z_ob σ l0 9 then (zb (f_X10_of σ l0 l2 (0 : Int32)) (fun r4 => (zl (l1 + r4) (fun x5 => (some (.inl (x5, (l2 + (1 : Int32))))))))) else none))
set_option maxRecDepth 100000 in
def f_X10_stations_4 (σ : zSt) (l0 : Nat) (l1 : Int32) (l2 : Int32) : Option (Int32) := zloop (fun (t : Int32 × Int32) => b_X10_stations_4 σ l0 t.1 t.2) zN (l1, l2)
set_option maxRecDepth 100000 in
def f_X10_stations (σ : zSt) (l0 : Nat) : Option (Int32) :=
(f_X10_stations_4 σ l0 (0 : Int32) (0 : Int32))
set_option maxRecDepth 100000 in
def f_X10_adds (σ : zSt) (l0 : Nat) (l1 : Int32) : Option (zSt) :=
(if z_ob σ l0 9 then (zc (z_R σ l0 0) none (fun q2 => (zb (f_X10_at σ l1 (0 : Int32)) (fun r5 => (if z_ar σ q2 0 then (if z_ix r5 (z_ln σ q2) then (zl (z_pI σ q2 r5.toNatClampNeg (1 : Int32)) (fun σ8 => (if z_ob σ8 l0 9 then (zc (z_R σ8 l0 0) none (fun q11 => (zb (f_X10_at σ8 l1 (1 : Int32)) (fun r14 => (if z_ar σ8 q11 0 then (if z_ix r14 (z_ln σ8 q11) then (zl (z_pI σ8 q11 r14.toNatClampNeg (1 : Int32)) (fun σ17 => (if z_ob σ17 l0 9 then (zc (z_R σ17 l0 0) none (fun q20 => (zb (f_X10_at σ17 l1 (2 : Int32)) (fun r23 => (if z_ar σ17 q20 0 then (if z_ix r23 (z_ln σ17 q20) then (zl (z_pI σ17 q20 r23.toNatClampNeg (0 : Int32)) (fun σ26 => (if z_ob σ26 l0 9 then (zc (z_R σ26 l0 0) none (fun q29 => (zb (f_X10_at σ26 l1 (3 : Int32)) (fun r32 => (if z_ar σ26 q29 0 then (if z_ix r32 (z_ln σ26 q29) then (zl (z_pI σ26 q29 r32.toNatClampNeg l1) (fun σ35 => (if z_ob σ35 l0 9 then (zc (z_R σ35 l0 0) none (fun q38 => (zb (f_X10_at σ35 l1 (4 : Int32)) (fun r41 => (if z_ar σ35 q38 0 then (if z_ix r41 (z_ln σ35 q38) then (zl (z_pI σ35 q38 r41.toNatClampNeg l1) (fun σ44 => (if z_ob σ44 l0 9 then (zc (z_R σ44 l0 0) none (fun q47 => (zb (f_X10_at σ44 l1 (5 : Int32)) (fun r50 => (if z_ar σ44 q47 0 then (if z_ix r50 (z_ln σ44 q47) then (zl (z_pI σ44 q47 r50.toNatClampNeg (0 : Int32)) (fun σ53 => (if z_ob σ53 l0 9 then (zc (z_R σ53 l0 0) none (fun q56 => (zb (f_X10_at σ53 l1 (6 : Int32)) (fun r59 => (if z_ar σ53 q56 0 then (if z_ix r59 (z_ln σ53 q56) then (zl (z_pI σ53 q56 r59.toNatClampNeg (-1 : Int32)) (fun σ62 => (some σ62))) else none) else none))))) else none))) else none) else none))))) else none))) else none) else none))))) else none))) else none) else none))))) else none))) else none) else none))))) else none))) else none) else none))))) else none))) else none) else none))))) else none)
set_option maxRecDepth 100000 in
def f_X10_addStation_38 (σ : zSt) (l0 : Nat) (l1 : Int32) (s0 : Int32) (s1 : Int32) (s2 : Option Nat) : Option (Int32 × zSt) :=
(zc s2 none (fun a1 => (if z_ob σ a1 9 then (zb2 (f_X10_goes σ a1 s1 s0 (1 : Int32)) (fun r5 σ6 => (if r5 = 0 then
(some ((0 : Int32), σ6))
else
(if z_ob σ6 l0 9 then (zb (f_X10_save σ6 l0) (fun σ9 => (if z_ob σ9 l0 9 then (zb (f_X10_adds σ9 l0 l1) (fun σ12 => (if z_ob σ12 l0 9 then (zb (f_X10_stations σ12 l0) (fun r15 => (some (r15, σ12)))) else none))) else none))) else none)))) else none)))
set_option maxRecDepth 100000 in
def f_X10_addStation_37 (σ : zSt) (l0 : Nat) (l1 : Int32) (s0 : Int32) (s1 : Option Nat) : Option (Int32 × zSt) :=
(f_X10_addStation_38 σ l0 l1 (0 : Int32) s0 s1)
set_option maxRecDepth 100000 in
def f_X10_addStation (σ : zSt) (l0 : Nat) (l1 : Int32) : Option (Int32 × zSt) :=
(zb (f_X10_in σ l1.toInt64 (0 : Int64) (31 : Int64)) (fun r2 => (if r2 = 0 then
(f_X10_addStation_37 σ l0 l1 r2 (some l0))
else
(if z_ob σ l0 9 then (zb (f_X10_isStation σ l0 l1) (fun r5 => (if r5 = 0 then
(zb (f_X10_stations σ l0) (fun r7 => (if (8 : Int32) ≤ r7 then
(f_X10_addStation_37 σ l0 l1 r2 (some l0))
else
(f_X10_addStation_38 σ l0 l1 (1 : Int32) r2 (some l0)))))
else
(f_X10_addStation_37 σ l0 l1 r2 (some l0))))) else none))))
set_option maxRecDepth 100000 in
def f_X10_setOn_111 (σ : zSt) (l3 : Int32) : Option (Int32 × zSt) :=
(if z_bl l3 then (some (l3, σ)) else none)
set_option maxRecDepth 100000 in
def f_X10_setOn_92 (σ : zSt) (l0 : Nat) (l1 : Int32) (l2 : Int32) (l3 : Int32) : Option (Int32 × zSt) :=
(if l3 = 0 then
(if l2 = 0 then
(f_X10_setOn_111 σ l3)
else
(if z_ob σ l0 9 then (zc (z_R σ l0 0) none (fun q2 => (zb (f_X10_at σ l1 (1 : Int32)) (fun r5 => (if z_ar σ q2 0 then (if z_ix r5 (z_ln σ q2) then (zl (z_pI σ q2 r5.toNatClampNeg (1 : Int32)) (fun σ8 => (f_X10_setOn_111 σ8 l3))) else none) else none))))) else none))
else
(f_X10_setOn_111 σ l3))
set_option maxRecDepth 100000 in
def f_X10_setOn_91 (σ : zSt) (l0 : Nat) (l1 : Int32) (l2 : Int32) (l3 : Int32) (s0 : Int32) (s1 : Int32) (s2 : Option Nat) : Option (Int32 × zSt) :=
(zc s2 none (fun a1 => (if z_ar σ a1 0 then (if z_ix s1 (z_ln σ a1) then (zl (z_pI σ a1 s1.toNatClampNeg s0) (fun σ5 => (f_X10_setOn_92 σ5 l0 l1 l2 l3))) else none) else none)))
set_option maxRecDepth 100000 in
def f_X10_setOn_35 (σ : zSt) (l0 : Nat) (l1 : Int32) (l2 : Int32) (s0 : Int32) : Option (Int32 × zSt) :=
(if s0 = 0 then
(f_X10_setOn_92 σ l0 l1 l2 s0)
else
(if l2 = 0 then
(if z_ob σ l0 9 then (zc (z_R σ l0 0) none (fun q2 => (zb (f_X10_at σ l1 (1 : Int32)) (fun r5 => (if z_ar σ q2 0 then (if z_ix r5 (z_ln σ q2) then (zl (z_pI σ q2 r5.toNatClampNeg (0 : Int32)) (fun σ8 => (if z_ob σ8 l0 9 then (zc (z_R σ8 l0 0) none (fun q11 => (zb (f_X10_at σ8 l1 (2 : Int32)) (fun r14 => (if z_ar σ8 q11 0 then (if z_ix r14 (z_ln σ8 q11) then (zl (z_pI σ8 q11 r14.toNatClampNeg (0 : Int32)) (fun σ17 => (if z_ob σ17 l0 9 then (zc (z_R σ17 l0 0) none (fun q20 => (zc (z_R σ17 l0 0) none (fun q22 => (if z_ar σ17 q22 0 then (if z_ix (4 : Int32) (z_ln σ17 q22) then (if (z_I σ17 q22 (4 : Int32).toNatClampNeg) = l1 then
(f_X10_setOn_91 σ17 l0 l1 l2 s0 (-1 : Int32) (4 : Int32) (some q20))
else
(zc (z_R σ17 l0 0) none (fun q26 => (if z_ar σ17 q26 0 then (if z_ix (4 : Int32) (z_ln σ17 q26) then (f_X10_setOn_91 σ17 l0 l1 l2 s0 (z_I σ17 q26 (4 : Int32).toNatClampNeg) (4 : Int32) (some q20)) else none) else none)))) else none) else none))))) else none))) else none) else none))))) else none))) else none) else none))))) else none)
else
(f_X10_setOn_92 σ l0 l1 l2 s0)))
set_option maxRecDepth 100000 in
def f_X10_setOn (σ : zSt) (l0 : Nat) (l1 : Int32) (l2 : Int32) : Option (Int32 × zSt) :=
(if z_ob σ l0 9 then (zb (f_X10_isStation σ l0 l1) (fun r3 => (zb2 (f_X10_goes σ l0 r3 (1 : Int32) (1 : Int32)) (fun r5 σ6 => (if r5 = 0 then
(some ((0 : Int32), σ6))
else
(if z_ob σ6 l0 9 then (zb (f_X10_save σ6 l0) (fun σ9 => (if z_ob σ9 l0 9 then (zb (f_X10_of σ9 l0 l1 (1 : Int32)) (fun r12 => (if r12 = (1 : Int32) then
(f_X10_setOn_35 σ9 l0 l1 l2 (1 : Int32))
else
(f_X10_setOn_35 σ9 l0 l1 l2 (0 : Int32))))) else none))) else none)))))) else none)
set_option maxRecDepth 100000 in
def f_X10_setTimes_42 (σ : zSt) (l0 : Nat) (l1 : Int32) (l2 : Int32) (l3 : Int32) (s0 : Int32) (s1 : Option Nat) : Option (Int32 × zSt) :=
(zc s1 none (fun a1 => (if z_ob σ a1 9 then (zb2 (f_X10_goes σ a1 s0 (1 : Int32) (1 : Int32)) (fun r5 σ6 => (if r5 = 0 then
(some ((0 : Int32), σ6))
else
(if z_ob σ6 l0 9 then (zb (f_X10_save σ6 l0) (fun σ9 => (if z_ob σ9 l0 9 then (zc (z_R σ9 l0 0) none (fun q11 => (if z_ar σ9 q11 0 then (if z_ix (0 : Int32) (z_ln σ9 q11) then (zl (z_I σ9 q11 (0 : Int32).toNatClampNeg) (fun x15 => (zc (z_R σ9 l0 0) none (fun q17 => (if z_ar σ9 q17 0 then (if z_ix (0 : Int32) (z_ln σ9 q17) then (zl (z_pI σ9 q17 (0 : Int32).toNatClampNeg l1) (fun σ21 => (if z_ob σ21 l0 9 then (zc (z_R σ21 l0 0) none (fun q24 => (if z_ar σ21 q24 0 then (if z_ix (1 : Int32) (z_ln σ21 q24) then (zl (z_pI σ21 q24 (1 : Int32).toNatClampNeg l2) (fun σ28 => (if z_ob σ28 l0 9 then (zc (z_R σ28 l0 0) none (fun q31 => (if z_ar σ28 q31 0 then (if z_ix (2 : Int32) (z_ln σ28 q31) then (zl (z_pI σ28 q31 (2 : Int32).toNatClampNeg l3) (fun σ35 => (some (x15, σ35)))) else none) else none))) else none))) else none) else none))) else none))) else none) else none))))) else none) else none))) else none))) else none)))) else none)))
set_option maxRecDepth 100000 in
def f_X10_setTimes_41 (σ : zSt) (l0 : Nat) (l1 : Int32) (l2 : Int32) (l3 : Int32) (s0 : Option Nat) : Option (Int32 × zSt) :=
(f_X10_setTimes_42 σ l0 l1 l2 l3 (0 : Int32) s0)
set_option maxRecDepth 100000 in
def f_X10_setTimes (σ : zSt) (l0 : Nat) (l1 : Int32) (l2 : Int32) (l3 : Int32) : Option (Int32 × zSt) :=
(zb (f_X10_in σ l1.toInt64 (1 : Int64) (500 : Int64)) (fun r2 => (if r2 = 0 then
(f_X10_setTimes_41 σ l0 l1 l2 l3 (some l0))
else
(zb (f_X10_in σ l2.toInt64 (1 : Int64) (20 : Int64)) (fun r4 => (if r4 = 0 then
(f_X10_setTimes_41 σ l0 l1 l2 l3 (some l0))
else
(zb (f_X10_in σ l3.toInt64 (1 : Int64) (20 : Int64)) (fun r6 => (if r6 = 0 then
(f_X10_setTimes_41 σ l0 l1 l2 l3 (some l0))
else
(f_X10_setTimes_42 σ l0 l1 l2 l3 (1 : Int32) (some l0)))))))))))
set_option maxRecDepth 100000 in
def f_X10_gives (σ : zSt) (l0 : Nat) (l1 : Int32) (l2 : Int32) (l3 : Int32) : Option (Int32 × zSt) :=
(if z_ob σ l0 9 then (zc (z_R σ l0 0) none (fun q2 => (if z_ar σ q2 0 then (if z_ix (5 : Int32) (z_ln σ q2) then (zl (z_I σ q2 (5 : Int32).toNatClampNeg) (fun x6 => (zc (z_R σ l0 0) none (fun q8 => (zb (f_X10_inMessage σ x6 (0 : Int32)) (fun r11 => (if z_ar σ q8 0 then (if z_ix r11 (z_ln σ q8) then (zl (z_pI σ q8 r11.toNatClampNeg l2) (fun σ14 => (if z_ob σ14 l0 9 then (zc (z_R σ14 l0 0) none (fun q17 => (zb (f_X10_inMessage σ14 x6 (1 : Int32)) (fun r20 => (if z_ar σ14 q17 0 then (if z_ix r20 (z_ln σ14 q17) then (zl (z_pI σ14 q17 r20.toNatClampNeg l3) (fun σ23 => (if z_ob σ23 l0 9 then (zc (z_R σ23 l0 0) none (fun q26 => (zb (f_X10_inMessage σ23 x6 (2 : Int32)) (fun r29 => (if z_ar σ23 q26 0 then (if z_ix r29 (z_ln σ23 q26) then (zl (z_pI σ23 q26 r29.toNatClampNeg l1) (fun σ32 => (if z_ob σ32 l0 9 then (zc (z_R σ32 l0 0) none (fun q35 => (zb (f_X10_inMessage σ32 x6 (3 : Int32)) (fun r38 => (zc (z_R σ32 l0 0) none (fun q39 => (if z_ar σ32 q39 0 then (if z_ix (3 : Int32) (z_ln σ32 q39) then (if z_ar σ32 q35 0 then (if z_ix r38 (z_ln σ32 q35) then (zl (z_pI σ32 q35 r38.toNatClampNeg (z_I σ32 q39 (3 : Int32).toNatClampNeg)) (fun σ45 => (if z_ob σ45 l0 9 then (zc (z_R σ45 l0 0) none (fun q48 => (zb (f_X10_inMessage σ45 x6 (4 : Int32)) (fun r51 => (if z_ar σ45 q48 0 then (if z_ix r51 (z_ln σ45 q48) then (zl (z_pI σ45 q48 r51.toNatClampNeg (-1 : Int32)) (fun σ54 => (if z_ob σ54 l0 9 then (zc (z_R σ54 l0 0) none (fun q57 => (if z_ar σ54 q57 0 then (if z_ix (5 : Int32) (z_ln σ54 q57) then (zl (z_pI σ54 q57 (5 : Int32).toNatClampNeg ((z_I σ54 q57 (5 : Int32).toNatClampNeg) + (1 : Int32))) (fun σ61 => (some (x6, σ61)))) else none) else none))) else none))) else none) else none))))) else none))) else none) else none) else none) else none))))))) else none))) else none) else none))))) else none))) else none) else none))))) else none))) else none) else none))))))) else none) else none))) else none)
set_option maxRecDepth 100000 in
def f_X10_give_51 (σ : zSt) (l0 : Nat) (l1 : Int32) (l2 : Int32) (l3 : Int32) (s0 : Int32) (s1 : Int32) (s2 : Int32) (s3 : Option Nat) : Option (Int32 × zSt) :=
(zc s3 none (fun a1 => (if z_ob σ a1 9 then (zb2 (f_X10_goes σ a1 s2 s1 s0) (fun r5 σ6 => (if r5 = 0 then
(some ((0 : Int32), σ6))
else
(if z_ob σ6 l0 9 then (zb (f_X10_save σ6 l0) (fun σ9 => (if z_ob σ9 l0 9 then (zb2 (f_X10_gives σ9 l0 l1 l2 l3) (fun r12 σ13 => (some (r12, σ13)))) else none))) else none)))) else none)))
set_option maxRecDepth 100000 in
def f_X10_give_35 (σ : zSt) (l0 : Nat) (l1 : Int32) (l2 : Int32) (l3 : Int32) (s0 : Int32) (s1 : Int32) (s2 : Option Nat) : Option (Int32 × zSt) :=
(if z_ob σ l0 9 then (zc (z_R σ l0 0) none (fun q2 => (if z_ar σ q2 0 then (if z_ix (5 : Int32) (z_ln σ q2) then (if (100 : Int32) ≤ (z_I σ q2 (5 : Int32).toNatClampNeg) then
(f_X10_give_51 σ l0 l1 l2 l3 (0 : Int32) s0 s1 s2)
else
(f_X10_give_51 σ l0 l1 l2 l3 (1 : Int32) s0 s1 s2)) else none) else none))) else none)
set_option maxRecDepth 100000 in
def f_X10_give_34 (σ : zSt) (l0 : Nat) (l1 : Int32) (l2 : Int32) (l3 : Int32) (s0 : Int32) (s1 : Option Nat) : Option (Int32 × zSt) :=
(f_X10_give_35 σ l0 l1 l2 l3 (0 : Int32) s0 s1)
set_option maxRecDepth 100000 in
def f_X10_give (σ : zSt) (l0 : Nat) (l1 : Int32) (l2 : Int32) (l3 : Int32) : Option (Int32 × zSt) :=
(if z_ob σ l0 9 then (zb (f_X10_isStation σ l0 l1) (fun r3 => (zb (f_X10_in σ l2.toInt64 (1 : Int64) (20 : Int64)) (fun r5 => (if r5 = 0 then
(f_X10_give_34 σ l0 l1 l2 l3 r3 (some l0))
else
(zb (f_X10_in σ l3.toInt64 (0 : Int64) (9 : Int64)) (fun r7 => (if r7 = 0 then
(f_X10_give_34 σ l0 l1 l2 l3 r3 (some l0))
else
(f_X10_give_35 σ l0 l1 l2 l3 (1 : Int32) r3 (some l0)))))))))) else none)
set_option maxRecDepth 100000 in
def f_X10_addNoise_47 (σ : zSt) (l0 : Nat) (l1 : Int32) (l2 : Int32) (s0 : Int32) (s1 : Int32) (s2 : Option Nat) : Option (Int32 × zSt) :=
(zc s2 none (fun a1 => (if z_ob σ a1 9 then (zb2 (f_X10_goes σ a1 s1 s0 (1 : Int32)) (fun r5 σ6 => (if r5 = 0 then
(some ((0 : Int32), σ6))
else
(if z_ob σ6 l0 9 then (zb (f_X10_save σ6 l0) (fun σ9 => (if z_ob σ9 l0 9 then (zc (z_R σ9 l0 0) none (fun q11 => (zc (z_R σ9 l0 0) none (fun q13 => (if z_ar σ9 q13 0 then (if z_ix (6 : Int32) (z_ln σ9 q13) then (if z_ar σ9 q11 0 then (if z_ix ((742 : Int32) + ((2 : Int32) * (z_I σ9 q13 (6 : Int32).toNatClampNeg))) (z_ln σ9 q11) then (zl (z_pI σ9 q11 ((742 : Int32) + ((2 : Int32) * (z_I σ9 q13 (6 : Int32).toNatClampNeg))).toNatClampNeg l1) (fun σ19 => (if z_ob σ19 l0 9 then (zc (z_R σ19 l0 0) none (fun q22 => (zc (z_R σ19 l0 0) none (fun q24 => (if z_ar σ19 q24 0 then (if z_ix (6 : Int32) (z_ln σ19 q24) then (if z_ar σ19 q22 0 then (if z_ix (((742 : Int32) + ((2 : Int32) * (z_I σ19 q24 (6 : Int32).toNatClampNeg))) + (1 : Int32)) (z_ln σ19 q22) then (zl (z_pI σ19 q22 (((742 : Int32) + ((2 : Int32) * (z_I σ19 q24 (6 : Int32).toNatClampNeg))) + (1 : Int32)).toNatClampNeg l2) (fun σ30 => (if z_ob σ30 l0 9 then (zc (z_R σ30 l0 0) none (fun q33 => (if z_ar σ30 q33 0 then (if z_ix (6 : Int32) (z_ln σ30 q33) then (zl (z_pI σ30 q33 (6 : Int32).toNatClampNeg ((z_I σ30 q33 (6 : Int32).toNatClampNeg) + (1 : Int32))) (fun σ37 => (if z_ob σ37 l0 9 then (zc (z_R σ37 l0 0) none (fun q40 => (if z_ar σ37 q40 0 then (if z_ix (6 : Int32) (z_ln σ37 q40) then (some ((z_I σ37 q40 (6 : Int32).toNatClampNeg), σ37)) else none) else none))) else none))) else none) else none))) else none))) else none) else none) else none) else none))))) else none))) else none) else none) else none) else none))))) else none))) else none)))) else none)))
set_option maxRecDepth 100000 in
def f_X10_addNoise_30 (σ : zSt) (l0 : Nat) (l1 : Int32) (l2 : Int32) (s0 : Int32) (s1 : Option Nat) : Option (Int32 × zSt) :=
(if z_ob σ l0 9 then (zc (z_R σ l0 0) none (fun q2 => (if z_ar σ q2 0 then (if z_ix (6 : Int32) (z_ln σ q2) then (if (20 : Int32) ≤ (z_I σ q2 (6 : Int32).toNatClampNeg) then
(f_X10_addNoise_47 σ l0 l1 l2 (0 : Int32) s0 s1)
else
(f_X10_addNoise_47 σ l0 l1 l2 (1 : Int32) s0 s1)) else none) else none))) else none)
set_option maxRecDepth 100000 in
def f_X10_addNoise_29 (σ : zSt) (l0 : Nat) (l1 : Int32) (l2 : Int32) (s0 : Option Nat) : Option (Int32 × zSt) :=
(f_X10_addNoise_30 σ l0 l1 l2 (0 : Int32) s0)
set_option maxRecDepth 100000 in
def f_X10_addNoise (σ : zSt) (l0 : Nat) (l1 : Int32) (l2 : Int32) : Option (Int32 × zSt) :=
(zb (f_X10_in σ l1.toInt64 (0 : Int64) l2.toInt64) (fun r2 => (if r2 = 0 then
(f_X10_addNoise_29 σ l0 l1 l2 (some l0))
else
(zb (f_X10_in σ l2.toInt64 l1.toInt64 (1000000 : Int64)) (fun r4 => (if r4 = 0 then
(f_X10_addNoise_29 σ l0 l1 l2 (some l0))
else
(f_X10_addNoise_30 σ l0 l1 l2 (1 : Int32) (some l0))))))))
set_option maxRecDepth 100000 in
def f_X10_isLoud_62 (σ : zSt) (l0 : Nat) (l1 : Int32) (l2 : Int32) (l4 : Int32) (s0 : Int32) : Option ((Int32 × Int32) ⊕ (Int32)) :=
(some (.inl (s0, (l4 + (1 : Int32)))))
set_option maxRecDepth 100000 in
def f_X10_isLoud_57 (σ : zSt) (l0 : Nat) (l1 : Int32) (l2 : Int32) (l4 : Int32) : Option ((Int32 × Int32) ⊕ (Int32)) :=
(f_X10_isLoud_62 σ l0 l1 l2 l4 (1 : Int32))
set_option maxRecDepth 100000 in
def f_X10_isLoud_61 (σ : zSt) (l0 : Nat) (l1 : Int32) (l2 : Int32) (l4 : Int32) : Option ((Int32 × Int32) ⊕ (Int32)) :=
(f_X10_isLoud_62 σ l0 l1 l2 l4 (0 : Int32))
set_option maxRecDepth 100000 in
def b_X10_isLoud_5 (σ : zSt) (l0 : Nat) (l1 : Int32) (l2 : Int32) (l3 : Int32) (l4 : Int32) : Option ((Int32 × Int32) ⊕ (Int32)) :=
(if z_ob σ l0 9 then (zc (z_R σ l0 0) none (fun q2 => (if z_ar σ q2 0 then (if z_ix (6 : Int32) (z_ln σ q2) then (if (z_I σ q2 (6 : Int32).toNatClampNeg) ≤ l4 then
(zex (if z_bl l3 then (some l3) else none))
else
(if l3 = 0 then
(zc (z_R σ l0 0) none (fun q8 => (if z_ar σ q8 0 then (if z_ix ((742 : Int32) + ((2 : Int32) * l4)) (z_ln σ q8) then (if l2 < (z_I σ q8 ((742 : Int32) + ((2 : Int32) * l4)).toNatClampNeg) then
(f_X10_isLoud_61 σ l0 l1 l2 l4)
else
(zc (z_R σ l0 0) none (fun q12 => (if z_ar σ q12 0 then (if z_ix (((742 : Int32) + ((2 : Int32) * l4)) + (1 : Int32)) (z_ln σ q12) then (if (z_I σ q12 (((742 : Int32) + ((2 : Int32) * l4)) + (1 : Int32)).toNatClampNeg) < l1 then
(f_X10_isLoud_61 σ l0 l1 l2 l4)
else
(f_X10_isLoud_57 σ l0 l1 l2 l4)) else none) else none)))) else none) else none)))
else
(f_X10_isLoud_57 σ l0 l1 l2 l4))) else none) else none))) else none)
set_option maxRecDepth 100000 in
def f_X10_isLoud_5 (σ : zSt) (l0 : Nat) (l1 : Int32) (l2 : Int32) (l3 : Int32) (l4 : Int32) : Option (Int32) := zloop (fun (t : Int32 × Int32) => b_X10_isLoud_5 σ l0 l1 l2 t.1 t.2) zN (l3, l4)
set_option maxRecDepth 100000 in
def f_X10_isLoud (σ : zSt) (l0 : Nat) (l1 : Int32) (l2 : Int32) : Option (Int32) :=
(f_X10_isLoud_5 σ l0 l1 l2 (0 : Int32) (0 : Int32))
set_option maxRecDepth 100000 in
def f_X10_takes_48 (σ : zSt) (l2 : Int32) (s0 : Int32) (s1 : Int32) (s2 : Int32) (s3 : Option Nat) : Option (Int32 × zSt) :=
(zc s3 none (fun a1 => (if z_ar σ a1 0 then (if z_ix s2 (z_ln σ a1) then (zl (z_pI σ a1 s2.toNatClampNeg (s1 + s0)) (fun σ5 => (if z_bl l2 then (some (l2, σ5)) else none))) else none) else none)))
set_option maxRecDepth 100000 in
def f_X10_takes (σ : zSt) (l0 : Nat) (l1 : Int32) : Option (Int32 × zSt) :=
(if z_ob σ l0 9 then (zc (z_R σ l0 0) none (fun q2 => (if z_ar σ q2 0 then (if z_ix (3 : Int32) (z_ln σ q2) then (zc (z_R σ l0 0) none (fun q6 => (if z_ar σ q6 0 then (if z_ix (3 : Int32) (z_ln σ q6) then (zb (f_X10_isLoud σ l0 (z_I σ q2 (3 : Int32).toNatClampNeg) (((z_I σ q6 (3 : Int32).toNatClampNeg) + l1) - (1 : Int32))) (fun r11 => (zc (z_R σ l0 0) none (fun q12 => (if z_ar σ q12 0 then (if z_ix (3 : Int32) (z_ln σ q12) then (zl (z_pI σ q12 (3 : Int32).toNatClampNeg ((z_I σ q12 (3 : Int32).toNatClampNeg) + l1)) (fun σ16 => (if z_ob σ16 l0 9 then (zc (z_R σ16 l0 0) none (fun q19 => (if z_ar σ16 q19 0 then (if z_ix (11 : Int32) (z_ln σ16 q19) then (if r11 = 0 then
(f_X10_takes_48 σ16 r11 (0 : Int32) (z_I σ16 q19 (11 : Int32).toNatClampNeg) (11 : Int32) (some q19))
else
(f_X10_takes_48 σ16 r11 (1 : Int32) (z_I σ16 q19 (11 : Int32).toNatClampNeg) (11 : Int32) (some q19))) else none) else none))) else none))) else none) else none))))) else none) else none))) else none) else none))) else none)
set_option maxRecDepth 100000 in
def f_X10_nextOf_132 (σ : zSt) (l0 : Nat) (l1 : Int32) (l2 : Int32) (l4 : Int32) (s0 : Int32) : Option ((Int32 × Int32) ⊕ (Int32)) :=
(some (.inl (s0, (l4 + (1 : Int32)))))
set_option maxRecDepth 100000 in
def f_X10_nextOf_131 (σ : zSt) (l0 : Nat) (l1 : Int32) (l2 : Int32) (l3 : Int32) (l4 : Int32) : Option ((Int32 × Int32) ⊕ (Int32)) :=
(f_X10_nextOf_132 σ l0 l1 l2 l4 l3)
set_option maxRecDepth 100000 in
def f_X10_nextOf_126 (σ : zSt) (l0 : Nat) (l1 : Int32) (l2 : Int32) (l4 : Int32) : Option ((Int32 × Int32) ⊕ (Int32)) :=
(f_X10_nextOf_132 σ l0 l1 l2 l4 l4)
set_option maxRecDepth 100000 in
def f_X10_nextOf_93 (σ : zSt) (l0 : Nat) (l1 : Int32) (l2 : Int32) (l3 : Int32) (l4 : Int32) (l5 : Int32) (s0 : Int32) : Option ((Int32 × Int32) ⊕ (Int32)) :=
(if l5 = 0 then
(f_X10_nextOf_131 σ l0 l1 l2 l3 l4)
else
(if s0 = 0 then
(f_X10_nextOf_131 σ l0 l1 l2 l3 l4)
else
(if l3 = (-1 : Int32) then
(f_X10_nextOf_126 σ l0 l1 l2 l4)
else
(if z_ob σ l0 9 then (zb (f_X10_ofMessage σ l0 l4 (1 : Int32)) (fun r3 => (zb (f_X10_ofMessage σ l0 l3 (1 : Int32)) (fun r5 => (if r3 ≤ r5 then
(f_X10_nextOf_131 σ l0 l1 l2 l3 l4)
else
(f_X10_nextOf_126 σ l0 l1 l2 l4)))))) else none))))
set_option maxRecDepth 100000 in
def f_X10_nextOf_88 (σ : zSt) (l0 : Nat) (l1 : Int32) (l2 : Int32) (l3 : Int32) (l4 : Int32) (l5 : Int32) : Option ((Int32 × Int32) ⊕ (Int32)) :=
(f_X10_nextOf_93 σ l0 l1 l2 l3 l4 l5 (1 : Int32))
set_option maxRecDepth 100000 in
def f_X10_nextOf_92 (σ : zSt) (l0 : Nat) (l1 : Int32) (l2 : Int32) (l3 : Int32) (l4 : Int32) (l5 : Int32) : Option ((Int32 × Int32) ⊕ (Int32)) :=
(f_X10_nextOf_93 σ l0 l1 l2 l3 l4 l5 (0 : Int32))
set_option maxRecDepth 100000 in
def f_X10_nextOf_43 (σ : zSt) (l0 : Nat) (l1 : Int32) (l2 : Int32) (l3 : Int32) (l4 : Int32) (s0 : Int32) : Option ((Int32 × Int32) ⊕ (Int32)) :=
(if l2 = (-1 : Int32) then
(f_X10_nextOf_88 σ l0 l1 l2 l3 l4 s0)
else
(if z_ob σ l0 9 then (zb (f_X10_ofMessage σ l0 l4 (1 : Int32)) (fun r3 => (zb (f_X10_ofMessage σ l0 l2 (1 : Int32)) (fun r5 => (if r3 < r5 then
(f_X10_nextOf_88 σ l0 l1 l2 l3 l4 s0)
else
(zb (f_X10_ofMessage σ l0 l4 (1 : Int32)) (fun r7 => (zb (f_X10_ofMessage σ l0 l2 (1 : Int32)) (fun r9 => (if r7 = r9 then
(if l4 ≤ l2 then
(f_X10_nextOf_92 σ l0 l1 l2 l3 l4 s0)
else
(f_X10_nextOf_88 σ l0 l1 l2 l3 l4 s0))
else
(f_X10_nextOf_92 σ l0 l1 l2 l3 l4 s0))))))))))) else none))
set_option maxRecDepth 100000 in
def f_X10_nextOf_42 (σ : zSt) (l0 : Nat) (l1 : Int32) (l2 : Int32) (l3 : Int32) (l4 : Int32) : Option ((Int32 × Int32) ⊕ (Int32)) :=
(f_X10_nextOf_43 σ l0 l1 l2 l3 l4 (0 : Int32))
set_option maxRecDepth 100000 in
def b_X10_nextOf_5 (σ : zSt) (l0 : Nat) (l1 : Int32) (l2 : Int32) (l3 : Int32) (l4 : Int32) : Option ((Int32 × Int32) ⊕ (Int32)) :=
(if z_ob σ l0 9 then (zc (z_R σ l0 0) none (fun q2 => (if z_ar σ q2 0 then (if z_ix (5 : Int32) (z_ln σ q2) then (if (z_I σ q2 (5 : Int32).toNatClampNeg) ≤ l4 then
(zex (some l3))
else
(zb (f_X10_ofMessage σ l0 l4 (2 : Int32)) (fun r8 => (if r8 = l1 then
(zb (f_X10_ofMessage σ l0 l4 (4 : Int32)) (fun r10 => (if r10 = (-1 : Int32) then
(f_X10_nextOf_43 σ l0 l1 l2 l3 l4 (1 : Int32))
else
(f_X10_nextOf_42 σ l0 l1 l2 l3 l4))))
else
(f_X10_nextOf_42 σ l0 l1 l2 l3 l4))))) else none) else none))) else none)
set_option maxRecDepth 100000 in
def f_X10_nextOf_5 (σ : zSt) (l0 : Nat) (l1 : Int32) (l2 : Int32) (l3 : Int32) (l4 : Int32) : Option (Int32) := zloop (fun (t : Int32 × Int32) => b_X10_nextOf_5 σ l0 l1 l2 t.1 t.2) zN (l3, l4)
set_option maxRecDepth 100000 in
def f_X10_nextOf (σ : zSt) (l0 : Nat) (l1 : Int32) (l2 : Int32) : Option (Int32) :=
(f_X10_nextOf_5 σ l0 l1 l2 (-1 : Int32) (0 : Int32))
set_option maxRecDepth 100000 in
def f_X10_makesToken_127 (σ : zSt) (l0 : Nat) (l1 : Int32) : Option (Int32 × zSt) :=
(if z_ob σ l0 9 then (zc (z_R σ l0 0) none (fun q2 => (if z_ar σ q2 0 then (if z_ix (4 : Int32) (z_ln σ q2) then (zl (z_pI σ q2 (4 : Int32).toNatClampNeg l1) (fun σ6 => (if z_ob σ6 l0 9 then (zc (z_R σ6 l0 0) none (fun q9 => (if z_ar σ6 q9 0 then (if z_ix (12 : Int32) (z_ln σ6 q9) then (zl (z_pI σ6 q9 (12 : Int32).toNatClampNeg ((z_I σ6 q9 (12 : Int32).toNatClampNeg) + (1 : Int32))) (fun σ13 => (some ((1 : Int32), σ13)))) else none) else none))) else none))) else none) else none))) else none)
set_option maxRecDepth 100000 in
def f_X10_makesToken_61 (σ : zSt) (l0 : Nat) (l2 : Int32) (s0 : Int32) : Option ((Int32 × Int32) ⊕ (Int32 × zSt)) :=
(some (.inl (s0, (l2 + (-1 : Int32)))))
set_option maxRecDepth 100000 in
def b_X10_makesToken_44 (σ : zSt) (l0 : Nat) (l1 : Int32) (l2 : Int32) : Option ((Int32 × Int32) ⊕ (Int32 × zSt)) :=
(if l2 < 0 then
(zex (if l1 = (-1 : Int32) then
(some ((0 : Int32), σ))
else
(if z_ob σ l0 9 then (zc (z_R σ l0 0) none (fun q2 => (if z_ar σ q2 0 then (if z_ix (3 : Int32) (z_ln σ q2) then (zc (z_R σ l0 0) none (fun q6 => (if z_ar σ q6 0 then (if z_ix (1 : Int32) (z_ln σ q6) then (zl (z_pI σ q2 (3 : Int32).toNatClampNeg ((z_I σ q2 (3 : Int32).toNatClampNeg) + ((z_I σ q6 (1 : Int32).toNatClampNeg) * ((6 : Int32) + ((2 : Int32) * l1))))) (fun σ10 => (if z_ob σ10 l0 9 then (zb (f_X10_isInRing σ10 l0 l1) (fun r14 => (if r14 = 0 then
(zc (z_R σ10 l0 0) none (fun q15 => (zb (f_X10_at σ10 l1 (2 : Int32)) (fun r18 => (if z_ar σ10 q15 0 then (if z_ix r18 (z_ln σ10 q15) then (zl (z_pI σ10 q15 r18.toNatClampNeg (1 : Int32)) (fun σ21 => (if z_ob σ21 l0 9 then (zc (z_R σ21 l0 0) none (fun q24 => (zb (f_X10_at σ21 l1 (3 : Int32)) (fun r27 => (if z_ar σ21 q24 0 then (if z_ix r27 (z_ln σ21 q24) then (zl (z_pI σ21 q24 r27.toNatClampNeg l1) (fun σ30 => (f_X10_makesToken_127 σ30 l0 l1))) else none) else none))))) else none))) else none) else none)))))
else
(f_X10_makesToken_127 σ10 l0 l1)))) else none))) else none) else none))) else none) else none))) else none)))
else
(if z_ob σ l0 9 then (zb (f_X10_isInRing σ l0 l2) (fun r35 => (if r35 = 0 then
(f_X10_makesToken_61 σ l0 l2 l1)
else
(f_X10_makesToken_61 σ l0 l2 l2)))) else none))
set_option maxRecDepth 100000 in
def f_X10_makesToken_44 (σ : zSt) (l0 : Nat) (l1 : Int32) (l2 : Int32) : Option (Int32 × zSt) := zloop (fun (t : Int32 × Int32) => b_X10_makesToken_44 σ l0 t.1 t.2) zN (l1, l2)
set_option maxRecDepth 100000 in
def f_X10_makesToken_34 (σ : zSt) (l0 : Nat) (l2 : Int32) (s0 : Int32) : Option ((Int32 × Int32) ⊕ (Int32 × zSt)) :=
(some (.inl (s0, (l2 + (-1 : Int32)))))
set_option maxRecDepth 100000 in
def f_X10_makesToken_33 (σ : zSt) (l0 : Nat) (l1 : Int32) (l2 : Int32) : Option ((Int32 × Int32) ⊕ (Int32 × zSt)) :=
(f_X10_makesToken_34 σ l0 l2 l1)
set_option maxRecDepth 100000 in
def b_X10_makesToken_5 (σ : zSt) (l0 : Nat) (l1 : Int32) (l2 : Int32) : Option ((Int32 × Int32) ⊕ (Int32 × zSt)) :=
(if l2 < 0 then
(zex (f_X10_makesToken_44 σ l0 l1 (31 : Int32)))
else
(if z_ob σ l0 9 then (zb (f_X10_of σ l0 l2 (0 : Int32)) (fun r4 => (if r4 = (1 : Int32) then
(zb (f_X10_of σ l0 l2 (1 : Int32)) (fun r6 => (if r6 = (1 : Int32) then
(f_X10_makesToken_34 σ l0 l2 l2)
else
(f_X10_makesToken_33 σ l0 l1 l2))))
else
(f_X10_makesToken_33 σ l0 l1 l2)))) else none))
set_option maxRecDepth 100000 in
def f_X10_makesToken_5 (σ : zSt) (l0 : Nat) (l1 : Int32) (l2 : Int32) : Option (Int32 × zSt) := zloop (fun (t : Int32 × Int32) => b_X10_makesToken_5 σ l0 t.1 t.2) zN (l1, l2)
set_option maxRecDepth 100000 in
def f_X10_makesToken (σ : zSt) (l0 : Nat) : Option (Int32 × zSt) :=
(f_X10_makesToken_5 σ l0 (-1 : Int32) (31 : Int32))
set_option maxRecDepth 100000 in
def f_X10_sends (σ : zSt) (l0 : Nat) (l1 : Int32) : Option (Int32 × zSt) :=
(if z_ob σ l0 9 then (zb (f_X10_nextOf σ l0 l1 (-1 : Int32)) (fun r3 => (zc (z_R σ l0 0) none (fun q4 => (if z_ar σ q4 0 then (if z_ix (3 : Int32) (z_ln σ q4) then (zl (z_I σ q4 (3 : Int32).toNatClampNeg) (fun x8 => (zb (f_X10_ofMessage σ l0 r3 (0 : Int32)) (fun r11 => (zb2 (f_X10_takes σ l0 r11) (fun r13 σ14 => (if r13 = 0 then
(if z_ob σ14 l0 9 then (zc (z_R σ14 l0 0) none (fun q16 => (zb (f_X10_inMessage σ14 r3 (4 : Int32)) (fun r19 => (zb (f_X10_ofMessage σ14 l0 r3 (3 : Int32)) (fun r21 => (if z_ar σ14 q16 0 then (if z_ix r19 (z_ln σ14 q16) then (zl (z_pI σ14 q16 r19.toNatClampNeg (x8 - r21)) (fun σ24 => (if z_ob σ24 l0 9 then (zc (z_R σ24 l0 0) none (fun q27 => (if z_ar σ24 q27 0 then (if z_ix (10 : Int32) (z_ln σ24 q27) then (zl (z_pI σ24 q27 (10 : Int32).toNatClampNeg ((z_I σ24 q27 (10 : Int32).toNatClampNeg) + (1 : Int32))) (fun σ31 => (if z_ob σ31 l0 9 then (zc (z_R σ31 l0 0) none (fun q34 => (if z_ar σ31 q34 0 then (if z_ix (15 : Int32) (z_ln σ31 q34) then (zb (f_X10_ofMessage σ31 l0 r3 (0 : Int32)) (fun r39 => (zl (z_pI σ31 q34 (15 : Int32).toNatClampNeg ((z_I σ31 q34 (15 : Int32).toNatClampNeg) + r39)) (fun σ40 => (some ((0 : Int32), σ40)))))) else none) else none))) else none))) else none) else none))) else none))) else none) else none))))))) else none)
else
(some ((1 : Int32), σ14))))))))) else none) else none))))) else none)
set_option maxRecDepth 100000 in
def f_X10_sendsAll_77 (σ : zSt) : Option (zSt) :=
(some σ)
set_option maxRecDepth 100000 in
def b_X10_sendsAll_40 (l0 : Nat) (l1 : Int32) (l2 : Int32) (l3 : Int32) (σ : zSt) (l5 : Int32) : Option ((zSt × Int32) ⊕ (zSt)) :=
(if l5 = 0 then
(if z_ob σ l0 9 then (zb (f_X10_nextOf σ l0 l1 (-1 : Int32)) (fun r4 => (if r4 = (-1 : Int32) then
(zex (f_X10_sendsAll_77 σ))
else
(zc (z_R σ l0 0) none (fun q6 => (if z_ar σ q6 0 then (if z_ix (3 : Int32) (z_ln σ q6) then (if l3 ≤ ((z_I σ q6 (3 : Int32).toNatClampNeg) - l2) then
(zex (f_X10_sendsAll_77 σ))
else
(zb2 (f_X10_sends σ l0 l1) (fun r12 σ13 => (some (.inl (σ13, r12)))))) else none) else none)))))) else none)
else
(zex (f_X10_sendsAll_77 σ)))
set_option maxRecDepth 100000 in
def f_X10_sendsAll_40 (l0 : Nat) (l1 : Int32) (l2 : Int32) (l3 : Int32) (σ : zSt) (l5 : Int32) : Option (zSt) := zloop (fun (t : zSt × Int32) => b_X10_sendsAll_40 l0 l1 l2 l3 t.1 t.2) zN (σ, l5)
set_option maxRecDepth 100000 in
def f_X10_sendsAll_38 (σ : zSt) (l0 : Nat) (l1 : Int32) (l2 : Int32) (l3 : Int32) (s0 : Int32) : Option (zSt) :=
(f_X10_sendsAll_40 l0 l1 l2 l3 σ s0)
set_option maxRecDepth 100000 in
def f_X10_sendsAll_37 (σ : zSt) (l0 : Nat) (l1 : Int32) (l2 : Int32) (l3 : Int32) : Option (zSt) :=
(f_X10_sendsAll_38 σ l0 l1 l2 l3 (0 : Int32))
set_option maxRecDepth 100000 in
def f_X10_sendsAll (σ : zSt) (l0 : Nat) (l1 : Int32) (l2 : Int32) (l3 : Int32) : Option (zSt) :=
(if z_ob σ l0 9 then (zb (f_X10_nextOf σ l0 l1 (-1 : Int32)) (fun r3 => (if r3 = (-1 : Int32) then
(f_X10_sendsAll_37 σ l0 l1 l2 l3)
else
(zb (f_X10_ofMessage σ l0 r3 (1 : Int32)) (fun r5 => (if r5 < (5 : Int32) then
(f_X10_sendsAll_37 σ l0 l1 l2 l3)
else
(zb2 (f_X10_sends σ l0 l1) (fun r7 σ8 => (if r7 = 0 then
(f_X10_sendsAll_37 σ8 l0 l1 l2 l3)
else
(f_X10_sendsAll_38 σ8 l0 l1 l2 l3 (1 : Int32))))))))))) else none)
set_option maxRecDepth 100000 in
def f_X10_behind_20 (σ : zSt) (s0 : Int32) : Option (Int32) :=
(some s0)
set_option maxRecDepth 100000 in
def f_X10_behind (σ : zSt) (l0 : Int32) (l1 : Int32) : Option (Int32) :=
(zl (((l1 - l0) + (32 : Int32)) - ((l1 - l0) + (32 : Int32)) / (32 : Int32) * (32 : Int32)) (fun x1 => (if x1 = 0 then
(f_X10_behind_20 σ (32 : Int32))
else
(f_X10_behind_20 σ x1))))
set_option maxRecDepth 100000 in
def f_X10_polls_33 (σ : zSt) : Option (zSt) :=
(some σ)
set_option maxRecDepth 100000 in
def f_X10_polls_216 (σ : zSt) : Option (zSt) :=
(some σ)
set_option maxRecDepth 100000 in
def f_X10_polls_131 (σ : zSt) (l0 : Nat) (l1 : Int32) (l3 : Int32) (s0 : Int32) : Option (zSt) :=
(if s0 = 0 then
(if z_ob σ l0 9 then (zc (z_R σ l0 0) none (fun q2 => (if z_ar σ q2 0 then (if z_ix (3 : Int32) (z_ln σ q2) then (zc (z_R σ l0 0) none (fun q6 => (if z_ar σ q6 0 then (if z_ix (1 : Int32) (z_ln σ q6) then (zl (z_pI σ q2 (3 : Int32).toNatClampNeg ((z_I σ q2 (3 : Int32).toNatClampNeg) + (z_I σ q6 (1 : Int32).toNatClampNeg))) (fun σ10 => (f_X10_polls_216 σ10))) else none) else none))) else none) else none))) else none)
else
(if z_ob σ l0 9 then (zc (z_R σ l0 0) none (fun q13 => (zb (f_X10_at σ l3 (2 : Int32)) (fun r16 => (if z_ar σ q13 0 then (if z_ix r16 (z_ln σ q13) then (zl (z_pI σ q13 r16.toNatClampNeg (1 : Int32)) (fun σ19 => (if z_ob σ19 l0 9 then (zc (z_R σ19 l0 0) none (fun q22 => (zb (f_X10_at σ19 l3 (3 : Int32)) (fun r25 => (zb (f_X10_of σ19 l0 l1 (3 : Int32)) (fun r27 => (if z_ar σ19 q22 0 then (if z_ix r25 (z_ln σ19 q22) then (zl (z_pI σ19 q22 r25.toNatClampNeg r27) (fun σ30 => (if z_ob σ30 l0 9 then (zc (z_R σ30 l0 0) none (fun q33 => (zb (f_X10_at σ30 l3 (4 : Int32)) (fun r36 => (if z_ar σ30 q33 0 then (if z_ix r36 (z_ln σ30 q33) then (zl (z_pI σ30 q33 r36.toNatClampNeg l3) (fun σ39 => (if z_ob σ39 l0 9 then (zc (z_R σ39 l0 0) none (fun q42 => (zb (f_X10_at σ39 l1 (3 : Int32)) (fun r45 => (if z_ar σ39 q42 0 then (if z_ix r45 (z_ln σ39 q42) then (zl (z_pI σ39 q42 r45.toNatClampNeg l3) (fun σ48 => (if z_ob σ48 l0 9 then (zc (z_R σ48 l0 0) none (fun q51 => (if z_ar σ48 q51 0 then (if z_ix (13 : Int32) (z_ln σ48 q51) then (zl (z_pI σ48 q51 (13 : Int32).toNatClampNeg ((z_I σ48 q51 (13 : Int32).toNatClampNeg) + (1 : Int32))) (fun σ55 => (f_X10_polls_216 σ55))) else none) else none))) else none))) else none) else none))))) else none))) else none) else none))))) else none))) else none) else none))))))) else none))) else none) else none))))) else none))
set_option maxRecDepth 100000 in
def f_X10_polls_130 (σ : zSt) (l0 : Nat) (l1 : Int32) (l3 : Int32) : Option (zSt) :=
(f_X10_polls_131 σ l0 l1 l3 (0 : Int32))
set_option maxRecDepth 100000 in
def f_X10_polls_65 (σ : zSt) (l0 : Nat) (l1 : Int32) (s0 : Int32) : Option (zSt) :=
(if z_ob σ l0 9 then (zc (z_R σ l0 0) none (fun q2 => (zb (f_X10_at σ l1 (4 : Int32)) (fun r5 => (if z_ar σ q2 0 then (if z_ix r5 (z_ln σ q2) then (zl (z_pI σ q2 r5.toNatClampNeg s0) (fun σ8 => (if z_ob σ8 l0 9 then (zb2 (f_X10_takes σ8 l0 (1 : Int32)) (fun r12 σ13 => (if r12 = 0 then
(if z_ob σ13 l0 9 then (zb (f_X10_of σ13 l0 s0 (0 : Int32)) (fun r16 => (if r16 = (1 : Int32) then
(zb (f_X10_of σ13 l0 s0 (1 : Int32)) (fun r18 => (if r18 = (1 : Int32) then
(zb (f_X10_of σ13 l0 s0 (2 : Int32)) (fun r20 => (if r20 = 0 then
(zb2 (f_X10_takes σ13 l0 (1 : Int32)) (fun r22 σ23 => (if r22 = 0 then
(f_X10_polls_131 σ23 l0 l1 s0 (1 : Int32))
else
(f_X10_polls_130 σ23 l0 l1 s0))))
else
(f_X10_polls_130 σ13 l0 l1 s0))))
else
(f_X10_polls_130 σ13 l0 l1 s0))))
else
(f_X10_polls_130 σ13 l0 l1 s0)))) else none)
else
(f_X10_polls_130 σ13 l0 l1 s0)))) else none))) else none) else none))))) else none)
set_option maxRecDepth 100000 in
def f_X10_polls (σ : zSt) (l0 : Nat) (l1 : Int32) : Option (zSt) :=
(if z_ob σ l0 9 then (zb (f_X10_of σ l0 l1 (3 : Int32)) (fun r3 => (zb (f_X10_behind σ l1 r3) (fun r5 => (zl (r5 - (1 : Int32)) (fun x6 => (zb (f_X10_of σ l0 l1 (5 : Int32)) (fun r9 => (zc (z_R σ l0 0) none (fun q10 => (if z_ar σ q10 0 then (if z_ix (2 : Int32) (z_ln σ q10) then (if ¬ (z_I σ q10 (2 : Int32).toNatClampNeg) = 0 then (if (r9 - r9 / (z_I σ q10 (2 : Int32).toNatClampNeg) * (z_I σ q10 (2 : Int32).toNatClampNeg)) = 0 then
(if x6 = 0 then
(f_X10_polls_33 σ)
else
(zb (f_X10_of σ l0 l1 (4 : Int32)) (fun r16 => (zl ((r16 + (1 : Int32)) - (r16 + (1 : Int32)) / (32 : Int32) * (32 : Int32)) (fun x17 => (zb (f_X10_behind σ l1 x17) (fun r20 => (if x6 < r20 then
(f_X10_polls_65 σ l0 l1 ((l1 + (1 : Int32)) - (l1 + (1 : Int32)) / (32 : Int32) * (32 : Int32)))
else
(f_X10_polls_65 σ l0 l1 x17)))))))))
else
(f_X10_polls_33 σ)) else none) else none) else none))))))))))) else none)
set_option maxRecDepth 100000 in
def f_X10_passes_174 (σ : zSt) (l0 : Nat) (l1 : Int32) (l3 : Int32) : Option (zSt) :=
(if z_ob σ l0 9 then (zc (z_R σ l0 0) none (fun q2 => (zb (f_X10_at σ l1 (3 : Int32)) (fun r5 => (if z_ar σ q2 0 then (if z_ix r5 (z_ln σ q2) then (zl (z_pI σ q2 r5.toNatClampNeg l3) (fun σ8 => (if z_ob σ8 l0 9 then (zc (z_R σ8 l0 0) none (fun q11 => (if z_ar σ8 q11 0 then (if z_ix (4 : Int32) (z_ln σ8 q11) then (zl (z_pI σ8 q11 (4 : Int32).toNatClampNeg l3) (fun σ15 => (some σ15))) else none) else none))) else none))) else none) else none))))) else none)
set_option maxRecDepth 100000 in
def f_X10_passes_142 (σ : zSt) (l0 : Nat) (l1 : Int32) (l3 : Int32) (s0 : Int32) : Option ((zSt × Int32 × Int32) ⊕ (zSt)) :=
(if s0 = 0 then
(if z_ob σ l0 9 then (zc (z_R σ l0 0) none (fun q2 => (if z_ar σ q2 0 then (if z_ix (3 : Int32) (z_ln σ q2) then (zc (z_R σ l0 0) none (fun q6 => (if z_ar σ q6 0 then (if z_ix (1 : Int32) (z_ln σ q6) then (zl (z_pI σ q2 (3 : Int32).toNatClampNeg ((z_I σ q2 (3 : Int32).toNatClampNeg) + (z_I σ q6 (1 : Int32).toNatClampNeg))) (fun σ10 => (zl ((l3 + (1 : Int32)) - (l3 + (1 : Int32)) / (32 : Int32) * (32 : Int32)) (fun x12 => (some (.inl (σ10, x12, s0))))))) else none) else none))) else none) else none))) else none)
else
(some (.inl (σ, l3, s0))))
set_option maxRecDepth 100000 in
def f_X10_passes_141 (σ : zSt) (l0 : Nat) (l1 : Int32) (l3 : Int32) : Option ((zSt × Int32 × Int32) ⊕ (zSt)) :=
(f_X10_passes_142 σ l0 l1 l3 (0 : Int32))
set_option maxRecDepth 100000 in
def b_X10_passes_111 (l0 : Nat) (l1 : Int32) (σ : zSt) (l3 : Int32) (l4 : Int32) : Option ((zSt × Int32 × Int32) ⊕ (zSt)) :=
(if l3 = l1 then
(zex (f_X10_passes_174 σ l0 l1 l3))
else
(if l4 = 0 then
(if z_ob σ l0 9 then (zb2 (f_X10_takes σ l0 (1 : Int32)) (fun r5 σ6 => (if r5 = 0 then
(if z_ob σ6 l0 9 then (zb (f_X10_isInRing σ6 l0 l3) (fun r9 => (if r9 = 0 then
(f_X10_passes_141 σ6 l0 l1 l3)
else
(f_X10_passes_142 σ6 l0 l1 l3 (1 : Int32))))) else none)
else
(f_X10_passes_141 σ6 l0 l1 l3)))) else none)
else
(zex (f_X10_passes_174 σ l0 l1 l3))))
set_option maxRecDepth 100000 in
def f_X10_passes_111 (l0 : Nat) (l1 : Int32) (σ : zSt) (l3 : Int32) (l4 : Int32) : Option (zSt) := zloop (fun (t : zSt × Int32 × Int32) => b_X10_passes_111 l0 l1 t.1 t.2.1 t.2.2) zN (σ, l3, l4)
set_option maxRecDepth 100000 in
def f_X10_passes_101 (σ : zSt) (l0 : Nat) (l1 : Int32) (l2 : Int32) : Option (zSt) :=
(zl ((l2 + (1 : Int32)) - (l2 + (1 : Int32)) / (32 : Int32) * (32 : Int32)) (fun x1 => (f_X10_passes_111 l0 l1 σ x1 (0 : Int32))))
set_option maxRecDepth 100000 in
def f_X10_passes_38 (σ : zSt) (l0 : Nat) (l1 : Int32) (l2 : Int32) : Option ((zSt × Int32) ⊕ (zSt)) :=
(if z_ob σ l0 9 then (zc (z_R σ l0 0) none (fun q2 => (if z_ar σ q2 0 then (if z_ix (3 : Int32) (z_ln σ q2) then (zc (z_R σ l0 0) none (fun q6 => (if z_ar σ q6 0 then (if z_ix (1 : Int32) (z_ln σ q6) then (zl (z_pI σ q2 (3 : Int32).toNatClampNeg ((z_I σ q2 (3 : Int32).toNatClampNeg) + (z_I σ q6 (1 : Int32).toNatClampNeg))) (fun σ10 => (some (.inl (σ10, (l2 + (1 : Int32))))))) else none) else none))) else none) else none))) else none)
set_option maxRecDepth 100000 in
def b_X10_passes_2 (l0 : Nat) (l1 : Int32) (σ : zSt) (l2 : Int32) : Option ((zSt × Int32) ⊕ (zSt)) :=
(if (3 : Int32) ≤ l2 then
(zex (if z_ob σ l0 9 then (zb (f_X10_of σ l0 l1 (3 : Int32)) (fun r3 => (if r3 = l1 then
(f_X10_passes_101 σ l0 l1 r3)
else
(zb (f_X10_isInRing σ l0 r3) (fun r5 => (if r5 = 0 then
(f_X10_passes_101 σ l0 l1 r3)
else
(zc (z_R σ l0 0) none (fun q6 => (zb (f_X10_at σ r3 (2 : Int32)) (fun r9 => (if z_ar σ q6 0 then (if z_ix r9 (z_ln σ q6) then (zl (z_pI σ q6 r9.toNatClampNeg (0 : Int32)) (fun σ12 => (if z_ob σ12 l0 9 then (zc (z_R σ12 l0 0) none (fun q15 => (if z_ar σ12 q15 0 then (if z_ix (14 : Int32) (z_ln σ12 q15) then (zl (z_pI σ12 q15 (14 : Int32).toNatClampNeg ((z_I σ12 q15 (14 : Int32).toNatClampNeg) + (1 : Int32))) (fun σ19 => (f_X10_passes_101 σ19 l0 l1 r3))) else none) else none))) else none))) else none) else none))))))))))) else none))
else
(if z_ob σ l0 9 then (zb (f_X10_of σ l0 l1 (3 : Int32)) (fun r24 => (zb2 (f_X10_takes σ l0 (1 : Int32)) (fun r26 σ27 => (if r26 = 0 then
(if z_ob σ27 l0 9 then (zb (f_X10_isInRing σ27 l0 r24) (fun r30 => (if r30 = 0 then
(f_X10_passes_38 σ27 l0 l1 l2)
else
(zex (zc (z_R σ27 l0 0) none (fun q31 => (if z_ar σ27 q31 0 then (if z_ix (4 : Int32) (z_ln σ27 q31) then (zl (z_pI σ27 q31 (4 : Int32).toNatClampNeg r24) (fun σ35 => (some σ35))) else none) else none))))))) else none)
else
(f_X10_passes_38 σ27 l0 l1 l2)))))) else none))
set_option maxRecDepth 100000 in
def f_X10_passes_2 (l0 : Nat) (l1 : Int32) (σ : zSt) (l2 : Int32) : Option (zSt) := zloop (fun (t : zSt × Int32) => b_X10_passes_2 l0 l1 t.1 t.2) zN (σ, l2)
set_option maxRecDepth 100000 in
def f_X10_passes (σ : zSt) (l0 : Nat) (l1 : Int32) : Option (zSt) :=
(f_X10_passes_2 l0 l1 σ (0 : Int32))
set_option maxRecDepth 100000 in
def f_X10_logs_58 (σ : zSt) (l0 : Nat) (l1 : Int32) (l2 : Int32) (l3 : Int32) (l4 : Int32) : Option (zSt) :=
(if z_ob σ l0 9 then (zc (z_R σ l0 0) none (fun q2 => (if z_ar σ q2 0 then (if z_ix (7 : Int32) (z_ln σ q2) then (zl ((782 : Int32) + ((4 : Int32) * (z_I σ q2 (7 : Int32).toNatClampNeg))) (fun x6 => (zc (z_R σ l0 0) none (fun q8 => (if z_ar σ q8 0 then (if z_ix x6 (z_ln σ q8) then (zl (z_pI σ q8 x6.toNatClampNeg l1) (fun σ12 => (if z_ob σ12 l0 9 then (zc (z_R σ12 l0 0) none (fun q15 => (if z_ar σ12 q15 0 then (if z_ix (x6 + (1 : Int32)) (z_ln σ12 q15) then (zl (z_pI σ12 q15 (x6 + (1 : Int32)).toNatClampNeg l2) (fun σ19 => (if z_ob σ19 l0 9 then (zc (z_R σ19 l0 0) none (fun q22 => (if z_ar σ19 q22 0 then (if z_ix (x6 + (2 : Int32)) (z_ln σ19 q22) then (zl (z_pI σ19 q22 (x6 + (2 : Int32)).toNatClampNeg l3) (fun σ26 => (if z_ob σ26 l0 9 then (zc (z_R σ26 l0 0) none (fun q29 => (if z_ar σ26 q29 0 then (if z_ix (x6 + (3 : Int32)) (z_ln σ26 q29) then (zl (z_pI σ26 q29 (x6 + (3 : Int32)).toNatClampNeg l4) (fun σ33 => (if z_ob σ33 l0 9 then (zc (z_R σ33 l0 0) none (fun q36 => (if z_ar σ33 q36 0 then (if z_ix (7 : Int32) (z_ln σ33 q36) then (zl (z_pI σ33 q36 (7 : Int32).toNatClampNeg ((z_I σ33 q36 (7 : Int32).toNatClampNeg) + (1 : Int32))) (fun σ40 => (some σ40))) else none) else none))) else none))) else none) else none))) else none))) else none) else none))) else none))) else none) else none))) else none))) else none) else none))))) else none) else none))) else none)
set_option maxRecDepth 100000 in
def b_X10_logs_17 (l0 : Nat) (l1 : Int32) (l2 : Int32) (l3 : Int32) (l4 : Int32) (σ : zSt) (l5 : Int32) : Option ((zSt × Int32) ⊕ (zSt)) :=
(if (938 : Int32) ≤ l5 then
(zex (if z_ob σ l0 9 then (zc (z_R σ l0 0) none (fun q2 => (if z_ar σ q2 0 then (if z_ix (7 : Int32) (z_ln σ q2) then (zl (z_pI σ q2 (7 : Int32).toNatClampNeg ((z_I σ q2 (7 : Int32).toNatClampNeg) - (1 : Int32))) (fun σ6 => (f_X10_logs_58 σ6 l0 l1 l2 l3 l4))) else none) else none))) else none))
else
(if z_ob σ l0 9 then (zc (z_R σ l0 0) none (fun q10 => (zc (z_R σ l0 0) none (fun q12 => (if z_ar σ q12 0 then (if z_ix (l5 + (4 : Int32)) (z_ln σ q12) then (if z_ar σ q10 0 then (if z_ix l5 (z_ln σ q10) then (zl (z_pI σ q10 l5.toNatClampNeg (z_I σ q12 (l5 + (4 : Int32)).toNatClampNeg)) (fun σ18 => (some (.inl (σ18, (l5 + (1 : Int32))))))) else none) else none) else none) else none))))) else none))
set_option maxRecDepth 100000 in
def f_X10_logs_17 (l0 : Nat) (l1 : Int32) (l2 : Int32) (l3 : Int32) (l4 : Int32) (σ : zSt) (l5 : Int32) : Option (zSt) := zloop (fun (t : zSt × Int32) => b_X10_logs_17 l0 l1 l2 l3 l4 t.1 t.2) zN (σ, l5)
set_option maxRecDepth 100000 in
def f_X10_logs (σ : zSt) (l0 : Nat) (l1 : Int32) (l2 : Int32) (l3 : Int32) (l4 : Int32) : Option (zSt) :=
(if z_ob σ l0 9 then (zc (z_R σ l0 0) none (fun q2 => (if z_ar σ q2 0 then (if z_ix (7 : Int32) (z_ln σ q2) then (if (z_I σ q2 (7 : Int32).toNatClampNeg) = (40 : Int32) then
(f_X10_logs_17 l0 l1 l2 l3 l4 σ (782 : Int32))
else
(f_X10_logs_58 σ l0 l1 l2 l3 l4)) else none) else none))) else none)
set_option maxRecDepth 100000 in
def f_X10_visits_122 (σ : zSt) (l0 : Nat) (l1 : Int32) (l2 : Int32) (l3 : Int32) (s0 : Int32) (s1 : Int32) (s2 : Option Nat) : Option (zSt) :=
(zc s2 none (fun a1 => (if z_ar σ a1 0 then (if z_ix s1 (z_ln σ a1) then (zl (z_pI σ a1 s1.toNatClampNeg s0) (fun σ5 => (if z_ob σ5 l0 9 then (zc (z_R σ5 l0 0) none (fun q8 => (if z_ar σ5 q8 0 then (if z_ix (10 : Int32) (z_ln σ5 q8) then (zl (z_I σ5 q8 (10 : Int32).toNatClampNeg) (fun x12 => (zc (z_R σ5 l0 0) none (fun q14 => (if z_ar σ5 q14 0 then (if z_ix (0 : Int32) (z_ln σ5 q14) then (zb (f_X10_sendsAll σ5 l0 l1 l2 ((z_I σ5 q14 (0 : Int32).toNatClampNeg) - l3)) (fun σ19 => (if z_ob σ19 l0 9 then (zc (z_R σ19 l0 0) none (fun q21 => (if z_ar σ19 q21 0 then (if z_ix (10 : Int32) (z_ln σ19 q21) then (zb (f_X10_logs σ19 l0 l2 l1 l3 ((z_I σ19 q21 (10 : Int32).toNatClampNeg) - x12)) (fun σ26 => (if z_ob σ26 l0 9 then (zb (f_X10_polls σ26 l0 l1) (fun σ29 => (if z_ob σ29 l0 9 then (zb (f_X10_passes σ29 l0 l1) (fun σ32 => (some σ32))) else none))) else none))) else none) else none))) else none))) else none) else none))))) else none) else none))) else none))) else none) else none)))
set_option maxRecDepth 100000 in
def f_X10_visits_56 (σ : zSt) (l0 : Nat) (l1 : Int32) (l2 : Int32) (s0 : Int32) : Option (zSt) :=
(if z_ob σ l0 9 then (zc (z_R σ l0 0) none (fun q2 => (zb (f_X10_at σ l1 (6 : Int32)) (fun r5 => (if z_ar σ q2 0 then (if z_ix r5 (z_ln σ q2) then (zl (z_pI σ q2 r5.toNatClampNeg l2) (fun σ8 => (if z_ob σ8 l0 9 then (zc (z_R σ8 l0 0) none (fun q11 => (zb (f_X10_at σ8 l1 (5 : Int32)) (fun r14 => (if z_ar σ8 q11 0 then (if z_ix r14 (z_ln σ8 q11) then (zl (z_pI σ8 q11 r14.toNatClampNeg ((z_I σ8 q11 r14.toNatClampNeg) + (1 : Int32))) (fun σ17 => (if z_ob σ17 l0 9 then (zc (z_R σ17 l0 0) none (fun q20 => (if z_ar σ17 q20 0 then (if z_ix (9 : Int32) (z_ln σ17 q20) then (zl (z_pI σ17 q20 (9 : Int32).toNatClampNeg ((z_I σ17 q20 (9 : Int32).toNatClampNeg) + (1 : Int32))) (fun σ24 => (if z_ob σ24 l0 9 then (zc (z_R σ24 l0 0) none (fun q27 => (zc (z_R σ24 l0 0) none (fun q29 => (if z_ar σ24 q29 0 then (if z_ix (8 : Int32) (z_ln σ24 q29) then (if s0 ≤ (z_I σ24 q29 (8 : Int32).toNatClampNeg) then
(zc (z_R σ24 l0 0) none (fun q33 => (if z_ar σ24 q33 0 then (if z_ix (8 : Int32) (z_ln σ24 q33) then (f_X10_visits_122 σ24 l0 l1 l2 s0 (z_I σ24 q33 (8 : Int32).toNatClampNeg) (8 : Int32) (some q27)) else none) else none)))
else
(f_X10_visits_122 σ24 l0 l1 l2 s0 s0 (8 : Int32) (some q27))) else none) else none))))) else none))) else none) else none))) else none))) else none) else none))))) else none))) else none) else none))))) else none)
set_option maxRecDepth 100000 in
def f_X10_visits_18 (σ : zSt) (l0 : Nat) : Option (zSt) :=
(if z_ob σ l0 9 then (zc (z_R σ l0 0) none (fun q2 => (if z_ar σ q2 0 then (if z_ix (4 : Int32) (z_ln σ q2) then (zl (z_I σ q2 (4 : Int32).toNatClampNeg) (fun x6 => (zc (z_R σ l0 0) none (fun q8 => (if z_ar σ q8 0 then (if z_ix (3 : Int32) (z_ln σ q8) then (zl (z_I σ q8 (3 : Int32).toNatClampNeg) (fun x12 => (zb (f_X10_of σ l0 x6 (6 : Int32)) (fun r15 => (if r15 = (-1 : Int32) then
(f_X10_visits_56 σ l0 x6 x12 (0 : Int32))
else
(zb (f_X10_of σ l0 x6 (6 : Int32)) (fun r17 => (f_X10_visits_56 σ l0 x6 x12 (x12 - r17))))))))) else none) else none))))) else none) else none))) else none)
set_option maxRecDepth 100000 in
def f_X10_visits (σ : zSt) (l0 : Nat) : Option (zSt) :=
(if z_ob σ l0 9 then (zc (z_R σ l0 0) none (fun q2 => (if z_ar σ q2 0 then (if z_ix (4 : Int32) (z_ln σ q2) then (if (z_I σ q2 (4 : Int32).toNatClampNeg) = (-1 : Int32) then
(zb2 (f_X10_makesToken σ l0) (fun r7 σ8 => (if r7 = 0 then
(some σ8)
else
(f_X10_visits_18 σ8 l0))))
else
(f_X10_visits_18 σ l0)) else none) else none))) else none)
set_option maxRecDepth 100000 in
def b_X10_run_41 (l0 : Nat) (l1 : Int32) (σ : zSt) (l2 : Int32) : Option ((zSt × Int32) ⊕ (Int32 × zSt)) :=
(if l1 ≤ l2 then
(zex (if z_ob σ l0 9 then (zc (z_R σ l0 0) none (fun q2 => (if z_ar σ q2 0 then (if z_ix (3 : Int32) (z_ln σ q2) then (some ((z_I σ q2 (3 : Int32).toNatClampNeg), σ)) else none) else none))) else none))
else
(if z_ob σ l0 9 then (zb (f_X10_visits σ l0) (fun σ9 => (some (.inl (σ9, (l2 + (1 : Int32))))))) else none))
set_option maxRecDepth 100000 in
def f_X10_run_41 (l0 : Nat) (l1 : Int32) (σ : zSt) (l2 : Int32) : Option (Int32 × zSt) := zloop (fun (t : zSt × Int32) => b_X10_run_41 l0 l1 t.1 t.2) zN (σ, l2)
set_option maxRecDepth 100000 in
def f_X10_run_26 (σ : zSt) (l0 : Nat) (l1 : Int32) (s0 : Int32) (s1 : Int32) (s2 : Option Nat) : Option (Int32 × zSt) :=
(zc s2 none (fun a1 => (if z_ob σ a1 9 then (zb2 (f_X10_goes σ a1 s1 s0 (1 : Int32)) (fun r5 σ6 => (if r5 = 0 then
(some ((0 : Int32), σ6))
else
(if z_ob σ6 l0 9 then (zb (f_X10_save σ6 l0) (fun σ9 => (f_X10_run_41 l0 l1 σ9 (0 : Int32)))) else none)))) else none)))
set_option maxRecDepth 100000 in
def f_X10_run (σ : zSt) (l0 : Nat) (l1 : Int32) : Option (Int32 × zSt) :=
(zb (f_X10_in σ l1.toInt64 (0 : Int64) (200 : Int64)) (fun r2 => (if z_ob σ l0 9 then (zc (z_R σ l0 0) none (fun q4 => (if z_ar σ q4 0 then (if z_ix (3 : Int32) (z_ln σ q4) then (if (900000 : Int32) < (z_I σ q4 (3 : Int32).toNatClampNeg) then
(f_X10_run_26 σ l0 l1 (0 : Int32) r2 (some l0))
else
(f_X10_run_26 σ l0 l1 (1 : Int32) r2 (some l0))) else none) else none))) else none)))
set_option maxRecDepth 100000 in
def f_X10_loseToken (σ : zSt) (l0 : Nat) : Option (Int32 × zSt) :=
(if z_ob σ l0 9 then (zl (z_pI σ l0 4 (0 : Int32)) (fun σ2 => (if z_ob σ2 l0 9 then (zb (f_X10_save σ2 l0) (fun σ6 => (if z_ob σ6 l0 9 then (zc (z_R σ6 l0 0) none (fun q8 => (if z_ar σ6 q8 0 then (if z_ix (4 : Int32) (z_ln σ6 q8) then (zl (z_I σ6 q8 (4 : Int32).toNatClampNeg) (fun x12 => (zc (z_R σ6 l0 0) none (fun q14 => (if z_ar σ6 q14 0 then (if z_ix (4 : Int32) (z_ln σ6 q14) then (zl (z_pI σ6 q14 (4 : Int32).toNatClampNeg (-1 : Int32)) (fun σ18 => (some (x12, σ18)))) else none) else none))))) else none) else none))) else none))) else none))) else none)
set_option maxRecDepth 100000 in
def f_X10_inRing_24 (σ : zSt) (l0 : Nat) (l2 : Int32) (s0 : Int32) (s1 : Int32) : Option ((Int32 × Int32) ⊕ (Int32)) :=
(zl (s1 + s0) (fun x1 => (some (.inl (x1, (l2 + (1 : Int32)))))))
set_option maxRecDepth 100000 in
def b_X10_inRing_4 (σ : zSt) (l0 : Nat) (l1 : Int32) (l2 : Int32) : Option ((Int32 × Int32) ⊕ (Int32)) :=
(if (32 : Int32) ≤ l2 then
(zex (some l1))
else
(if z_ob σ l0 9 then (zb (f_X10_isInRing σ l0 l2) (fun r4 => (if r4 = 0 then
(f_X10_inRing_24 σ l0 l2 (0 : Int32) l1)
else
(f_X10_inRing_24 σ l0 l2 (1 : Int32) l1)))) else none))
set_option maxRecDepth 100000 in
def f_X10_inRing_4 (σ : zSt) (l0 : Nat) (l1 : Int32) (l2 : Int32) : Option (Int32) := zloop (fun (t : Int32 × Int32) => b_X10_inRing_4 σ l0 t.1 t.2) zN (l1, l2)
set_option maxRecDepth 100000 in
def f_X10_inRing (σ : zSt) (l0 : Nat) : Option (Int32) :=
(f_X10_inRing_4 σ l0 (0 : Int32) (0 : Int32))
set_option maxRecDepth 100000 in
def f_X10_settingOf (σ : zSt) (l0 : Nat) (l1 : Int32) : Option (Int32) :=
(if l1 = (3 : Int32) then
(if z_ob σ l0 9 then (zb (f_X10_stations σ l0) (fun r3 => (some r3))) else none)
else
(if l1 = (4 : Int32) then
(if z_ob σ l0 9 then (zb (f_X10_inRing σ l0) (fun r6 => (some r6))) else none)
else
(if l1 = (5 : Int32) then
(if z_ob σ l0 9 then (zc (z_R σ l0 0) none (fun q8 => (if z_ar σ q8 0 then (if z_ix (6 : Int32) (z_ln σ q8) then (some (z_I σ q8 (6 : Int32).toNatClampNeg)) else none) else none))) else none)
else
(if l1 = (6 : Int32) then
(if z_ob σ l0 9 then (zc (z_R σ l0 0) none (fun q13 => (if z_ar σ q13 0 then (if z_ix (3 : Int32) (z_ln σ q13) then (some (z_I σ q13 (3 : Int32).toNatClampNeg)) else none) else none))) else none)
else
(if l1 = (7 : Int32) then
(if z_ob σ l0 9 then (zc (z_R σ l0 0) none (fun q18 => (if z_ar σ q18 0 then (if z_ix (4 : Int32) (z_ln σ q18) then (some (z_I σ q18 (4 : Int32).toNatClampNeg)) else none) else none))) else none)
else
(if l1 = (8 : Int32) then
(if z_ob σ l0 9 then (zc (z_R σ l0 0) none (fun q23 => (if z_ar σ q23 0 then (if z_ix (5 : Int32) (z_ln σ q23) then (some (z_I σ q23 (5 : Int32).toNatClampNeg)) else none) else none))) else none)
else
(if z_ob σ l0 9 then (zc (z_R σ l0 0) none (fun q28 => (if z_ar σ q28 0 then (if z_ix l1 (z_ln σ q28) then (some (z_I σ q28 l1.toNatClampNeg)) else none) else none))) else none)))))))
set_option maxRecDepth 100000 in
def f_X10_setting_27 (σ : zSt) (s0 : Int32) : Option (Int32 × zSt) :=
(some (s0, σ))
set_option maxRecDepth 100000 in
def f_X10_setting (σ : zSt) (l0 : Nat) (l1 : Int32) : Option (Int32 × zSt) :=
(zb (f_X10_in σ l1.toInt64 (0 : Int64) (8 : Int64)) (fun r2 => (if z_ob σ l0 9 then (zb2 (f_X10_goes σ l0 r2 (1 : Int32) (1 : Int32)) (fun r5 σ6 => (if r5 = 0 then
(f_X10_setting_27 σ6 (0 : Int32))
else
(if z_ob σ6 l0 9 then (zb (f_X10_settingOf σ6 l0 l1) (fun r9 => (f_X10_setting_27 σ6 r9))) else none)))) else none)))
set_option maxRecDepth 100000 in
def f_X10_queueOf_40 (σ : zSt) (l0 : Nat) (l1 : Int32) (l3 : Int32) (s0 : Int32) (s1 : Int32) : Option ((Int32 × Int32) ⊕ (Int32)) :=
(zl (s1 + s0) (fun x1 => (some (.inl (x1, (l3 + (1 : Int32)))))))
set_option maxRecDepth 100000 in
def f_X10_queueOf_39 (σ : zSt) (l0 : Nat) (l1 : Int32) (l3 : Int32) (s0 : Int32) : Option ((Int32 × Int32) ⊕ (Int32)) :=
(f_X10_queueOf_40 σ l0 l1 l3 (0 : Int32) s0)
set_option maxRecDepth 100000 in
def b_X10_queueOf_4 (σ : zSt) (l0 : Nat) (l1 : Int32) (l2 : Int32) (l3 : Int32) : Option ((Int32 × Int32) ⊕ (Int32)) :=
(if z_ob σ l0 9 then (zc (z_R σ l0 0) none (fun q2 => (if z_ar σ q2 0 then (if z_ix (5 : Int32) (z_ln σ q2) then (if (z_I σ q2 (5 : Int32).toNatClampNeg) ≤ l3 then
(zex (some l2))
else
(zb (f_X10_ofMessage σ l0 l3 (2 : Int32)) (fun r8 => (if r8 = l1 then
(zb (f_X10_ofMessage σ l0 l3 (4 : Int32)) (fun r10 => (if r10 = (-1 : Int32) then
(f_X10_queueOf_40 σ l0 l1 l3 (1 : Int32) l2)
else
(f_X10_queueOf_39 σ l0 l1 l3 l2))))
else
(f_X10_queueOf_39 σ l0 l1 l3 l2))))) else none) else none))) else none)
set_option maxRecDepth 100000 in
def f_X10_queueOf_4 (σ : zSt) (l0 : Nat) (l1 : Int32) (l2 : Int32) (l3 : Int32) : Option (Int32) := zloop (fun (t : Int32 × Int32) => b_X10_queueOf_4 σ l0 l1 t.1 t.2) zN (l2, l3)
set_option maxRecDepth 100000 in
def f_X10_queueOf (σ : zSt) (l0 : Nat) (l1 : Int32) : Option (Int32) :=
(f_X10_queueOf_4 σ l0 l1 (0 : Int32) (0 : Int32))
set_option maxRecDepth 100000 in
def f_X10_stationOf_30 (σ : zSt) (s0 : Int32) : Option (Int32) :=
(some s0)
set_option maxRecDepth 100000 in
def f_X10_stationOf_27 (σ : zSt) (s0 : Int32) (s1 : Int32) (s2 : Option Nat) : Option (Int32) :=
(zc s2 none (fun a1 => (if z_ob σ a1 9 then (zb (f_X10_of σ a1 s1 s0) (fun r5 => (f_X10_stationOf_30 σ r5))) else none)))
set_option maxRecDepth 100000 in
def f_X10_stationOf (σ : zSt) (l0 : Nat) (l1 : Int32) (l2 : Int32) : Option (Int32) :=
(if l2 = (4 : Int32) then
(if z_ob σ l0 9 then (zb (f_X10_queueOf σ l0 l1) (fun r3 => (f_X10_stationOf_30 σ r3))) else none)
else
(if (4 : Int32) ≤ l2 then
(f_X10_stationOf_27 σ l2 l1 (some l0))
else
(f_X10_stationOf_27 σ ((1 : Int32) + l2) l1 (some l0))))
set_option maxRecDepth 100000 in
def f_X10_station_32 (σ : zSt) (s0 : Int32) : Option (Int32 × zSt) :=
(some (s0, σ))
set_option maxRecDepth 100000 in
def f_X10_station (σ : zSt) (l0 : Nat) (l1 : Int32) (l2 : Int32) : Option (Int32 × zSt) :=
(if z_ob σ l0 9 then (zb (f_X10_isStation σ l0 l1) (fun r3 => (zb (f_X10_in σ l2.toInt64 (0 : Int64) (6 : Int64)) (fun r5 => (zb2 (f_X10_goes σ l0 r3 r5 (1 : Int32)) (fun r7 σ8 => (if r7 = 0 then
(f_X10_station_32 σ8 (0 : Int32))
else
(if z_ob σ8 l0 9 then (zb (f_X10_stationOf σ8 l0 l1 l2) (fun r11 => (f_X10_station_32 σ8 r11))) else none)))))))) else none)
set_option maxRecDepth 100000 in
def f_X10_addressAt_41 (σ : zSt) (l0 : Nat) (l2 : Int32) (l3 : Int32) : Option ((Int32 × Int32) ⊕ (Int32 × zSt)) :=
(if z_ob σ l0 9 then (zb (f_X10_of σ l0 l2 (0 : Int32)) (fun r3 => (zl (l3 - r3) (fun x4 => (some (.inl ((l2 + (1 : Int32)), x4))))))) else none)
set_option maxRecDepth 100000 in
def b_X10_addressAt_28 (σ : zSt) (l0 : Nat) (l2 : Int32) (l3 : Int32) : Option ((Int32 × Int32) ⊕ (Int32 × zSt)) :=
(if 0 < l3 then
(f_X10_addressAt_41 σ l0 l2 l3)
else
(if z_ob σ l0 9 then (zb (f_X10_of σ l0 l2 (0 : Int32)) (fun r3 => (if r3 = 0 then
(f_X10_addressAt_41 σ l0 l2 l3)
else
(zex (some (l2, σ)))))) else none))
set_option maxRecDepth 100000 in
def f_X10_addressAt_28 (σ : zSt) (l0 : Nat) (l2 : Int32) (l3 : Int32) : Option (Int32 × zSt) := zloop (fun (t : Int32 × Int32) => b_X10_addressAt_28 σ l0 t.1 t.2) zN (l2, l3)
set_option maxRecDepth 100000 in
def f_X10_addressAt (σ : zSt) (l0 : Nat) (l1 : Int32) : Option (Int32 × zSt) :=
(if z_ob σ l0 9 then (zb (f_X10_stations σ l0) (fun r3 => (zb (f_X10_in σ l1.toInt64 (0 : Int64) (r3.toInt64 - (1 : Int64))) (fun r5 => (zb2 (f_X10_goes σ l0 r5 (1 : Int32) (1 : Int32)) (fun r7 σ8 => (if r7 = 0 then
(some ((0 : Int32), σ8))
else
(f_X10_addressAt_28 σ8 l0 (0 : Int32) l1)))))))) else none)
set_option maxRecDepth 100000 in
def b_X10_queued_54 (σ : zSt) (l0 : Nat) (l1 : Int32) (l2 : Int32) (l4 : Int32) (l5 : Int32) : Option ((Int32 × Int32) ⊕ (Int32 × zSt)) :=
(if l2 ≤ l5 then
(zex (some (l4, σ)))
else
(if z_ob σ l0 9 then (zb (f_X10_nextOf σ l0 l1 l4) (fun r4 => (some (.inl (r4, (l5 + (1 : Int32))))))) else none))
set_option maxRecDepth 100000 in
def f_X10_queued_54 (σ : zSt) (l0 : Nat) (l1 : Int32) (l2 : Int32) (l4 : Int32) (l5 : Int32) : Option (Int32 × zSt) := zloop (fun (t : Int32 × Int32) => b_X10_queued_54 σ l0 l1 l2 t.1 t.2) zN (l4, l5)
set_option maxRecDepth 100000 in
def f_X10_queued_34 (σ : zSt) (l0 : Nat) (l1 : Int32) (l2 : Int32) (s0 : Int32) (s1 : Int32) (s2 : Option Nat) : Option (Int32 × zSt) :=
(zc s2 none (fun a1 => (if z_ob σ a1 9 then (zb2 (f_X10_goes σ a1 s1 s0 (1 : Int32)) (fun r5 σ6 => (if r5 = 0 then
(some ((0 : Int32), σ6))
else
(if z_ob σ6 l0 9 then (zb (f_X10_nextOf σ6 l0 l1 (-1 : Int32)) (fun r9 => (f_X10_queued_54 σ6 l0 l1 l2 r9 (0 : Int32)))) else none)))) else none)))
set_option maxRecDepth 100000 in
def f_X10_queued_33 (σ : zSt) (l0 : Nat) (l1 : Int32) (l2 : Int32) (s0 : Int32) (s1 : Option Nat) : Option (Int32 × zSt) :=
(f_X10_queued_34 σ l0 l1 l2 (0 : Int32) s0 s1)
set_option maxRecDepth 100000 in
def f_X10_queued (σ : zSt) (l0 : Nat) (l1 : Int32) (l2 : Int32) : Option (Int32 × zSt) :=
(if z_ob σ l0 9 then (zb (f_X10_isStation σ l0 l1) (fun r3 => (if r3 = 0 then
(f_X10_queued_33 σ l0 l1 l2 r3 (some l0))
else
(zb (f_X10_queueOf σ l0 l1) (fun r5 => (zb (f_X10_in σ l2.toInt64 (0 : Int64) (r5.toInt64 - (1 : Int64))) (fun r7 => (if r7 = 0 then
(f_X10_queued_33 σ l0 l1 l2 r3 (some l0))
else
(f_X10_queued_34 σ l0 l1 l2 (1 : Int32) r3 (some l0)))))))))) else none)
set_option maxRecDepth 100000 in
def f_X10_message_42 (σ : zSt) (s0 : Int32) : Option (Int32 × zSt) :=
(some (s0, σ))
set_option maxRecDepth 100000 in
def f_X10_message (σ : zSt) (l0 : Nat) (l1 : Int32) (l2 : Int32) : Option (Int32 × zSt) :=
(if z_ob σ l0 9 then (zc (z_R σ l0 0) none (fun q2 => (if z_ar σ q2 0 then (if z_ix (5 : Int32) (z_ln σ q2) then (zb (f_X10_in σ l1.toInt64 (0 : Int64) ((z_I σ q2 (5 : Int32).toNatClampNeg).toInt64 - (1 : Int64))) (fun r7 => (zb (f_X10_in σ l2.toInt64 (0 : Int64) (4 : Int64)) (fun r9 => (zb2 (f_X10_goes σ l0 r7 r9 (1 : Int32)) (fun r11 σ12 => (if r11 = 0 then
(f_X10_message_42 σ12 (0 : Int32))
else
(if z_ob σ12 l0 9 then (zb (f_X10_ofMessage σ12 l0 l1 l2) (fun r15 => (f_X10_message_42 σ12 r15))) else none)))))))) else none) else none))) else none)
set_option maxRecDepth 100000 in
def f_X10_count_31 (σ : zSt) (s0 : Int32) : Option (Int32 × zSt) :=
(some (s0, σ))
set_option maxRecDepth 100000 in
def f_X10_count (σ : zSt) (l0 : Nat) (l1 : Int32) : Option (Int32 × zSt) :=
(zb (f_X10_in σ l1.toInt64 (0 : Int64) (6 : Int64)) (fun r2 => (if z_ob σ l0 9 then (zb2 (f_X10_goes σ l0 r2 (1 : Int32) (1 : Int32)) (fun r5 σ6 => (if r5 = 0 then
(f_X10_count_31 σ6 (0 : Int32))
else
(if z_ob σ6 l0 9 then (zc (z_R σ6 l0 0) none (fun q8 => (if z_ar σ6 q8 0 then (if z_ix ((9 : Int32) + l1) (z_ln σ6 q8) then (f_X10_count_31 σ6 (z_I σ6 q8 ((9 : Int32) + l1).toNatClampNeg)) else none) else none))) else none)))) else none)))
set_option maxRecDepth 100000 in
def f_X10_isNoisy_32 (σ : zSt) (s0 : Int32) : Option (Int32 × zSt) :=
(if z_bl s0 then (some (s0, σ)) else none)
set_option maxRecDepth 100000 in
def f_X10_isNoisy_31 (σ : zSt) : Option (Int32 × zSt) :=
(f_X10_isNoisy_32 σ (0 : Int32))
set_option maxRecDepth 100000 in
def f_X10_isNoisy (σ : zSt) (l0 : Nat) (l1 : Int32) : Option (Int32 × zSt) :=
(zb (f_X10_in σ l1.toInt64 (0 : Int64) (1000000 : Int64)) (fun r2 => (if z_ob σ l0 9 then (zb2 (f_X10_goes σ l0 r2 (1 : Int32) (1 : Int32)) (fun r5 σ6 => (if r5 = 0 then
(f_X10_isNoisy_31 σ6)
else
(if z_ob σ6 l0 9 then (zb (f_X10_isLoud σ6 l0 l1 l1) (fun r9 => (if r9 = 0 then
(f_X10_isNoisy_31 σ6)
else
(f_X10_isNoisy_32 σ6 (1 : Int32))))) else none)))) else none)))
set_option maxRecDepth 100000 in
def f_X10_logged (σ : zSt) (l0 : Nat) : Option (Int32 × zSt) :=
(if z_ob σ l0 9 then (zl (z_pI σ l0 4 (0 : Int32)) (fun σ2 => (if z_ob σ2 l0 9 then (zc (z_R σ2 l0 0) none (fun q5 => (if z_ar σ2 q5 0 then (if z_ix (7 : Int32) (z_ln σ2 q5) then (some ((z_I σ2 q5 (7 : Int32).toNatClampNeg), σ2)) else none) else none))) else none))) else none)
set_option maxRecDepth 100000 in
def f_X10_visit_51 (σ : zSt) (s0 : Int32) : Option (Int32 × zSt) :=
(some (s0, σ))
set_option maxRecDepth 100000 in
def f_X10_visit (σ : zSt) (l0 : Nat) (l1 : Int32) (l2 : Int32) : Option (Int32 × zSt) :=
(if z_ob σ l0 9 then (zc (z_R σ l0 0) none (fun q2 => (if z_ar σ q2 0 then (if z_ix (7 : Int32) (z_ln σ q2) then (zb (f_X10_in σ l1.toInt64 (0 : Int64) ((z_I σ q2 (7 : Int32).toNatClampNeg).toInt64 - (1 : Int64))) (fun r7 => (zb (f_X10_in σ l2.toInt64 (0 : Int64) (3 : Int64)) (fun r9 => (zb2 (f_X10_goes σ l0 r7 r9 (1 : Int32)) (fun r11 σ12 => (if r11 = 0 then
(f_X10_visit_51 σ12 (0 : Int32))
else
(if z_ob σ12 l0 9 then (zc (z_R σ12 l0 0) none (fun q14 => (if z_ar σ12 q14 0 then (if z_ix (((782 : Int32) + ((4 : Int32) * l1)) + l2) (z_ln σ12 q14) then (f_X10_visit_51 σ12 (z_I σ12 q14 (((782 : Int32) + ((4 : Int32) * l1)) + l2).toNatClampNeg)) else none) else none))) else none)))))))) else none) else none))) else none)
set_option maxRecDepth 100000 in
def f_X10_greatestRotation (σ : zSt) (l0 : Nat) : Option (Int32 × zSt) :=
(if z_ob σ l0 9 then (zl (z_pI σ l0 4 (0 : Int32)) (fun σ2 => (if z_ob σ2 l0 9 then (zc (z_R σ2 l0 0) none (fun q5 => (if z_ar σ2 q5 0 then (if z_ix (8 : Int32) (z_ln σ2 q5) then (some ((z_I σ2 q5 (8 : Int32).toNatClampNeg), σ2)) else none) else none))) else none))) else none)
set_option maxRecDepth 100000 in
def f_X10_waits_101 (σ : zSt) (s0 : UInt64) : Option (UInt64 × zSt) :=
(some (s0, σ))
set_option maxRecDepth 100000 in
def f_X10_waits_59 (σ : zSt) (l0 : Nat) (l1 : Int32) (l2 : Int32) (l5 : Int32) (s0 : Int64) (s1 : Int64) : Option ((Int32 × Int64 × Int32) ⊕ (UInt64 × zSt)) :=
(zl (s1 + s0) (fun x1 => (some (.inl (l2, x1, (l5 + (1 : Int32)))))))
set_option maxRecDepth 100000 in
def f_X10_waits_44 (σ : zSt) (l0 : Nat) (l1 : Int32) (l3 : Int64) (l5 : Int32) (l6 : Int32) (s0 : Int32) : Option ((Int32 × Int64 × Int32) ⊕ (UInt64 × zSt)) :=
(if l6 = (-1 : Int32) then
(f_X10_waits_59 σ l0 l1 s0 l5 (0 : Int64) l3)
else
(f_X10_waits_59 σ l0 l1 s0 l5 l6.toInt64 l3))
set_option maxRecDepth 100000 in
def b_X10_waits_12 (σ : zSt) (l0 : Nat) (l1 : Int32) (l2 : Int32) (l3 : Int64) (l5 : Int32) : Option ((Int32 × Int64 × Int32) ⊕ (UInt64 × zSt)) :=
(if z_ob σ l0 9 then (zc (z_R σ l0 0) none (fun q2 => (if z_ar σ q2 0 then (if z_ix (5 : Int32) (z_ln σ q2) then (if (z_I σ q2 (5 : Int32).toNatClampNeg) ≤ l5 then
(zex (if l1 = 0 then
(zc (z_R σ l0 0) none (fun q6 => (if z_ar σ q6 0 then (if z_ix (10 : Int32) (z_ln σ q6) then (if (z_I σ q6 (10 : Int32).toNatClampNeg) = 0 then
(f_X10_waits_101 σ FP.dconst0)
else
(zc (z_R σ l0 0) none (fun q10 => (if z_ar σ q10 0 then (if z_ix (10 : Int32) (z_ln σ q10) then (if vf_n64b (FP.ddiv (FP.l2d l3) (FP.i2d (z_I σ q10 (10 : Int32).toNatClampNeg))) then (f_X10_waits_101 σ (FP.ddiv (FP.l2d l3) (FP.i2d (z_I σ q10 (10 : Int32).toNatClampNeg)))) else none) else none) else none)))) else none) else none)))
else
(f_X10_waits_101 σ (FP.i2d l2))))
else
(zb (f_X10_ofMessage σ l0 l5 (4 : Int32)) (fun r17 => (if r17 ≤ l2 then
(f_X10_waits_44 σ l0 l1 l3 l5 r17 l2)
else
(f_X10_waits_44 σ l0 l1 l3 l5 r17 r17))))) else none) else none))) else none)
set_option maxRecDepth 100000 in
def f_X10_waits_12 (σ : zSt) (l0 : Nat) (l1 : Int32) (l2 : Int32) (l3 : Int64) (l5 : Int32) : Option (UInt64 × zSt) := zloop (fun (t : Int32 × Int64 × Int32) => b_X10_waits_12 σ l0 l1 t.1 t.2.1 t.2.2) zN (l2, l3, l5)
set_option maxRecDepth 100000 in
def f_X10_waits (σ : zSt) (l0 : Nat) (l1 : Int32) : Option (UInt64 × zSt) :=
(if z_ob σ l0 9 then (zl (z_pI σ l0 4 (0 : Int32)) (fun σ2 => (f_X10_waits_12 σ2 l0 l1 (0 : Int32) (0 : Int64) (0 : Int32)))) else none)
set_option maxRecDepth 100000 in
def f_X10_use_34 (σ : zSt) (s0 : UInt64) : Option (UInt64 × zSt) :=
(some (s0, σ))
set_option maxRecDepth 100000 in
def f_X10_use (σ : zSt) (l0 : Nat) : Option (UInt64 × zSt) :=
(if z_ob σ l0 9 then (zl (z_pI σ l0 4 (0 : Int32)) (fun σ2 => (if z_ob σ2 l0 9 then (zc (z_R σ2 l0 0) none (fun q5 => (if z_ar σ2 q5 0 then (if z_ix (3 : Int32) (z_ln σ2 q5) then (if (z_I σ2 q5 (3 : Int32).toNatClampNeg) = 0 then
(f_X10_use_34 σ2 FP.dconst0)
else
(zc (z_R σ2 l0 0) none (fun q9 => (if z_ar σ2 q9 0 then (if z_ix (15 : Int32) (z_ln σ2 q9) then (zc (z_R σ2 l0 0) none (fun q13 => (if z_ar σ2 q13 0 then (if z_ix (3 : Int32) (z_ln σ2 q13) then (if vf_n64b (FP.ddiv (FP.i2d (z_I σ2 q9 (15 : Int32).toNatClampNeg)) (FP.i2d (z_I σ2 q13 (3 : Int32).toNatClampNeg))) then (f_X10_use_34 σ2 (FP.ddiv (FP.i2d (z_I σ2 q9 (15 : Int32).toNatClampNeg)) (FP.i2d (z_I σ2 q13 (3 : Int32).toNatClampNeg)))) else none) else none) else none))) else none) else none)))) else none) else none))) else none))) else none)
set_option maxRecDepth 100000 in
def f_X10_waitOf_90 (σ : zSt) (l0 : Nat) (l1 : Int32) : Option (Int32 × zSt) :=
(if z_ob σ l0 9 then (zb (f_X10_ofMessage σ l0 l1 (4 : Int32)) (fun r3 => (zb (f_X10_takesBack σ l0) (fun σ5 => (some (r3, σ5)))))) else none)
set_option maxRecDepth 100000 in
def b_X10_waitOf_63 (l0 : Nat) (l1 : Int32) (σ : zSt) (l3 : Int32) : Option ((zSt × Int32) ⊕ (Int32 × zSt)) :=
(if (300 : Int32) ≤ l3 then
(zex (f_X10_waitOf_90 σ l0 l1))
else
(if z_ob σ l0 9 then (zb (f_X10_ofMessage σ l0 l1 (4 : Int32)) (fun r4 => (if r4 = (-1 : Int32) then
(zb (f_X10_visits σ l0) (fun σ7 => (some (.inl (σ7, (l3 + (1 : Int32)))))))
else
(zex (f_X10_waitOf_90 σ l0 l1))))) else none))
set_option maxRecDepth 100000 in
def f_X10_waitOf_63 (l0 : Nat) (l1 : Int32) (σ : zSt) (l3 : Int32) : Option (Int32 × zSt) := zloop (fun (t : zSt × Int32) => b_X10_waitOf_63 l0 l1 t.1 t.2) zN (σ, l3)
set_option maxRecDepth 100000 in
def f_X10_waitOf_48 (σ : zSt) (l0 : Nat) (l1 : Int32) (s0 : Int32) (s1 : Int32) (s2 : Option Nat) : Option (Int32 × zSt) :=
(zc s2 none (fun a1 => (if z_ob σ a1 9 then (zb2 (f_X10_goes σ a1 s1 s0 (1 : Int32)) (fun r5 σ6 => (if r5 = 0 then
(some ((0 : Int32), σ6))
else
(if z_ob σ6 l0 9 then (zb (f_X10_lays σ6 l0) (fun σ9 => (f_X10_waitOf_63 l0 l1 σ9 (0 : Int32)))) else none)))) else none)))
set_option maxRecDepth 100000 in
def f_X10_waitOf_47 (σ : zSt) (l0 : Nat) (l1 : Int32) (s0 : Int32) (s1 : Option Nat) : Option (Int32 × zSt) :=
(f_X10_waitOf_48 σ l0 l1 (0 : Int32) s0 s1)
set_option maxRecDepth 100000 in
def f_X10_waitOf (σ : zSt) (l0 : Nat) (l1 : Int32) : Option (Int32 × zSt) :=
(if z_ob σ l0 9 then (zc (z_R σ l0 0) none (fun q2 => (if z_ar σ q2 0 then (if z_ix (5 : Int32) (z_ln σ q2) then (zb (f_X10_in σ l1.toInt64 (0 : Int64) ((z_I σ q2 (5 : Int32).toNatClampNeg).toInt64 - (1 : Int64))) (fun r7 => (if r7 = 0 then
(f_X10_waitOf_47 σ l0 l1 r7 (some l0))
else
(zb (f_X10_ofMessage σ l0 l1 (4 : Int32)) (fun r9 => (if r9 = (-1 : Int32) then
(zc (z_R σ l0 0) none (fun q10 => (if z_ar σ q10 0 then (if z_ix (3 : Int32) (z_ln σ q10) then (if (900000 : Int32) < (z_I σ q10 (3 : Int32).toNatClampNeg) then
(f_X10_waitOf_47 σ l0 l1 r7 (some l0))
else
(f_X10_waitOf_48 σ l0 l1 (1 : Int32) r7 (some l0))) else none) else none)))
else
(f_X10_waitOf_47 σ l0 l1 r7 (some l0)))))))) else none) else none))) else none)
set_option maxRecDepth 100000 in
def f_X10_isComplete_47 (σ : zSt) (l0 : Nat) (l2 : Int32) (s0 : Int32) : Option ((Int32 × Int32) ⊕ (Int32)) :=
(some (.inl (s0, (l2 + (1 : Int32)))))
set_option maxRecDepth 100000 in
def f_X10_isComplete_46 (σ : zSt) (l0 : Nat) (l2 : Int32) : Option ((Int32 × Int32) ⊕ (Int32)) :=
(f_X10_isComplete_47 σ l0 l2 (0 : Int32))
set_option maxRecDepth 100000 in
def f_X10_isComplete_42 (σ : zSt) (l0 : Nat) (l2 : Int32) : Option ((Int32 × Int32) ⊕ (Int32)) :=
(f_X10_isComplete_47 σ l0 l2 (1 : Int32))
set_option maxRecDepth 100000 in
def b_X10_isComplete_4 (σ : zSt) (l0 : Nat) (l1 : Int32) (l2 : Int32) : Option ((Int32 × Int32) ⊕ (Int32)) :=
(if (32 : Int32) ≤ l2 then
(zex (if z_bl l1 then (some l1) else none))
else
(if l1 = 0 then
(f_X10_isComplete_46 σ l0 l2)
else
(if z_ob σ l0 9 then (zb (f_X10_of σ l0 l2 (0 : Int32)) (fun r5 => (if r5 = 0 then
(f_X10_isComplete_42 σ l0 l2)
else
(zb (f_X10_of σ l0 l2 (1 : Int32)) (fun r7 => (if r7 = 0 then
(f_X10_isComplete_42 σ l0 l2)
else
(zb (f_X10_of σ l0 l2 (2 : Int32)) (fun r9 => (if r9 = (1 : Int32) then
(f_X10_isComplete_42 σ l0 l2)
else
(f_X10_isComplete_46 σ l0 l2)))))))))) else none)))
set_option maxRecDepth 100000 in
def f_X10_isComplete_4 (σ : zSt) (l0 : Nat) (l1 : Int32) (l2 : Int32) : Option (Int32) := zloop (fun (t : Int32 × Int32) => b_X10_isComplete_4 σ l0 t.1 t.2) zN (l1, l2)
set_option maxRecDepth 100000 in
def f_X10_isComplete (σ : zSt) (l0 : Nat) : Option (Int32) :=
(f_X10_isComplete_4 σ l0 (1 : Int32) (0 : Int32))
set_option maxRecDepth 100000 in
def f_X10_completeAfter_69 (σ : zSt) (l0 : Nat) (s0 : Int32) : Option (Int32 × zSt) :=
(if z_ob σ l0 9 then (zb (f_X10_takesBack σ l0) (fun σ3 => (some (s0, σ3)))) else none)
set_option maxRecDepth 100000 in
def f_X10_completeAfter_57 (σ : zSt) (l0 : Nat) (l1 : Int32) : Option (Int32 × zSt) :=
(if z_ob σ l0 9 then (zb (f_X10_isComplete σ l0) (fun r3 => (if r3 = 0 then
(f_X10_completeAfter_69 σ l0 (-1 : Int32))
else
(f_X10_completeAfter_69 σ l0 l1)))) else none)
set_option maxRecDepth 100000 in
def b_X10_completeAfter_33 (l0 : Nat) (σ : zSt) (l1 : Int32) : Option ((zSt × Int32) ⊕ (Int32 × zSt)) :=
(if (300 : Int32) ≤ l1 then
(zex (f_X10_completeAfter_57 σ l0 l1))
else
(if z_ob σ l0 9 then (zb (f_X10_isComplete σ l0) (fun r4 => (if r4 = 0 then
(zb (f_X10_visits σ l0) (fun σ7 => (some (.inl (σ7, (l1 + (1 : Int32)))))))
else
(zex (f_X10_completeAfter_57 σ l0 l1))))) else none))
set_option maxRecDepth 100000 in
def f_X10_completeAfter_33 (l0 : Nat) (σ : zSt) (l1 : Int32) : Option (Int32 × zSt) := zloop (fun (t : zSt × Int32) => b_X10_completeAfter_33 l0 t.1 t.2) zN (σ, l1)
set_option maxRecDepth 100000 in
def f_X10_completeAfter_17 (σ : zSt) (l0 : Nat) (s0 : Int32) (s1 : Option Nat) : Option (Int32 × zSt) :=
(zc s1 none (fun a1 => (if z_ob σ a1 9 then (zb2 (f_X10_goes σ a1 s0 (1 : Int32) (1 : Int32)) (fun r5 σ6 => (if r5 = 0 then
(some ((0 : Int32), σ6))
else
(if z_ob σ6 l0 9 then (zb (f_X10_lays σ6 l0) (fun σ9 => (f_X10_completeAfter_33 l0 σ9 (0 : Int32)))) else none)))) else none)))
set_option maxRecDepth 100000 in
def f_X10_completeAfter (σ : zSt) (l0 : Nat) : Option (Int32 × zSt) :=
(if z_ob σ l0 9 then (zc (z_R σ l0 0) none (fun q2 => (if z_ar σ q2 0 then (if z_ix (3 : Int32) (z_ln σ q2) then (if (900000 : Int32) < (z_I σ q2 (3 : Int32).toNatClampNeg) then
(f_X10_completeAfter_17 σ l0 (0 : Int32) (some l0))
else
(f_X10_completeAfter_17 σ l0 (1 : Int32) (some l0))) else none) else none))) else none)
set_option maxRecDepth 100000 in
def f_X10_waiting_40 (σ : zSt) (l0 : Nat) (l2 : Int32) (s0 : Int32) (s1 : Int32) : Option ((Int32 × Int32) ⊕ (Int32)) :=
(zl (s1 + s0) (fun x1 => (some (.inl (x1, (l2 + (1 : Int32)))))))
set_option maxRecDepth 100000 in
def f_X10_waiting_39 (σ : zSt) (l0 : Nat) (l2 : Int32) (s0 : Int32) : Option ((Int32 × Int32) ⊕ (Int32)) :=
(f_X10_waiting_40 σ l0 l2 (0 : Int32) s0)
set_option maxRecDepth 100000 in
def b_X10_waiting_4 (σ : zSt) (l0 : Nat) (l1 : Int32) (l2 : Int32) : Option ((Int32 × Int32) ⊕ (Int32)) :=
(if (32 : Int32) ≤ l2 then
(zex (some l1))
else
(if z_ob σ l0 9 then (zb (f_X10_of σ l0 l2 (0 : Int32)) (fun r4 => (if r4 = (1 : Int32) then
(zb (f_X10_of σ l0 l2 (1 : Int32)) (fun r6 => (if r6 = (1 : Int32) then
(zb (f_X10_queueOf σ l0 l2) (fun r8 => (f_X10_waiting_40 σ l0 l2 r8 l1)))
else
(f_X10_waiting_39 σ l0 l2 l1))))
else
(f_X10_waiting_39 σ l0 l2 l1)))) else none))
set_option maxRecDepth 100000 in
def f_X10_waiting_4 (σ : zSt) (l0 : Nat) (l1 : Int32) (l2 : Int32) : Option (Int32) := zloop (fun (t : Int32 × Int32) => b_X10_waiting_4 σ l0 t.1 t.2) zN (l1, l2)
set_option maxRecDepth 100000 in
def f_X10_waiting (σ : zSt) (l0 : Nat) : Option (Int32) :=
(f_X10_waiting_4 σ l0 (0 : Int32) (0 : Int32))
set_option maxRecDepth 100000 in
def f_X10_leastTarget_80 (σ : zSt) (l0 : Nat) (l1 : Int32) (l2 : Int32) : Option ((zSt × Int32) ⊕ (Int32 × zSt)) :=
(if z_ob σ l0 9 then (zb (f_X10_waiting σ l0) (fun r3 => (zb (f_X10_takesBack σ l0) (fun σ5 => (if r3 = 0 then
(zex (some (l2, σ5)))
else
(some (.inl (σ5, (l2 + (20 : Int32)))))))))) else none)
set_option maxRecDepth 100000 in
def b_X10_leastTarget_58 (l0 : Nat) (l1 : Int32) (l2 : Int32) (σ : zSt) (l3 : Int32) : Option ((zSt × Int32) ⊕ ((zSt × Int32) ⊕ (Int32 × zSt))) :=
(if l1 ≤ l3 then
(zex (f_X10_leastTarget_80 σ l0 l1 l2))
else
(if z_ob σ l0 9 then (zb (f_X10_waiting σ l0) (fun r4 => (if r4 ≤ 0 then
(zex (f_X10_leastTarget_80 σ l0 l1 l2))
else
(zb (f_X10_visits σ l0) (fun σ7 => (some (.inl (σ7, (l3 + (1 : Int32)))))))))) else none))
set_option maxRecDepth 100000 in
def f_X10_leastTarget_58 (l0 : Nat) (l1 : Int32) (l2 : Int32) (σ : zSt) (l3 : Int32) : Option ((zSt × Int32) ⊕ (Int32 × zSt)) := zloop (fun (t : zSt × Int32) => b_X10_leastTarget_58 l0 l1 l2 t.1 t.2) zN (σ, l3)
set_option maxRecDepth 100000 in
def b_X10_leastTarget_42 (l0 : Nat) (l1 : Int32) (σ : zSt) (l2 : Int32) : Option ((zSt × Int32) ⊕ (Int32 × zSt)) :=
(if (400 : Int32) < l2 then
(zex (some ((-1 : Int32), σ)))
else
(if z_ob σ l0 9 then (zc (z_R σ l0 0) none (fun q3 => (if z_ar σ q3 0 then (if z_ix (0 : Int32) (z_ln σ q3) then (zl (z_pI σ q3 (0 : Int32).toNatClampNeg l2) (fun σ7 => (f_X10_leastTarget_58 l0 l1 l2 σ7 (0 : Int32)))) else none) else none))) else none))
set_option maxRecDepth 100000 in
def f_X10_leastTarget_42 (l0 : Nat) (l1 : Int32) (σ : zSt) (l2 : Int32) : Option (Int32 × zSt) := zloop (fun (t : zSt × Int32) => b_X10_leastTarget_42 l0 l1 t.1 t.2) zN (σ, l2)
set_option maxRecDepth 100000 in
def f_X10_leastTarget_26 (σ : zSt) (l0 : Nat) (l1 : Int32) (s0 : Int32) (s1 : Int32) (s2 : Option Nat) : Option (Int32 × zSt) :=
(zc s2 none (fun a1 => (if z_ob σ a1 9 then (zb2 (f_X10_goes σ a1 s1 s0 (1 : Int32)) (fun r5 σ6 => (if r5 = 0 then
(some ((0 : Int32), σ6))
else
(if z_ob σ6 l0 9 then (zb (f_X10_lays σ6 l0) (fun σ9 => (f_X10_leastTarget_42 l0 l1 σ9 (20 : Int32)))) else none)))) else none)))
set_option maxRecDepth 100000 in
def f_X10_leastTarget (σ : zSt) (l0 : Nat) (l1 : Int32) : Option (Int32 × zSt) :=
(zb (f_X10_in σ l1.toInt64 (0 : Int64) (100 : Int64)) (fun r2 => (if z_ob σ l0 9 then (zc (z_R σ l0 0) none (fun q4 => (if z_ar σ q4 0 then (if z_ix (3 : Int32) (z_ln σ q4) then (if (900000 : Int32) < (z_I σ q4 (3 : Int32).toNatClampNeg) then
(f_X10_leastTarget_26 σ l0 l1 (0 : Int32) r2 (some l0))
else
(f_X10_leastTarget_26 σ l0 l1 (1 : Int32) r2 (some l0))) else none) else none))) else none)))
set_option maxRecDepth 100000 in
def f_X10_append_24 (σ : zSt) (l0 : Nat) (l1 : Int32) (s0 : Int32) (s1 : Int32) (s2 : Option Nat) : Option (Int32 × zSt) :=
(zc s2 none (fun a1 => (if z_ob σ a1 9 then (zb2 (f_X10_goes σ a1 s1 s0 (1 : Int32)) (fun r5 σ6 => (if r5 = 0 then
(some ((0 : Int32), σ6))
else
(if z_ob σ6 l0 9 then (zc (z_R σ6 l0 5) none (fun q8 => (if z_ar σ6 q8 0 then (if z_ix (z_I σ6 l0 6) (z_ln σ6 q8) then (zl (z_pI σ6 q8 (z_I σ6 l0 6).toNatClampNeg l1) (fun σ12 => (if z_ob σ12 l0 9 then (zl (z_pI σ12 l0 6 ((z_I σ12 l0 6) + (1 : Int32))) (fun σ15 => (if z_ob σ15 l0 9 then (some ((z_I σ15 l0 6), σ15)) else none))) else none))) else none) else none))) else none)))) else none)))
set_option maxRecDepth 100000 in
def f_X10_append (σ : zSt) (l0 : Nat) (l1 : Int32) : Option (Int32 × zSt) :=
(zb (f_X10_in σ l1.toInt64 (0 : Int64) (127 : Int64)) (fun r2 => (if z_ob σ l0 9 then (if (120 : Int32) ≤ (z_I σ l0 6) then
(f_X10_append_24 σ l0 l1 (0 : Int32) r2 (some l0))
else
(f_X10_append_24 σ l0 l1 (1 : Int32) r2 (some l0))) else none)))
set_option maxRecDepth 100000 in
def f_X10_clearText (σ : zSt) (l0 : Nat) : Option (Int32 × zSt) :=
(if z_ob σ l0 9 then (zl (z_pI σ l0 4 (0 : Int32)) (fun σ2 => (if z_ob σ2 l0 9 then (zl (z_I σ2 l0 6) (fun x5 => (zl (z_pI σ2 l0 6 (0 : Int32)) (fun σ7 => (some (x5, σ7)))))) else none))) else none)
set_option maxRecDepth 100000 in
def f_X10_isFigure_38 (σ : zSt) (s0 : Int32) : Option (Int32) :=
(if z_bl s0 then (some s0) else none)
set_option maxRecDepth 100000 in
def f_X10_isFigure_37 (σ : zSt) : Option (Int32) :=
(f_X10_isFigure_38 σ (0 : Int32))
set_option maxRecDepth 100000 in
def f_X10_isFigure (σ : zSt) (l0 : Nat) : Option (Int32) :=
(if z_ob σ l0 9 then (if (z_I σ l0 6) ≤ (z_I σ l0 7) then
(f_X10_isFigure_37 σ)
else
(zc (z_R σ l0 5) none (fun q2 => (if z_ar σ q2 0 then (if z_ix (z_I σ l0 7) (z_ln σ q2) then (zb (f_X10_in σ ((z_I σ q2 (z_I σ l0 7).toNatClampNeg).toInt64) (48 : Int64) (57 : Int64)) (fun r7 => (if r7 = 0 then
(f_X10_isFigure_37 σ)
else
(f_X10_isFigure_38 σ (1 : Int32))))) else none) else none)))) else none)
set_option maxRecDepth 100000 in
def f_X10_passesByte_44 (σ : zSt) (l2 : Int32) (s0 : Int32) (s1 : Int32) (s2 : Option Nat) : Option (Int32 × zSt) :=
(zc s2 none (fun a1 => (if z_ob σ a1 9 then (zl (z_pI σ a1 7 (s1 + s0)) (fun σ4 => (if z_bl l2 then (some (l2, σ4)) else none))) else none)))
set_option maxRecDepth 100000 in
def f_X10_passesByte_29 (σ : zSt) (l0 : Nat) (s0 : Int32) : Option (Int32 × zSt) :=
(if z_ob σ l0 9 then (if s0 = 0 then
(f_X10_passesByte_44 σ s0 (0 : Int32) (z_I σ l0 7) (some l0))
else
(f_X10_passesByte_44 σ s0 (1 : Int32) (z_I σ l0 7) (some l0))) else none)
set_option maxRecDepth 100000 in
def f_X10_passesByte_28 (σ : zSt) (l0 : Nat) : Option (Int32 × zSt) :=
(f_X10_passesByte_29 σ l0 (0 : Int32))
set_option maxRecDepth 100000 in
def f_X10_passesByte (σ : zSt) (l0 : Nat) (l1 : Int32) : Option (Int32 × zSt) :=
(if z_ob σ l0 9 then (if (z_I σ l0 6) ≤ (z_I σ l0 7) then
(f_X10_passesByte_28 σ l0)
else
(zc (z_R σ l0 5) none (fun q2 => (if z_ar σ q2 0 then (if z_ix (z_I σ l0 7) (z_ln σ q2) then (if (z_I σ q2 (z_I σ l0 7).toNatClampNeg) = l1 then
(f_X10_passesByte_29 σ l0 (1 : Int32))
else
(f_X10_passesByte_28 σ l0)) else none) else none)))) else none)
set_option maxRecDepth 100000 in
def f_X10_readsNumber_84 (σ : zSt) (s0 : Int32) : Option (Int32 × zSt) :=
(if z_bl s0 then (some (s0, σ)) else none)
set_option maxRecDepth 100000 in
def f_X10_readsNumber_83 (σ : zSt) : Option (Int32 × zSt) :=
(f_X10_readsNumber_84 σ (0 : Int32))
set_option maxRecDepth 100000 in
def f_X10_readsNumber_64 (σ : zSt) (l0 : Nat) (l1 : Int32) : Option (Int32 × zSt) :=
(if z_ob σ l0 9 then (if (z_I σ l0 7) ≤ l1 then
(f_X10_readsNumber_83 σ)
else
(zb (f_X10_isFigure σ l0) (fun r3 => (if r3 = 0 then
(f_X10_readsNumber_84 σ (1 : Int32))
else
(f_X10_readsNumber_83 σ))))) else none)
set_option maxRecDepth 100000 in
def b_X10_readsNumber_10 (l0 : Nat) (l1 : Int32) (σ : zSt) : Option ((zSt) ⊕ (Int32 × zSt)) :=
(if z_ob σ l0 9 then (zb (f_X10_isFigure σ l0) (fun r3 => (if r3 = 0 then
(zex (f_X10_readsNumber_64 σ l0 l1))
else
(if (l1 + (2 : Int32)) ≤ (z_I σ l0 7) then
(zex (f_X10_readsNumber_64 σ l0 l1))
else
(zc (z_R σ l0 5) none (fun q6 => (if z_ar σ q6 0 then (if z_ix (z_I σ l0 7) (z_ln σ q6) then (zl (z_pI σ l0 8 ((((10 : Int32) * (z_I σ l0 8)) + (z_I σ q6 (z_I σ l0 7).toNatClampNeg)) - (48 : Int32))) (fun σ10 => (if z_ob σ10 l0 9 then (zl (z_pI σ10 l0 7 ((z_I σ10 l0 7) + (1 : Int32))) (fun σ13 => (some (.inl σ13)))) else none))) else none) else none))))))) else none)
set_option maxRecDepth 100000 in
def f_X10_readsNumber_10 (l0 : Nat) (l1 : Int32) (σ : zSt) : Option (Int32 × zSt) := zloop (fun (t : zSt) => b_X10_readsNumber_10 l0 l1 t) zN σ
set_option maxRecDepth 100000 in
def f_X10_readsNumber (σ : zSt) (l0 : Nat) : Option (Int32 × zSt) :=
(if z_ob σ l0 9 then (zl (z_I σ l0 7) (fun x2 => (zl (z_pI σ l0 8 (0 : Int32)) (fun σ4 => (f_X10_readsNumber_10 l0 x2 σ4))))) else none)
set_option maxRecDepth 100000 in
def f_X10_readsItem_108 (σ : zSt) : Option (Int32 × zSt) :=
(some ((0 : Int32), σ))
set_option maxRecDepth 100000 in
def f_X10_readsItem_153 (σ : zSt) : Option (Int32 × zSt) :=
(some ((0 : Int32), σ))
set_option maxRecDepth 100000 in
def f_X10_readsItem_84 (σ : zSt) (l0 : Nat) (l1 : Int32) : Option (Int32 × zSt) :=
(if z_ob σ l0 9 then (if (z_I σ l0 9) = (-1 : Int32) then
(f_X10_readsItem_108 σ)
else
(zb2 (f_X10_passesByte σ l0 (109 : Int32)) (fun r3 σ4 => (if r3 = 0 then
(f_X10_readsItem_108 σ4)
else
(if z_ob σ4 l0 9 then (zb2 (f_X10_readsNumber σ4 l0) (fun r7 σ8 => (if r7 = 0 then
(f_X10_readsItem_108 σ8)
else
(if z_ob σ8 l0 9 then (zb (f_X10_in σ8 ((z_I σ8 l0 8).toInt64) (1 : Int64) (20 : Int64)) (fun r11 => (if r11 = 0 then
(zl (z_pI σ8 l0 7 l1) (fun σ35 => (some ((0 : Int32), σ35))))
else
(zl (z_I σ8 l0 8) (fun x12 => (zb2 (f_X10_passesByte σ8 l0 (44 : Int32)) (fun r15 σ16 => (if r15 = 0 then
(f_X10_readsItem_153 σ16)
else
(if z_ob σ16 l0 9 then (zb (f_X10_isFigure σ16 l0) (fun r19 => (if r19 = 0 then
(f_X10_readsItem_153 σ16)
else
(zc (z_R σ16 l0 5) none (fun q20 => (if z_ar σ16 q20 0 then (if z_ix (z_I σ16 l0 7) (z_ln σ16 q20) then (zb2 (f_X10_gives σ16 l0 (z_I σ16 l0 9) x12 ((z_I σ16 q20 (z_I σ16 l0 7).toNatClampNeg) - (48 : Int32))) (fun r25 σ26 => (if z_ob σ26 l0 9 then (zl (z_pI σ26 l0 7 ((z_I σ26 l0 7) + (1 : Int32))) (fun σ28 => (if z_ob σ28 l0 9 then (zb2 (f_X10_passesByte σ28 l0 (59 : Int32)) (fun r32 σ33 => (if z_bl r32 then (some (r32, σ33)) else none))) else none))) else none))) else none) else none)))))) else none))))))))) else none)))) else none))))) else none)
set_option maxRecDepth 100000 in
def f_X10_readsItem_54 (σ : zSt) (l0 : Nat) (l1 : Int32) : Option (Int32 × zSt) :=
(if z_ob σ l0 9 then (zl (z_pI σ l0 7 l1) (fun σ2 => (some ((0 : Int32), σ2)))) else none)
set_option maxRecDepth 100000 in
def f_X10_readsItem (σ : zSt) (l0 : Nat) : Option (Int32 × zSt) :=
(if z_ob σ l0 9 then (zl ((z_I σ l0 7) + (1 : Int32)) (fun x2 => (zb (f_X10_stations σ l0) (fun r5 => (if (8 : Int32) ≤ r5 then
(f_X10_readsItem_84 σ l0 x2)
else
(zb2 (f_X10_passesByte σ l0 (115 : Int32)) (fun r7 σ8 => (if r7 = 0 then
(f_X10_readsItem_84 σ8 l0 x2)
else
(if z_ob σ8 l0 9 then (zb2 (f_X10_readsNumber σ8 l0) (fun r11 σ12 => (if r11 = 0 then
(some ((0 : Int32), σ12))
else
(if z_ob σ12 l0 9 then (if (32 : Int32) ≤ (z_I σ12 l0 8) then
(f_X10_readsItem_54 σ12 l0 x2)
else
(zb (f_X10_isStation σ12 l0 (z_I σ12 l0 8)) (fun r15 => (if r15 = 0 then
(zl (z_pI σ12 l0 9 (z_I σ12 l0 8)) (fun σ16 => (if z_ob σ16 l0 9 then (zb (f_X10_adds σ16 l0 (z_I σ16 l0 8)) (fun σ20 => (if z_ob σ20 l0 9 then (zb2 (f_X10_passesByte σ20 l0 (59 : Int32)) (fun r23 σ24 => (if z_bl r23 then (some (r23, σ24)) else none))) else none))) else none)))
else
(f_X10_readsItem_54 σ12 l0 x2))))) else none)))) else none))))))))) else none)
set_option maxRecDepth 100000 in
def b_X10_parse_88 (l0 : Nat) (l1 : Int32) (σ : zSt) (l2 : Int32) : Option ((zSt × Int32) ⊕ (Int32 × zSt)) :=
(if (942 : Int32) ≤ l2 then
(zex (if z_ob σ l0 9 then (zb (f_X10_save σ l0) (fun σ3 => (if z_ob σ3 l0 9 then (zb (f_X10_takesBack σ3 l0) (fun σ6 => (some (l1, σ6)))) else none))) else none))
else
(if z_ob σ l0 9 then (zc (z_R σ l0 0) none (fun q9 => (if z_ar σ q9 0 then (if z_ix l2 (z_ln σ q9) then (zl (z_I σ q9 l2.toNatClampNeg) (fun x13 => (zc (z_R σ l0 0) none (fun q15 => (zc (z_R σ l0 2) none (fun q17 => (if z_ar σ q17 0 then (if z_ix l2 (z_ln σ q17) then (if z_ar σ q15 0 then (if z_ix l2 (z_ln σ q15) then (zl (z_pI σ q15 l2.toNatClampNeg (z_I σ q17 l2.toNatClampNeg)) (fun σ23 => (if z_ob σ23 l0 9 then (zc (z_R σ23 l0 2) none (fun q26 => (if z_ar σ23 q26 0 then (if z_ix l2 (z_ln σ23 q26) then (zl (z_pI σ23 q26 l2.toNatClampNeg x13) (fun σ30 => (some (.inl (σ30, (l2 + (1 : Int32))))))) else none) else none))) else none))) else none) else none) else none) else none))))))) else none) else none))) else none))
set_option maxRecDepth 100000 in
def f_X10_parse_88 (l0 : Nat) (l1 : Int32) (σ : zSt) (l2 : Int32) : Option (Int32 × zSt) := zloop (fun (t : zSt × Int32) => b_X10_parse_88 l0 l1 t.1 t.2) zN (σ, l2)
set_option maxRecDepth 100000 in
def b_X10_parse_50 (l0 : Nat) (σ : zSt) (l1 : Int32) : Option ((zSt × Int32) ⊕ (Int32 × zSt)) :=
(if z_ob σ l0 9 then (if (z_I σ l0 6) ≤ (z_I σ l0 7) then
(zex (f_X10_parse_88 l0 l1 σ (0 : Int32)))
else
(zb2 (f_X10_readsItem σ l0) (fun r4 σ5 => (if r4 = 0 then
(zex (if z_ob σ5 l0 9 then (zb (f_X10_takesBack σ5 l0) (fun σ8 => (if z_ob σ8 l0 9 then (some (((-10 : Int32) - (z_I σ8 l0 7)), σ8)) else none))) else none))
else
(some (.inl (σ5, (l1 + (1 : Int32))))))))) else none)
set_option maxRecDepth 100000 in
def f_X10_parse_50 (l0 : Nat) (σ : zSt) (l1 : Int32) : Option (Int32 × zSt) := zloop (fun (t : zSt × Int32) => b_X10_parse_50 l0 t.1 t.2) zN (σ, l1)
set_option maxRecDepth 100000 in
def b_X10_parse_11 (l0 : Nat) (σ : zSt) (l1 : Int32) : Option ((zSt × Int32) ⊕ (Int32 × zSt)) :=
(if (942 : Int32) ≤ l1 then
(zex (if z_ob σ l0 9 then (zc (z_R σ l0 0) none (fun q2 => (if z_ar σ q2 0 then (if z_ix (4 : Int32) (z_ln σ q2) then (zl (z_pI σ q2 (4 : Int32).toNatClampNeg (-1 : Int32)) (fun σ6 => (if z_ob σ6 l0 9 then (zl (z_pI σ6 l0 9 (-1 : Int32)) (fun σ9 => (if z_ob σ9 l0 9 then (zl (z_pI σ9 l0 7 (0 : Int32)) (fun σ12 => (f_X10_parse_50 l0 σ12 (0 : Int32)))) else none))) else none))) else none) else none))) else none))
else
(if z_ob σ l0 9 then (zc (z_R σ l0 0) none (fun q16 => (if z_ar σ q16 0 then (if z_ix l1 (z_ln σ q16) then (zl (z_pI σ q16 l1.toNatClampNeg (0 : Int32)) (fun σ20 => (some (.inl (σ20, (l1 + (1 : Int32))))))) else none) else none))) else none))
set_option maxRecDepth 100000 in
def f_X10_parse_11 (l0 : Nat) (σ : zSt) (l1 : Int32) : Option (Int32 × zSt) := zloop (fun (t : zSt × Int32) => b_X10_parse_11 l0 t.1 t.2) zN (σ, l1)
set_option maxRecDepth 100000 in
def f_X10_parse (σ : zSt) (l0 : Nat) : Option (Int32 × zSt) :=
(if z_ob σ l0 9 then (zl (z_pI σ l0 4 (0 : Int32)) (fun σ2 => (if z_ob σ2 l0 9 then (zb (f_X10_lays σ2 l0) (fun σ6 => (f_X10_parse_11 l0 σ6 (3 : Int32)))) else none))) else none)
set_option maxRecDepth 100000 in
def b_X10_undo_35 (l0 : Nat) (σ : zSt) (l1 : Int32) : Option ((zSt × Int32) ⊕ (Int32 × zSt)) :=
(if (942 : Int32) ≤ l1 then
(zex (if z_ob σ l0 9 then (some ((z_I σ l0 3), σ)) else none))
else
(if z_ob σ l0 9 then (zc (z_R σ l0 0) none (fun q4 => (zc (z_R σ l0 1) none (fun q6 => (if z_ar σ q6 0 then (if z_ix (((942 : Int32) * (z_I σ l0 3)) + l1) (z_ln σ q6) then (if z_ar σ q4 0 then (if z_ix l1 (z_ln σ q4) then (zl (z_pI σ q4 l1.toNatClampNeg (z_I σ q6 (((942 : Int32) * (z_I σ l0 3)) + l1).toNatClampNeg)) (fun σ12 => (some (.inl (σ12, (l1 + (1 : Int32))))))) else none) else none) else none) else none))))) else none))
set_option maxRecDepth 100000 in
def f_X10_undo_35 (l0 : Nat) (σ : zSt) (l1 : Int32) : Option (Int32 × zSt) := zloop (fun (t : zSt × Int32) => b_X10_undo_35 l0 t.1 t.2) zN (σ, l1)
set_option maxRecDepth 100000 in
def f_X10_undo_13 (σ : zSt) (l0 : Nat) (s0 : Int32) (s1 : Option Nat) : Option (Int32 × zSt) :=
(zc s1 none (fun a1 => (if z_ob σ a1 9 then (zb2 (f_X10_goes σ a1 s0 (1 : Int32) (1 : Int32)) (fun r5 σ6 => (if r5 = 0 then
(some ((0 : Int32), σ6))
else
(if z_ob σ6 l0 9 then (zl (z_pI σ6 l0 3 ((z_I σ6 l0 3) - (1 : Int32))) (fun σ8 => (f_X10_undo_35 l0 σ8 (0 : Int32)))) else none)))) else none)))
set_option maxRecDepth 100000 in
def f_X10_undo (σ : zSt) (l0 : Nat) : Option (Int32 × zSt) :=
(if z_ob σ l0 9 then (if (z_I σ l0 3) ≤ 0 then
(f_X10_undo_13 σ l0 (0 : Int32) (some l0))
else
(f_X10_undo_13 σ l0 (1 : Int32) (some l0))) else none)
set_option maxRecDepth 100000 in
def f_X10_sums (σ : zSt) (l0 : Int64) (l2 : Int64) : Option (Int64) :=
(some (((31 : Int64) * l0) + l2))
set_option maxRecDepth 100000 in
def b_X10_withStation_47 (σ : zSt) (l0 : Nat) (l3 : Int32) (l4 : Int64) (l6 : Int32) : Option ((Int64 × Int32) ⊕ (Int64)) :=
(if l6 = (-1 : Int32) then
(zex (some l4))
else
(zb (f_X10_sums σ l4 l6.toInt64) (fun r3 => (if z_ob σ l0 9 then (zb (f_X10_nextOf σ l0 l3 l6) (fun r6 => (some (.inl (r3, r6))))) else none))))
set_option maxRecDepth 100000 in
def f_X10_withStation_47 (σ : zSt) (l0 : Nat) (l3 : Int32) (l4 : Int64) (l6 : Int32) : Option (Int64) := zloop (fun (t : Int64 × Int32) => b_X10_withStation_47 σ l0 l3 t.1 t.2) zN (l4, l6)
set_option maxRecDepth 100000 in
def b_X10_withStation_11 (σ : zSt) (l0 : Nat) (l3 : Int32) (l4 : Int64) (l6 : Int32) : Option ((Int64 × Int32) ⊕ (Int64)) :=
(if (7 : Int32) ≤ l6 then
(zex (if z_ob σ l0 9 then (zb (f_X10_nextOf σ l0 l3 (-1 : Int32)) (fun r3 => (f_X10_withStation_47 σ l0 l3 l4 r3))) else none))
else
(if z_ob σ l0 9 then (zb (f_X10_stationOf σ l0 l3 l6) (fun r7 => (zb (f_X10_sums σ l4 r7.toInt64) (fun r9 => (some (.inl (r9, (l6 + (1 : Int32))))))))) else none))
set_option maxRecDepth 100000 in
def f_X10_withStation_11 (σ : zSt) (l0 : Nat) (l3 : Int32) (l4 : Int64) (l6 : Int32) : Option (Int64) := zloop (fun (t : Int64 × Int32) => b_X10_withStation_11 σ l0 l3 t.1 t.2) zN (l4, l6)
set_option maxRecDepth 100000 in
def f_X10_withStation (σ : zSt) (l0 : Nat) (l1 : Int64) (l3 : Int32) : Option (Int64) :=
(zb (f_X10_sums σ l1 l3.toInt64) (fun r2 => (f_X10_withStation_11 σ l0 l3 r2 (0 : Int32))))
set_option maxRecDepth 100000 in
def b_X10_digest_168 (σ : zSt) (l0 : Nat) (l1 : Int64) (l3 : Int32) : Option ((Int64 × Int32) ⊕ (Int64 × zSt)) :=
(if z_ob σ l0 9 then (zc (z_R σ l0 0) none (fun q2 => (if z_ar σ q2 0 then (if z_ix (7 : Int32) (z_ln σ q2) then (if ((4 : Int32) * (z_I σ q2 (7 : Int32).toNatClampNeg)) ≤ l3 then
(zex (zb (f_X10_sums σ l1 ((z_I σ l0 3).toInt64)) (fun r7 => (some (r7, σ)))))
else
(zc (z_R σ l0 0) none (fun q9 => (if z_ar σ q9 0 then (if z_ix ((782 : Int32) + l3) (z_ln σ q9) then (zb (f_X10_sums σ l1 ((z_I σ q9 ((782 : Int32) + l3).toNatClampNeg).toInt64)) (fun r14 => (some (.inl (r14, (l3 + (1 : Int32))))))) else none) else none)))) else none) else none))) else none)
set_option maxRecDepth 100000 in
def f_X10_digest_168 (σ : zSt) (l0 : Nat) (l1 : Int64) (l3 : Int32) : Option (Int64 × zSt) := zloop (fun (t : Int64 × Int32) => b_X10_digest_168 σ l0 t.1 t.2) zN (l1, l3)
set_option maxRecDepth 100000 in
def b_X10_digest_115 (σ : zSt) (l0 : Nat) (l1 : Int64) (l3 : Int32) : Option ((Int64 × Int32) ⊕ (Int64 × zSt)) :=
(if (7 : Int32) ≤ l3 then
(zex (if z_ob σ l0 9 then (zc (z_R σ l0 0) none (fun q2 => (if z_ar σ q2 0 then (if z_ix (8 : Int32) (z_ln σ q2) then (zb (f_X10_sums σ l1 ((z_I σ q2 (8 : Int32).toNatClampNeg).toInt64)) (fun r7 => (zc (z_R σ l0 0) none (fun q8 => (if z_ar σ q8 0 then (if z_ix (7 : Int32) (z_ln σ q8) then (zb (f_X10_sums σ r7 ((z_I σ q8 (7 : Int32).toNatClampNeg).toInt64)) (fun r13 => (f_X10_digest_168 σ l0 r13 (0 : Int32)))) else none) else none))))) else none) else none))) else none))
else
(if z_ob σ l0 9 then (zc (z_R σ l0 0) none (fun q16 => (if z_ar σ q16 0 then (if z_ix ((9 : Int32) + l3) (z_ln σ q16) then (zb (f_X10_sums σ l1 ((z_I σ q16 ((9 : Int32) + l3).toNatClampNeg).toInt64)) (fun r21 => (some (.inl (r21, (l3 + (1 : Int32))))))) else none) else none))) else none))
set_option maxRecDepth 100000 in
def f_X10_digest_115 (σ : zSt) (l0 : Nat) (l1 : Int64) (l3 : Int32) : Option (Int64 × zSt) := zloop (fun (t : Int64 × Int32) => b_X10_digest_115 σ l0 t.1 t.2) zN (l1, l3)
set_option maxRecDepth 100000 in
def b_X10_digest_79 (σ : zSt) (l0 : Nat) (l1 : Int64) (l3 : Int32) : Option ((Int64 × Int32) ⊕ (Int64 × zSt)) :=
(if z_ob σ l0 9 then (zc (z_R σ l0 0) none (fun q2 => (if z_ar σ q2 0 then (if z_ix (5 : Int32) (z_ln σ q2) then (if ((5 : Int32) * (z_I σ q2 (5 : Int32).toNatClampNeg)) ≤ l3 then
(zex (f_X10_digest_115 σ l0 l1 (0 : Int32)))
else
(zc (z_R σ l0 0) none (fun q7 => (if z_ar σ q7 0 then (if z_ix ((242 : Int32) + l3) (z_ln σ q7) then (zb (f_X10_sums σ l1 ((z_I σ q7 ((242 : Int32) + l3).toNatClampNeg).toInt64)) (fun r12 => (some (.inl (r12, (l3 + (1 : Int32))))))) else none) else none)))) else none) else none))) else none)
set_option maxRecDepth 100000 in
def f_X10_digest_79 (σ : zSt) (l0 : Nat) (l1 : Int64) (l3 : Int32) : Option (Int64 × zSt) := zloop (fun (t : Int64 × Int32) => b_X10_digest_79 σ l0 t.1 t.2) zN (l1, l3)
set_option maxRecDepth 100000 in
def f_X10_digest_70 (σ : zSt) (l0 : Nat) (l3 : Int32) (s0 : Int64) : Option ((Int64 × Int32) ⊕ (Int64 × zSt)) :=
(some (.inl (s0, (l3 + (1 : Int32)))))
set_option maxRecDepth 100000 in
def b_X10_digest_44 (σ : zSt) (l0 : Nat) (l1 : Int64) (l3 : Int32) : Option ((Int64 × Int32) ⊕ (Int64 × zSt)) :=
(if (32 : Int32) ≤ l3 then
(zex (f_X10_digest_79 σ l0 l1 (0 : Int32)))
else
(if z_ob σ l0 9 then (zb (f_X10_of σ l0 l3 (0 : Int32)) (fun r4 => (if r4 = (1 : Int32) then
(zb (f_X10_withStation σ l0 l1 l3) (fun r6 => (f_X10_digest_70 σ l0 l3 r6)))
else
(f_X10_digest_70 σ l0 l3 l1)))) else none))
set_option maxRecDepth 100000 in
def f_X10_digest_44 (σ : zSt) (l0 : Nat) (l1 : Int64) (l3 : Int32) : Option (Int64 × zSt) := zloop (fun (t : Int64 × Int32) => b_X10_digest_44 σ l0 t.1 t.2) zN (l1, l3)
set_option maxRecDepth 100000 in
def b_X10_digest_19 (σ : zSt) (l0 : Nat) (l1 : Int64) (l3 : Int32) : Option ((Int64 × Int32) ⊕ (Int64 × zSt)) :=
(if (9 : Int32) ≤ l3 then
(zex (f_X10_digest_44 σ l0 l1 (0 : Int32)))
else
(if z_ob σ l0 9 then (zb (f_X10_settingOf σ l0 l3) (fun r4 => (zb (f_X10_sums σ l1 r4.toInt64) (fun r6 => (some (.inl (r6, (l3 + (1 : Int32))))))))) else none))
set_option maxRecDepth 100000 in
def f_X10_digest_19 (σ : zSt) (l0 : Nat) (l1 : Int64) (l3 : Int32) : Option (Int64 × zSt) := zloop (fun (t : Int64 × Int32) => b_X10_digest_19 σ l0 t.1 t.2) zN (l1, l3)
set_option maxRecDepth 100000 in
def f_X10_digest (σ : zSt) (l0 : Nat) : Option (Int64 × zSt) :=
(if z_ob σ l0 9 then (zl (z_pI σ l0 4 (0 : Int32)) (fun σ2 => (if z_ob σ2 l0 9 then (zb (f_X10_sums σ2 (3169 : Int64) ((z_I σ2 l0 6).toInt64)) (fun r6 => (f_X10_digest_19 σ2 l0 r6 (0 : Int32)))) else none))) else none)
set_option maxRecDepth 100000 in
def f_X9_addStation_38 (σ : zSt) : Option ((Nat ⊕ Int32) × zSt) :=
(some (.inl 1, z_gr σ))
set_option maxRecDepth 100000 in
def f_X9_addStation (σ : zSt) (l0 : Nat) (l1 : Int32) : Option ((Nat ⊕ Int32) × zSt) :=
(zb (f_X9_isAddress σ l1) (fun r2 => (if r2 = 0 then
(some (.inl 0, z_gr σ))
else
(if z_ob σ l0 8 then (zc (z_R σ l0 0) none (fun q4 => (if z_ob σ q4 2 then (zb (f_X2_stationWith σ q4 l1) (fun r8 => (zc r8
(zc (z_R σ l0 0) none (fun q10 => (if z_ob σ q10 2 then (zb (f_X2_isFull σ q10) (fun r14 => (if r14 = 0 then
(zc (z_R σ l0 2) none (fun q15 => (zc (z_R σ l0 0) none (fun q17 => (if z_ob σ q15 1 then (zb (f_X1_save σ q15 q17) (fun σ21 => (if z_ob σ21 l0 8 then (zc (z_R σ21 l0 0) none (fun q23 => (if z_ob σ21 q23 2 then (zb2 (f_X2_placeStation σ21 q23 l1) (fun r27 σ28 => (if z_ob σ28 l0 8 then (zc (z_R σ28 l0 0) none (fun q30 => (if z_ob σ28 q30 2 then (some (.inr (z_I σ28 q30 5), σ28)) else none))) else none))) else none))) else none))) else none)))))
else
(f_X9_addStation_38 σ)))) else none)))
(fun a9 => (f_X9_addStation_38 σ))))) else none))) else none))))
set_option maxRecDepth 100000 in
def f_X9_setOn (σ : zSt) (l0 : Nat) (l1 : Int32) (l2 : Int32) : Option ((Nat ⊕ Int32) × zSt) :=
(if z_ob σ l0 8 then (zc (z_R σ l0 0) none (fun q2 => (if z_ob σ q2 2 then (zb (f_X2_stationWith σ q2 l1) (fun r6 => (zc r6
(some (.inl 3, z_gr σ))
(fun a7 => (if z_ob σ a7 6 then (zl (z_I σ a7 1) (fun x9 => (zc (z_R σ l0 2) none (fun q11 => (zc (z_R σ l0 0) none (fun q13 => (if z_ob σ q11 1 then (zb (f_X1_save σ q11 q13) (fun σ17 => (if z_ob σ17 l0 8 then (zc (z_R σ17 l0 0) none (fun q19 => (if z_ob σ17 q19 2 then (zb (f_X2_switchStation σ17 q19 a7 l2) (fun σ23 => (if z_bl x9 then (some (.inr x9, σ23)) else none))) else none))) else none))) else none))))))) else none))))) else none))) else none)
set_option maxRecDepth 100000 in
def f_X9_setTimes_31 (σ : zSt) : Option ((Nat ⊕ Int32) × zSt) :=
(some (.inl 0, z_gr σ))
set_option maxRecDepth 100000 in
def f_X9_setTimes (σ : zSt) (l0 : Nat) (l1 : Int32) (l2 : Int32) (l3 : Int32) : Option ((Nat ⊕ Int32) × zSt) :=
(zb (f_X9_isWithin σ l1 (1 : Int32) (500 : Int32)) (fun r2 => (if r2 = 0 then
(f_X9_setTimes_31 σ)
else
(zb (f_X9_isWithin σ l2 (1 : Int32) (20 : Int32)) (fun r4 => (if r4 = 0 then
(f_X9_setTimes_31 σ)
else
(zb (f_X9_isWithin σ l3 (1 : Int32) (20 : Int32)) (fun r6 => (if r6 = 0 then
(f_X9_setTimes_31 σ)
else
(if z_ob σ l0 8 then (zc (z_R σ l0 0) none (fun q8 => (if z_ob σ q8 2 then (zl (z_I σ q8 6) (fun x11 => (zc (z_R σ l0 2) none (fun q13 => (zc (z_R σ l0 0) none (fun q15 => (if z_ob σ q13 1 then (zb (f_X1_save σ q13 q15) (fun σ19 => (if z_ob σ19 l0 8 then (zc (z_R σ19 l0 0) none (fun q21 => (if z_ob σ19 q21 2 then (zl (z_pI σ19 q21 6 l1) (fun σ24 => (if z_ob σ24 l0 8 then (zc (z_R σ24 l0 0) none (fun q27 => (if z_ob σ24 q27 2 then (zl (z_pI σ24 q27 7 l2) (fun σ30 => (if z_ob σ30 l0 8 then (zc (z_R σ30 l0 0) none (fun q33 => (if z_ob σ30 q33 2 then (zl (z_pI σ30 q33 8 l3) (fun σ36 => (some (.inr x11, σ36)))) else none))) else none))) else none))) else none))) else none))) else none))) else none))))))) else none))) else none))))))))))
set_option maxRecDepth 100000 in
def f_X9_give_45 (σ : zSt) : Option ((Nat ⊕ Int32) × zSt) :=
(some (.inl 0, z_gr σ))
set_option maxRecDepth 100000 in
def f_X9_give (σ : zSt) (l0 : Nat) (l1 : Int32) (l2 : Int32) (l3 : Int32) : Option ((Nat ⊕ Int32) × zSt) :=
(if z_ob σ l0 8 then (zc (z_R σ l0 0) none (fun q2 => (if z_ob σ q2 2 then (zb (f_X2_stationWith σ q2 l1) (fun r6 => (zc r6
(some (.inl 3, z_gr σ))
(fun a7 => (zb (f_X9_isWithin σ l2 (1 : Int32) (20 : Int32)) (fun r9 => (if r9 = 0 then
(f_X9_give_45 σ)
else
(zb (f_X9_isWithin σ l3 (0 : Int32) (9 : Int32)) (fun r11 => (if r11 = 0 then
(f_X9_give_45 σ)
else
(zc (z_R σ l0 0) none (fun q12 => (if z_ob σ q12 2 then (zc (z_R σ q12 1) none (fun q15 => (if z_ob σ q15 3 then (zb (f_X3_isFull σ q15) (fun r19 => (if r19 = 0 then
(zc (z_R σ l0 2) none (fun q20 => (zc (z_R σ l0 0) none (fun q22 => (if z_ob σ q20 1 then (zb (f_X1_save σ q20 q22) (fun σ26 => (if z_ob σ26 l0 8 then (zc (z_R σ26 l0 0) none (fun q28 => (if z_ob σ26 q28 2 then (zc (z_R σ26 q28 1) none (fun q31 => (zc (z_R σ26 l0 0) none (fun q33 => (if z_ob σ26 q33 2 then (if z_ob σ26 q31 3 then (zb2 (f_X3_add σ26 q31 a7 l2 l3 (z_I σ26 q33 9)) (fun r38 σ39 => (some (.inr r38, σ39)))) else none) else none))))) else none))) else none))) else none)))))
else
(some (.inl 1, z_gr σ))))) else none))) else none))))))))))))) else none))) else none)
set_option maxRecDepth 100000 in
def f_X9_addNoise_19 (σ : zSt) : Option ((Nat ⊕ Int32) × zSt) :=
(some (.inl 0, z_gr σ))
set_option maxRecDepth 100000 in
def f_X9_addNoise (σ : zSt) (l0 : Nat) (l1 : Int32) (l2 : Int32) : Option ((Nat ⊕ Int32) × zSt) :=
(zb (f_X9_isWithin σ l2 (0 : Int32) (1000000 : Int32)) (fun r2 => (if r2 = 0 then
(f_X9_addNoise_19 σ)
else
(zb (f_X9_isWithin σ l1 (0 : Int32) l2) (fun r4 => (if r4 = 0 then
(f_X9_addNoise_19 σ)
else
(if z_ob σ l0 8 then (zc (z_R σ l0 0) none (fun q6 => (if z_ob σ q6 2 then (zc (z_R σ q6 2) none (fun q9 => (if z_ob σ q9 4 then (zb (f_X4_isFull σ q9) (fun r13 => (if r13 = 0 then
(zc (z_R σ l0 2) none (fun q14 => (zc (z_R σ l0 0) none (fun q16 => (if z_ob σ q14 1 then (zb (f_X1_save σ q14 q16) (fun σ20 => (if z_ob σ20 l0 8 then (zc (z_R σ20 l0 0) none (fun q22 => (if z_ob σ20 q22 2 then (zc (z_R σ20 q22 2) none (fun q25 => (if z_ob σ20 q25 4 then (zb (f_X4_add σ20 q25 l1 l2) (fun σ29 => (if z_ob σ29 l0 8 then (zc (z_R σ29 l0 0) none (fun q31 => (if z_ob σ29 q31 2 then (zc (z_R σ29 q31 2) none (fun q34 => (if z_ob σ29 q34 4 then (some (.inr (z_I σ29 q34 2), σ29)) else none))) else none))) else none))) else none))) else none))) else none))) else none)))))
else
(some (.inl 1, z_gr σ))))) else none))) else none))) else none)))))))
set_option maxRecDepth 100000 in
def b_X9_run_54 (l0 : Nat) (l1 : Int32) (σ : zSt) (l2 : Int32) : Option ((zSt × Int32) ⊕ ((Nat ⊕ Int32) × zSt)) :=
(if l1 ≤ l2 then
(zex (if z_ob σ l0 8 then (zc (z_R σ l0 0) none (fun q2 => (if z_ob σ q2 2 then (some (.inr (z_I σ q2 9), σ)) else none))) else none))
else
(if z_ob σ l0 8 then (zc (z_R σ l0 0) none (fun q7 => (zb (f_X8_makeVisit σ q7) (fun σ10 => (some (.inl (σ10, (l2 + (1 : Int32))))))))) else none))
set_option maxRecDepth 100000 in
def f_X9_run_54 (l0 : Nat) (l1 : Int32) (σ : zSt) (l2 : Int32) : Option ((Nat ⊕ Int32) × zSt) := zloop (fun (t : zSt × Int32) => b_X9_run_54 l0 l1 t.1 t.2) zN (σ, l2)
set_option maxRecDepth 100000 in
def f_X9_run (σ : zSt) (l0 : Nat) (l1 : Int32) : Option ((Nat ⊕ Int32) × zSt) :=
(zb (f_X9_isWithin σ l1 (0 : Int32) (200 : Int32)) (fun r2 => (if r2 = 0 then
(some (.inl 0, z_gr σ))
else
(if z_ob σ l0 8 then (zc (z_R σ l0 0) none (fun q4 => (if z_ob σ q4 2 then (zb (f_X2_isTooLate σ q4) (fun r8 => (if r8 = 0 then
(zc (z_R σ l0 2) none (fun q9 => (zc (z_R σ l0 0) none (fun q11 => (if z_ob σ q9 1 then (zb (f_X1_save σ q9 q11) (fun σ15 => (f_X9_run_54 l0 l1 σ15 (0 : Int32)))) else none)))))
else
(some (.inl 1, z_gr σ))))) else none))) else none))))
set_option maxRecDepth 100000 in
def f_X9_setting (σ : zSt) (l0 : Nat) (l1 : Int32) : Option ((Nat ⊕ Int32) × zSt) :=
(zb (f_X9_isWithin σ l1 (0 : Int32) (8 : Int32)) (fun r2 => (if r2 = 0 then
(some (.inl 0, z_gr σ))
else
(if z_ob σ l0 8 then (zc (z_R σ l0 0) none (fun q4 => (if z_ob σ q4 2 then (zb (f_X2_settingValue σ q4 l1) (fun r8 => (some (.inr r8, σ)))) else none))) else none))))
set_option maxRecDepth 100000 in
def f_X9_station (σ : zSt) (l0 : Nat) (l1 : Int32) (l2 : Int32) : Option ((Nat ⊕ Int32) × zSt) :=
(if z_ob σ l0 8 then (zc (z_R σ l0 0) none (fun q2 => (if z_ob σ q2 2 then (zb (f_X2_stationWith σ q2 l1) (fun r6 => (zc r6
(some (.inl 3, z_gr σ))
(fun a7 => (zb (f_X9_isWithin σ l2 (0 : Int32) (6 : Int32)) (fun r9 => (if r9 = 0 then
(some (.inl 0, z_gr σ))
else
(if z_ob σ a7 6 then (zb (f_X6_value σ a7 l2) (fun r12 => (some (.inr r12, σ)))) else none)))))))) else none))) else none)
set_option maxRecDepth 100000 in
def f_X9_addressAt (σ : zSt) (l0 : Nat) (l1 : Int32) : Option ((Nat ⊕ Int32) × zSt) :=
(if z_ob σ l0 8 then (zc (z_R σ l0 0) none (fun q2 => (if z_ob σ q2 2 then (zb (f_X2_stationIn σ q2 l1) (fun r6 => (zc r6
(some (.inl 2, z_gr σ))
(fun a7 => (if z_ob σ a7 6 then (some (.inr (z_I σ a7 0), σ)) else none))))) else none))) else none)
set_option maxRecDepth 100000 in
def f_X9_queued (σ : zSt) (l0 : Nat) (l1 : Int32) (l2 : Int32) : Option ((Nat ⊕ Int32) × zSt) :=
(if z_ob σ l0 8 then (zc (z_R σ l0 0) none (fun q2 => (if z_ob σ q2 2 then (zb (f_X2_stationWith σ q2 l1) (fun r6 => (zc r6
(some (.inl 3, z_gr σ))
(fun a7 => (if z_ob σ a7 6 then (zb (f_X9_isWithin σ l2 (0 : Int32) ((z_I σ a7 6) - (1 : Int32))) (fun r10 => (if r10 = 0 then
(some (.inl 2, z_gr σ))
else
(zc (z_R σ l0 0) none (fun q11 => (if z_ob σ q11 2 then (zc (z_R σ q11 1) none (fun q14 => (if z_ob σ q14 3 then (zb (f_X3_inQueue σ q14 a7 l2) (fun r18 => (some (.inr r18, σ)))) else none))) else none)))))) else none))))) else none))) else none)
set_option maxRecDepth 100000 in
def f_X9_message (σ : zSt) (l0 : Nat) (l1 : Int32) (l2 : Int32) : Option ((Nat ⊕ Int32) × zSt) :=
(if z_ob σ l0 8 then (zc (z_R σ l0 0) none (fun q2 => (if z_ob σ q2 2 then (zc (z_R σ q2 1) none (fun q5 => (if z_ob σ q5 3 then (zb (f_X3_has σ q5 l1) (fun r9 => (if r9 = 0 then
(some (.inl 2, z_gr σ))
else
(zb (f_X9_isWithin σ l2 (0 : Int32) (4 : Int32)) (fun r11 => (if r11 = 0 then
(some (.inl 0, z_gr σ))
else
(zc (z_R σ l0 0) none (fun q12 => (if z_ob σ q12 2 then (zc (z_R σ q12 1) none (fun q15 => (if z_ob σ q15 3 then (zb (f_X3_value σ q15 l1 l2) (fun r19 => (some (.inr r19, σ)))) else none))) else none))))))))) else none))) else none))) else none)
set_option maxRecDepth 100000 in
def f_X9_count (σ : zSt) (l0 : Nat) (l1 : Int32) : Option ((Nat ⊕ Int32) × zSt) :=
(zb (f_X9_isWithin σ l1 (0 : Int32) (6 : Int32)) (fun r2 => (if r2 = 0 then
(some (.inl 0, z_gr σ))
else
(if z_ob σ l0 8 then (zc (z_R σ l0 0) none (fun q4 => (if z_ob σ q4 2 then (zc (z_R σ q4 3) none (fun q7 => (if z_ob σ q7 0 then (zb (f_X0_value σ q7 l1) (fun r11 => (some (.inr r11, σ)))) else none))) else none))) else none))))
set_option maxRecDepth 100000 in
def f_X9_isNoisy (σ : zSt) (l0 : Nat) (l1 : Int32) : Option ((Nat ⊕ Int32) × zSt) :=
(zb (f_X9_isWithin σ l1 (0 : Int32) (1000000 : Int32)) (fun r2 => (if r2 = 0 then
(some (.inl 0, z_gr σ))
else
(if z_ob σ l0 8 then (zc (z_R σ l0 0) none (fun q4 => (if z_ob σ q4 2 then (zc (z_R σ q4 2) none (fun q7 => (if z_ob σ q7 4 then (zb (f_X4_touch σ q7 l1 l1) (fun r11 => (if z_bl r11 then (some (.inr r11, σ)) else none))) else none))) else none))) else none))))
set_option maxRecDepth 100000 in
def f_X9_visit (σ : zSt) (l0 : Nat) (l1 : Int32) (l2 : Int32) : Option ((Nat ⊕ Int32) × zSt) :=
(if z_ob σ l0 8 then (zc (z_R σ l0 0) none (fun q2 => (if z_ob σ q2 2 then (zb (f_X2_logLength σ q2) (fun r6 => (zb (f_X9_isWithin σ l1 (0 : Int32) (r6 - (1 : Int32))) (fun r8 => (if r8 = 0 then
(some (.inl 2, z_gr σ))
else
(zb (f_X9_isWithin σ l2 (0 : Int32) (3 : Int32)) (fun r10 => (if r10 = 0 then
(some (.inl 0, z_gr σ))
else
(zc (z_R σ l0 0) none (fun q11 => (if z_ob σ q11 2 then (zb (f_X2_logValue σ q11 l1 l2) (fun r15 => (some (.inr r15, σ)))) else none))))))))))) else none))) else none)
set_option maxRecDepth 100000 in
def f_X9_waitOf_50 (σ : zSt) : Option ((Nat ⊕ Int32) × zSt) :=
(some (.inl 1, z_gr σ))
set_option maxRecDepth 100000 in
def f_X9_waitOf_113 (σ : zSt) (l2 : Int32) : Option ((Nat ⊕ Int32) × zSt) :=
(some (.inr l2, σ))
set_option maxRecDepth 100000 in
def b_X9_waitOf_75 (l0 : Nat) (l1 : Int32) (σ : zSt) (l2 : Int32) (l3 : Int32) : Option ((zSt × Int32 × Int32) ⊕ ((Nat ⊕ Int32) × zSt)) :=
(if (300 : Int32) ≤ l3 then
(zex (f_X9_waitOf_113 σ l2))
else
(if l2 = (-1 : Int32) then
(if z_ob σ l0 8 then (zc (z_R σ l0 1) none (fun q4 => (zb (f_X8_makeVisit σ q4) (fun σ7 => (if z_ob σ7 l0 8 then (zc (z_R σ7 l0 1) none (fun q9 => (if z_ob σ7 q9 2 then (zc (z_R σ7 q9 1) none (fun q12 => (if z_ob σ7 q12 3 then (zb (f_X3_value σ7 q12 l1 (4 : Int32)) (fun r16 => (some (.inl (σ7, r16, (l3 + (1 : Int32))))))) else none))) else none))) else none))))) else none)
else
(zex (f_X9_waitOf_113 σ l2))))
set_option maxRecDepth 100000 in
def f_X9_waitOf_75 (l0 : Nat) (l1 : Int32) (σ : zSt) (l2 : Int32) (l3 : Int32) : Option ((Nat ⊕ Int32) × zSt) := zloop (fun (t : zSt × Int32 × Int32) => b_X9_waitOf_75 l0 l1 t.1 t.2.1 t.2.2) zN (σ, l2, l3)
set_option maxRecDepth 100000 in
def f_X9_waitOf (σ : zSt) (l0 : Nat) (l1 : Int32) : Option ((Nat ⊕ Int32) × zSt) :=
(if z_ob σ l0 8 then (zc (z_R σ l0 0) none (fun q2 => (if z_ob σ q2 2 then (zc (z_R σ q2 1) none (fun q5 => (if z_ob σ q5 3 then (zb (f_X3_has σ q5 l1) (fun r9 => (if r9 = 0 then
(some (.inl 2, z_gr σ))
else
(zc (z_R σ l0 0) none (fun q10 => (if z_ob σ q10 2 then (zc (z_R σ q10 1) none (fun q13 => (if z_ob σ q13 3 then (zb (f_X3_value σ q13 l1 (4 : Int32)) (fun r17 => (if r17 = (-1 : Int32) then
(zc (z_R σ l0 0) none (fun q18 => (if z_ob σ q18 2 then (zb (f_X2_isTooLate σ q18) (fun r22 => (if r22 = 0 then
(zc (z_R σ l0 1) none (fun q23 => (zc (z_R σ l0 0) none (fun q25 => (if z_ob σ q23 2 then (zb (f_X2_copyFrom σ q23 q25) (fun σ29 => (f_X9_waitOf_75 l0 l1 σ29 (-1 : Int32) (0 : Int32)))) else none)))))
else
(f_X9_waitOf_50 σ)))) else none)))
else
(f_X9_waitOf_50 σ)))) else none))) else none)))))) else none))) else none))) else none)
set_option maxRecDepth 100000 in
def f_X9_completeAfter_82 (σ : zSt) (s0 : Int32) : Option ((Nat ⊕ Int32) × zSt) :=
(some (.inr s0, σ))
set_option maxRecDepth 100000 in
def b_X9_completeAfter_33 (l0 : Nat) (σ : zSt) (l1 : Int32) : Option ((zSt × Int32) ⊕ ((Nat ⊕ Int32) × zSt)) :=
(if (300 : Int32) ≤ l1 then
(zex (if z_ob σ l0 8 then (zc (z_R σ l0 1) none (fun q2 => (if z_ob σ q2 2 then (zb (f_X2_isComplete σ q2) (fun r6 => (if r6 = 0 then
(f_X9_completeAfter_82 σ (-1 : Int32))
else
(f_X9_completeAfter_82 σ (300 : Int32))))) else none))) else none))
else
(if z_ob σ l0 8 then (zc (z_R σ l0 1) none (fun q9 => (if z_ob σ q9 2 then (zb (f_X2_isComplete σ q9) (fun r13 => (if r13 = 0 then
(zc (z_R σ l0 1) none (fun q14 => (zb (f_X8_makeVisit σ q14) (fun σ17 => (some (.inl (σ17, (l1 + (1 : Int32)))))))))
else
(zex (some (.inr l1, σ)))))) else none))) else none))
set_option maxRecDepth 100000 in
def f_X9_completeAfter_33 (l0 : Nat) (σ : zSt) (l1 : Int32) : Option ((Nat ⊕ Int32) × zSt) := zloop (fun (t : zSt × Int32) => b_X9_completeAfter_33 l0 t.1 t.2) zN (σ, l1)
set_option maxRecDepth 100000 in
def f_X9_completeAfter (σ : zSt) (l0 : Nat) : Option ((Nat ⊕ Int32) × zSt) :=
(if z_ob σ l0 8 then (zc (z_R σ l0 0) none (fun q2 => (if z_ob σ q2 2 then (zb (f_X2_isTooLate σ q2) (fun r6 => (if r6 = 0 then
(zc (z_R σ l0 1) none (fun q7 => (zc (z_R σ l0 0) none (fun q9 => (if z_ob σ q7 2 then (zb (f_X2_copyFrom σ q7 q9) (fun σ13 => (f_X9_completeAfter_33 l0 σ13 (0 : Int32)))) else none)))))
else
(some (.inl 1, z_gr σ))))) else none))) else none)
set_option maxRecDepth 100000 in
def b_X9_leastTarget_43 (l0 : Nat) (l1 : Int32) (σ : zSt) (l2 : Int32) : Option ((zSt × Int32) ⊕ ((Nat ⊕ Int32) × zSt)) :=
(if (400 : Int32) < l2 then
(zex (some (.inr (-1 : Int32), σ)))
else
(if z_ob σ l0 8 then (zb2 (f_X9_sendsAll σ l0 l2 l1) (fun r4 σ5 => (if r4 = 0 then
(some (.inl (σ5, (l2 + (20 : Int32)))))
else
(zex (some (.inr l2, σ5)))))) else none))
set_option maxRecDepth 100000 in
def f_X9_leastTarget_43 (l0 : Nat) (l1 : Int32) (σ : zSt) (l2 : Int32) : Option ((Nat ⊕ Int32) × zSt) := zloop (fun (t : zSt × Int32) => b_X9_leastTarget_43 l0 l1 t.1 t.2) zN (σ, l2)
set_option maxRecDepth 100000 in
def f_X9_leastTarget (σ : zSt) (l0 : Nat) (l1 : Int32) : Option ((Nat ⊕ Int32) × zSt) :=
(zb (f_X9_isWithin σ l1 (0 : Int32) (100 : Int32)) (fun r2 => (if r2 = 0 then
(some (.inl 0, z_gr σ))
else
(if z_ob σ l0 8 then (zc (z_R σ l0 0) none (fun q4 => (if z_ob σ q4 2 then (zb (f_X2_isTooLate σ q4) (fun r8 => (if r8 = 0 then
(f_X9_leastTarget_43 l0 l1 σ (20 : Int32))
else
(some (.inl 1, z_gr σ))))) else none))) else none))))
set_option maxRecDepth 100000 in
def f_X9_append (σ : zSt) (l0 : Nat) (l1 : Int32) : Option ((Nat ⊕ Int32) × zSt) :=
(zb (f_X9_isWithin σ l1 (0 : Int32) (127 : Int32)) (fun r2 => (if r2 = 0 then
(some (.inl 0, z_gr σ))
else
(if z_ob σ l0 8 then (zc (z_R σ l0 3) none (fun q4 => (if z_ar σ q4 1 then (zb (f_X9_isWithin σ (z_I σ l0 4) (0 : Int32) ((Int32.ofNat (z_ln σ q4)) - (1 : Int32))) (fun r8 => (if r8 = 0 then
(some (.inl 1, z_gr σ))
else
(zc (z_R σ l0 3) none (fun q9 => (if z_ar σ q9 1 then (if z_ix (z_I σ l0 4) (z_ln σ q9) then (zl (z_pI σ q9 (z_I σ l0 4).toNatClampNeg (vp_nar .byte l1.toInt8.toInt32)) (fun σ13 => (if z_ob σ13 l0 8 then (zl (z_pI σ13 l0 4 ((z_I σ13 l0 4) + (1 : Int32))) (fun σ16 => (if z_ob σ16 l0 8 then (some (.inr (z_I σ16 l0 4), σ16)) else none))) else none))) else none) else none)))))) else none))) else none))))
set_option maxRecDepth 100000 in
def f_X9_undo (σ : zSt) (l0 : Nat) : Option ((Nat ⊕ Int32) × zSt) :=
(if z_ob σ l0 8 then (zc (z_R σ l0 2) none (fun q2 => (if z_ob σ q2 1 then (if (z_I σ q2 1) = 0 then
(some (.inl 1, z_gr σ))
else
(zc (z_R σ l0 2) none (fun q5 => (zc (z_R σ l0 0) none (fun q7 => (if z_ob σ q5 1 then (zb (f_X1_restore σ q5 q7) (fun σ11 => (if z_ob σ11 l0 8 then (zc (z_R σ11 l0 2) none (fun q13 => (if z_ob σ11 q13 1 then (some (.inr (z_I σ11 q13 1), σ11)) else none))) else none))) else none)))))) else none))) else none)
set_option maxRecDepth 100000 in
def f_L_addStation (σ : zSt) (l0 : Nat) (l1 : Int32) (l2 : Nat) : Option (Int32 × zSt) :=
(if z_ob σ l0 8 then (zb2 (f_X9_addStation σ l0 l1) (fun r2 σ3 => (zx r2 (fun k => (if k = 0 then (some ((1 : Int32), σ3)) else (if k = 1 then (some ((2 : Int32), σ3)) else none))) (fun r9 => (if z_ar σ3 l2 2 then (if z_ix (0 : Int32) (z_ln σ3 l2) then (zl (z_pJ σ3 l2 (0 : Int32).toNatClampNeg r9.toInt64) (fun σ7 => (some ((0 : Int32), σ7)))) else none) else none))))) else none)
set_option maxRecDepth 100000 in
def f_L_setOn_16 (σ : zSt) (s0 : Int64) (s1 : Int32) (s2 : Option Nat) : Option (Int32 × zSt) :=
(zc s2 none (fun a1 => (if z_ar σ a1 2 then (if z_ix s1 (z_ln σ a1) then (zl (z_pJ σ a1 s1.toNatClampNeg s0) (fun σ5 => (some ((0 : Int32), σ5)))) else none) else none)))
set_option maxRecDepth 100000 in
def f_L_setOn (σ : zSt) (l0 : Nat) (l1 : Int32) (l2 : Int32) (l3 : Nat) : Option (Int32 × zSt) :=
(if z_ob σ l0 8 then (zb2 (f_X9_setOn σ l0 l1 l2) (fun r2 σ3 => (zx r2 (fun k => (if k = 3 then (some ((1 : Int32), σ3)) else none)) (fun r9 => (if r9 = 0 then
(f_L_setOn_16 σ3 (0 : Int64) (0 : Int32) (some l3))
else
(f_L_setOn_16 σ3 (1 : Int64) (0 : Int32) (some l3))))))) else none)
set_option maxRecDepth 100000 in
def f_L_setTimes (σ : zSt) (l0 : Nat) (l1 : Int32) (l2 : Int32) (l3 : Int32) (l4 : Nat) : Option (Int32 × zSt) :=
(if z_ob σ l0 8 then (zb2 (f_X9_setTimes σ l0 l1 l2 l3) (fun r2 σ3 => (zx r2 (fun k => (if k = 0 then (some ((1 : Int32), σ3)) else none)) (fun r9 => (if z_ar σ3 l4 2 then (if z_ix (0 : Int32) (z_ln σ3 l4) then (zl (z_pJ σ3 l4 (0 : Int32).toNatClampNeg r9.toInt64) (fun σ7 => (some ((0 : Int32), σ7)))) else none) else none))))) else none)
set_option maxRecDepth 100000 in
def f_L_give (σ : zSt) (l0 : Nat) (l1 : Int32) (l2 : Int32) (l3 : Int32) (l4 : Nat) : Option (Int32 × zSt) :=
(if z_ob σ l0 8 then (zb2 (f_X9_give σ l0 l1 l2 l3) (fun r2 σ3 => (zx r2 (fun k => (if k = 3 then (some ((1 : Int32), σ3)) else (if k = 0 then (some ((2 : Int32), σ3)) else (if k = 1 then (some ((3 : Int32), σ3)) else none)))) (fun r9 => (if z_ar σ3 l4 2 then (if z_ix (0 : Int32) (z_ln σ3 l4) then (zl (z_pJ σ3 l4 (0 : Int32).toNatClampNeg r9.toInt64) (fun σ7 => (some ((0 : Int32), σ7)))) else none) else none))))) else none)
set_option maxRecDepth 100000 in
def f_L_addNoise (σ : zSt) (l0 : Nat) (l1 : Int32) (l2 : Int32) (l3 : Nat) : Option (Int32 × zSt) :=
(if z_ob σ l0 8 then (zb2 (f_X9_addNoise σ l0 l1 l2) (fun r2 σ3 => (zx r2 (fun k => (if k = 0 then (some ((1 : Int32), σ3)) else (if k = 1 then (some ((2 : Int32), σ3)) else none))) (fun r9 => (if z_ar σ3 l3 2 then (if z_ix (0 : Int32) (z_ln σ3 l3) then (zl (z_pJ σ3 l3 (0 : Int32).toNatClampNeg r9.toInt64) (fun σ7 => (some ((0 : Int32), σ7)))) else none) else none))))) else none)
set_option maxRecDepth 100000 in
def f_L_run (σ : zSt) (l0 : Nat) (l1 : Int32) (l2 : Nat) : Option (Int32 × zSt) :=
(if z_ob σ l0 8 then (zb2 (f_X9_run σ l0 l1) (fun r2 σ3 => (zx r2 (fun k => (if k = 0 then (some ((1 : Int32), σ3)) else (if k = 1 then (some ((2 : Int32), σ3)) else none))) (fun r9 => (if z_ar σ3 l2 2 then (if z_ix (0 : Int32) (z_ln σ3 l2) then (zl (z_pJ σ3 l2 (0 : Int32).toNatClampNeg r9.toInt64) (fun σ7 => (some ((0 : Int32), σ7)))) else none) else none))))) else none)
set_option maxRecDepth 100000 in
def f_L_setting (σ : zSt) (l0 : Nat) (l1 : Int32) (l2 : Nat) : Option (Int32 × zSt) :=
(if z_ob σ l0 8 then (zb2 (f_X9_setting σ l0 l1) (fun r2 σ3 => (zx r2 (fun k => (if k = 0 then (some ((1 : Int32), σ3)) else none)) (fun r9 => (if z_ar σ3 l2 2 then (if z_ix (0 : Int32) (z_ln σ3 l2) then (zl (z_pJ σ3 l2 (0 : Int32).toNatClampNeg r9.toInt64) (fun σ7 => (some ((0 : Int32), σ7)))) else none) else none))))) else none)
set_option maxRecDepth 100000 in
def f_L_station (σ : zSt) (l0 : Nat) (l1 : Int32) (l2 : Int32) (l3 : Nat) : Option (Int32 × zSt) :=
(if z_ob σ l0 8 then (zb2 (f_X9_station σ l0 l1 l2) (fun r2 σ3 => (zx r2 (fun k => (if k = 3 then (some ((1 : Int32), σ3)) else (if k = 0 then (some ((2 : Int32), σ3)) else none))) (fun r9 => (if z_ar σ3 l3 2 then (if z_ix (0 : Int32) (z_ln σ3 l3) then (zl (z_pJ σ3 l3 (0 : Int32).toNatClampNeg r9.toInt64) (fun σ7 => (some ((0 : Int32), σ7)))) else none) else none))))) else none)
set_option maxRecDepth 100000 in
def f_L_addressAt (σ : zSt) (l0 : Nat) (l1 : Int32) (l2 : Nat) : Option (Int32 × zSt) :=
(if z_ob σ l0 8 then (zb2 (f_X9_addressAt σ l0 l1) (fun r2 σ3 => (zx r2 (fun k => (if k = 2 then (some ((1 : Int32), σ3)) else none)) (fun r9 => (if z_ar σ3 l2 2 then (if z_ix (0 : Int32) (z_ln σ3 l2) then (zl (z_pJ σ3 l2 (0 : Int32).toNatClampNeg r9.toInt64) (fun σ7 => (some ((0 : Int32), σ7)))) else none) else none))))) else none)
set_option maxRecDepth 100000 in
def f_L_queued (σ : zSt) (l0 : Nat) (l1 : Int32) (l2 : Int32) (l3 : Nat) : Option (Int32 × zSt) :=
(if z_ob σ l0 8 then (zb2 (f_X9_queued σ l0 l1 l2) (fun r2 σ3 => (zx r2 (fun k => (if k = 3 then (some ((1 : Int32), σ3)) else (if k = 2 then (some ((2 : Int32), σ3)) else none))) (fun r9 => (if z_ar σ3 l3 2 then (if z_ix (0 : Int32) (z_ln σ3 l3) then (zl (z_pJ σ3 l3 (0 : Int32).toNatClampNeg r9.toInt64) (fun σ7 => (some ((0 : Int32), σ7)))) else none) else none))))) else none)
set_option maxRecDepth 100000 in
def f_L_message (σ : zSt) (l0 : Nat) (l1 : Int32) (l2 : Int32) (l3 : Nat) : Option (Int32 × zSt) :=
(if z_ob σ l0 8 then (zb2 (f_X9_message σ l0 l1 l2) (fun r2 σ3 => (zx r2 (fun k => (if k = 2 then (some ((1 : Int32), σ3)) else (if k = 0 then (some ((2 : Int32), σ3)) else none))) (fun r9 => (if z_ar σ3 l3 2 then (if z_ix (0 : Int32) (z_ln σ3 l3) then (zl (z_pJ σ3 l3 (0 : Int32).toNatClampNeg r9.toInt64) (fun σ7 => (some ((0 : Int32), σ7)))) else none) else none))))) else none)
set_option maxRecDepth 100000 in
def f_L_count (σ : zSt) (l0 : Nat) (l1 : Int32) (l2 : Nat) : Option (Int32 × zSt) :=
(if z_ob σ l0 8 then (zb2 (f_X9_count σ l0 l1) (fun r2 σ3 => (zx r2 (fun k => (if k = 0 then (some ((1 : Int32), σ3)) else none)) (fun r9 => (if z_ar σ3 l2 2 then (if z_ix (0 : Int32) (z_ln σ3 l2) then (zl (z_pJ σ3 l2 (0 : Int32).toNatClampNeg r9.toInt64) (fun σ7 => (some ((0 : Int32), σ7)))) else none) else none))))) else none)
set_option maxRecDepth 100000 in
def f_L_isNoisy_15 (σ : zSt) (s0 : Int64) (s1 : Int32) (s2 : Option Nat) : Option (Int32 × zSt) :=
(zc s2 none (fun a1 => (if z_ar σ a1 2 then (if z_ix s1 (z_ln σ a1) then (zl (z_pJ σ a1 s1.toNatClampNeg s0) (fun σ5 => (some ((0 : Int32), σ5)))) else none) else none)))
set_option maxRecDepth 100000 in
def f_L_isNoisy (σ : zSt) (l0 : Nat) (l1 : Int32) (l2 : Nat) : Option (Int32 × zSt) :=
(if z_ob σ l0 8 then (zb2 (f_X9_isNoisy σ l0 l1) (fun r2 σ3 => (zx r2 (fun k => (if k = 0 then (some ((1 : Int32), σ3)) else none)) (fun r9 => (if r9 = 0 then
(f_L_isNoisy_15 σ3 (0 : Int64) (0 : Int32) (some l2))
else
(f_L_isNoisy_15 σ3 (1 : Int64) (0 : Int32) (some l2))))))) else none)
set_option maxRecDepth 100000 in
def f_L_visit (σ : zSt) (l0 : Nat) (l1 : Int32) (l2 : Int32) (l3 : Nat) : Option (Int32 × zSt) :=
(if z_ob σ l0 8 then (zb2 (f_X9_visit σ l0 l1 l2) (fun r2 σ3 => (zx r2 (fun k => (if k = 2 then (some ((1 : Int32), σ3)) else (if k = 0 then (some ((2 : Int32), σ3)) else none))) (fun r9 => (if z_ar σ3 l3 2 then (if z_ix (0 : Int32) (z_ln σ3 l3) then (zl (z_pJ σ3 l3 (0 : Int32).toNatClampNeg r9.toInt64) (fun σ7 => (some ((0 : Int32), σ7)))) else none) else none))))) else none)
set_option maxRecDepth 100000 in
def f_L_waitOf (σ : zSt) (l0 : Nat) (l1 : Int32) (l2 : Nat) : Option (Int32 × zSt) :=
(if z_ob σ l0 8 then (zb2 (f_X9_waitOf σ l0 l1) (fun r2 σ3 => (zx r2 (fun k => (if k = 2 then (some ((1 : Int32), σ3)) else (if k = 1 then (some ((2 : Int32), σ3)) else none))) (fun r9 => (if z_ar σ3 l2 2 then (if z_ix (0 : Int32) (z_ln σ3 l2) then (zl (z_pJ σ3 l2 (0 : Int32).toNatClampNeg r9.toInt64) (fun σ7 => (some ((0 : Int32), σ7)))) else none) else none))))) else none)
set_option maxRecDepth 100000 in
def f_L_completeAfter (σ : zSt) (l0 : Nat) (l1 : Nat) : Option (Int32 × zSt) :=
(if z_ob σ l0 8 then (zb2 (f_X9_completeAfter σ l0) (fun r2 σ3 => (zx r2 (fun k => (if k = 1 then (some ((1 : Int32), σ3)) else none)) (fun r9 => (if z_ar σ3 l1 2 then (if z_ix (0 : Int32) (z_ln σ3 l1) then (zl (z_pJ σ3 l1 (0 : Int32).toNatClampNeg r9.toInt64) (fun σ7 => (some ((0 : Int32), σ7)))) else none) else none))))) else none)
set_option maxRecDepth 100000 in
def f_L_leastTarget (σ : zSt) (l0 : Nat) (l1 : Int32) (l2 : Nat) : Option (Int32 × zSt) :=
(if z_ob σ l0 8 then (zb2 (f_X9_leastTarget σ l0 l1) (fun r2 σ3 => (zx r2 (fun k => (if k = 0 then (some ((1 : Int32), σ3)) else (if k = 1 then (some ((2 : Int32), σ3)) else none))) (fun r9 => (if z_ar σ3 l2 2 then (if z_ix (0 : Int32) (z_ln σ3 l2) then (zl (z_pJ σ3 l2 (0 : Int32).toNatClampNeg r9.toInt64) (fun σ7 => (some ((0 : Int32), σ7)))) else none) else none))))) else none)
set_option maxRecDepth 100000 in
def f_L_append (σ : zSt) (l0 : Nat) (l1 : Int32) (l2 : Nat) : Option (Int32 × zSt) :=
(if z_ob σ l0 8 then (zb2 (f_X9_append σ l0 l1) (fun r2 σ3 => (zx r2 (fun k => (if k = 0 then (some ((1 : Int32), σ3)) else (if k = 1 then (some ((2 : Int32), σ3)) else none))) (fun r9 => (if z_ar σ3 l2 2 then (if z_ix (0 : Int32) (z_ln σ3 l2) then (zl (z_pJ σ3 l2 (0 : Int32).toNatClampNeg r9.toInt64) (fun σ7 => (some ((0 : Int32), σ7)))) else none) else none))))) else none)
set_option maxRecDepth 100000 in
def f_L_undo (σ : zSt) (l0 : Nat) (l1 : Nat) : Option (Int32 × zSt) :=
(if z_ob σ l0 8 then (zb2 (f_X9_undo σ l0) (fun r2 σ3 => (zx r2 (fun k => (if k = 1 then (some ((1 : Int32), σ3)) else none)) (fun r9 => (if z_ar σ3 l1 2 then (if z_ix (0 : Int32) (z_ln σ3 l1) then (zl (z_pJ σ3 l1 (0 : Int32).toNatClampNeg r9.toInt64) (fun σ7 => (some ((0 : Int32), σ7)))) else none) else none))))) else none)
set_option maxRecDepth 100000 in
def f_L_law_1539 (xs : Nat → Int32) (L : Nat) (σ : zSt) (l1 : Nat) (l2 : Nat) (l3 : Nat) (l4 : Int32) : Option ((zSt × Int32) ⊕ (Int32)) :=
(some (.inl (σ, (l4 + (4 : Int32)))))
set_option maxRecDepth 100000 in
def f_L_law_213 (xs : Nat → Int32) (L : Nat) (σ : zSt) (l1 : Nat) (l2 : Nat) (l3 : Nat) (l4 : Int32) : Option ((zSt × Int32) ⊕ (Int32)) :=
(f_L_law_1539 xs L σ l1 l2 l3 l4)
set_option maxRecDepth 100000 in
def f_L_law_160 (xs : Nat → Int32) (L : Nat) (σ : zSt) (l1 : Nat) (l2 : Nat) (l3 : Nat) (l4 : Int32) : Option ((zSt × Int32) ⊕ (Int32)) :=
(if z_ix (l4 + (1 : Int32)) L then (zb2 (f_L_addStation σ l1 (xs (l4 + (1 : Int32)).toNatClampNeg) l3) (fun r3 σ4 => (if z_ix (l4 + (1 : Int32)) L then (if z_ob σ4 l2 9 then (zb2 (f_X10_addStation σ4 l2 (xs (l4 + (1 : Int32)).toNatClampNeg)) (fun r8 σ9 => (if z_ob σ9 l2 9 then (zb (f_X10_thrown σ9 l2) (fun r12 => (if r12 = r3 then
(if r3 = 0 then
(if z_ar σ9 l3 2 then (if z_ix (0 : Int32) (z_ln σ9 l3) then (if (lg_cmp (z_J σ9 l3 (0 : Int32).toNatClampNeg) r8.toInt64) = 0 then
(f_L_law_213 xs L σ9 l1 l2 l3 l4)
else
(zex (some (0 : Int32)))) else none) else none)
else
(f_L_law_213 xs L σ9 l1 l2 l3 l4))
else
(zex (some (0 : Int32)))))) else none))) else none) else none))) else none)
set_option maxRecDepth 100000 in
def f_L_law_304 (xs : Nat → Int32) (L : Nat) (σ : zSt) (l1 : Nat) (l2 : Nat) (l3 : Nat) (l4 : Int32) : Option ((zSt × Int32) ⊕ (Int32)) :=
(f_L_law_1539 xs L σ l1 l2 l3 l4)
set_option maxRecDepth 100000 in
def f_L_law_298 (xs : Nat → Int32) (L : Nat) (σ : zSt) (l1 : Nat) (l2 : Nat) (l3 : Nat) (l4 : Int32) (s0 : Int64) (s1 : Int64) : Option ((zSt × Int32) ⊕ (Int32)) :=
(if (lg_cmp s1 s0) = 0 then
(f_L_law_304 xs L σ l1 l2 l3 l4)
else
(zex (some (0 : Int32))))
set_option maxRecDepth 100000 in
def f_L_law_264 (xs : Nat → Int32) (L : Nat) (σ : zSt) (l1 : Nat) (l2 : Nat) (l3 : Nat) (l4 : Int32) (l5 : Int32) (s0 : Int32) (s1 : Int32) (s2 : Option Nat) : Option ((zSt × Int32) ⊕ (Int32)) :=
(zc s2 none (fun a1 => (if z_ob σ a1 9 then (zb2 (f_X10_setOn σ a1 s1 s0) (fun r5 σ6 => (if z_ob σ6 l2 9 then (zb (f_X10_thrown σ6 l2) (fun r9 => (if r9 = l5 then
(if l5 = 0 then
(if z_ar σ6 l3 2 then (if z_ix (0 : Int32) (z_ln σ6 l3) then (if r5 = 0 then
(f_L_law_298 xs L σ6 l1 l2 l3 l4 (0 : Int64) (z_J σ6 l3 (0 : Int32).toNatClampNeg))
else
(f_L_law_298 xs L σ6 l1 l2 l3 l4 (1 : Int64) (z_J σ6 l3 (0 : Int32).toNatClampNeg))) else none) else none)
else
(f_L_law_304 xs L σ6 l1 l2 l3 l4))
else
(zex (some (0 : Int32)))))) else none))) else none)))
set_option maxRecDepth 100000 in
def f_L_law_237 (xs : Nat → Int32) (L : Nat) (σ : zSt) (l1 : Nat) (l2 : Nat) (l3 : Nat) (l4 : Int32) (s0 : Int32) (s1 : Int32) (s2 : Option Nat) : Option ((zSt × Int32) ⊕ (Int32)) :=
(zc s2 none (fun a1 => (zb2 (f_L_setOn σ a1 s1 s0 l3) (fun r4 σ5 => (if z_ix (l4 + (1 : Int32)) L then (if z_ix (l4 + (2 : Int32)) L then (if (xs (l4 + (2 : Int32)).toNatClampNeg) = 0 then
(f_L_law_264 xs L σ5 l1 l2 l3 l4 r4 (0 : Int32) (xs (l4 + (1 : Int32)).toNatClampNeg) (some l2))
else
(f_L_law_264 xs L σ5 l1 l2 l3 l4 r4 (1 : Int32) (xs (l4 + (1 : Int32)).toNatClampNeg) (some l2))) else none) else none)))))
set_option maxRecDepth 100000 in
def f_L_law_216 (xs : Nat → Int32) (L : Nat) (σ : zSt) (l1 : Nat) (l2 : Nat) (l3 : Nat) (l4 : Int32) : Option ((zSt × Int32) ⊕ (Int32)) :=
(if z_ix (l4 + (1 : Int32)) L then (if z_ix (l4 + (2 : Int32)) L then (if (xs (l4 + (2 : Int32)).toNatClampNeg) = 0 then
(f_L_law_237 xs L σ l1 l2 l3 l4 (0 : Int32) (xs (l4 + (1 : Int32)).toNatClampNeg) (some l1))
else
(f_L_law_237 xs L σ l1 l2 l3 l4 (1 : Int32) (xs (l4 + (1 : Int32)).toNatClampNeg) (some l1))) else none) else none)
set_option maxRecDepth 100000 in
def f_L_law_384 (xs : Nat → Int32) (L : Nat) (σ : zSt) (l1 : Nat) (l2 : Nat) (l3 : Nat) (l4 : Int32) : Option ((zSt × Int32) ⊕ (Int32)) :=
(f_L_law_1539 xs L σ l1 l2 l3 l4)
set_option maxRecDepth 100000 in
def f_L_law_307 (xs : Nat → Int32) (L : Nat) (σ : zSt) (l1 : Nat) (l2 : Nat) (l3 : Nat) (l4 : Int32) : Option ((zSt × Int32) ⊕ (Int32)) :=
(if z_ix (l4 + (1 : Int32)) L then (if z_ix (l4 + (2 : Int32)) L then (if z_ix (l4 + (3 : Int32)) L then (zb2 (f_L_setTimes σ l1 (xs (l4 + (1 : Int32)).toNatClampNeg) (xs (l4 + (2 : Int32)).toNatClampNeg) (xs (l4 + (3 : Int32)).toNatClampNeg) l3) (fun r5 σ6 => (if z_ix (l4 + (1 : Int32)) L then (if z_ix (l4 + (2 : Int32)) L then (if z_ix (l4 + (3 : Int32)) L then (if z_ob σ6 l2 9 then (zb2 (f_X10_setTimes σ6 l2 (xs (l4 + (1 : Int32)).toNatClampNeg) (xs (l4 + (2 : Int32)).toNatClampNeg) (xs (l4 + (3 : Int32)).toNatClampNeg)) (fun r12 σ13 => (if z_ob σ13 l2 9 then (zb (f_X10_thrown σ13 l2) (fun r16 => (if r16 = r5 then
(if r5 = 0 then
(if z_ar σ13 l3 2 then (if z_ix (0 : Int32) (z_ln σ13 l3) then (if (lg_cmp (z_J σ13 l3 (0 : Int32).toNatClampNeg) r12.toInt64) = 0 then
(f_L_law_384 xs L σ13 l1 l2 l3 l4)
else
(zex (some (0 : Int32)))) else none) else none)
else
(f_L_law_384 xs L σ13 l1 l2 l3 l4))
else
(zex (some (0 : Int32)))))) else none))) else none) else none) else none) else none))) else none) else none) else none)
set_option maxRecDepth 100000 in
def f_L_law_464 (xs : Nat → Int32) (L : Nat) (σ : zSt) (l1 : Nat) (l2 : Nat) (l3 : Nat) (l4 : Int32) : Option ((zSt × Int32) ⊕ (Int32)) :=
(f_L_law_1539 xs L σ l1 l2 l3 l4)
set_option maxRecDepth 100000 in
def f_L_law_387 (xs : Nat → Int32) (L : Nat) (σ : zSt) (l1 : Nat) (l2 : Nat) (l3 : Nat) (l4 : Int32) : Option ((zSt × Int32) ⊕ (Int32)) :=
(if z_ix (l4 + (1 : Int32)) L then (if z_ix (l4 + (2 : Int32)) L then (if z_ix (l4 + (3 : Int32)) L then (zb2 (f_L_give σ l1 (xs (l4 + (1 : Int32)).toNatClampNeg) (xs (l4 + (2 : Int32)).toNatClampNeg) (xs (l4 + (3 : Int32)).toNatClampNeg) l3) (fun r5 σ6 => (if z_ix (l4 + (1 : Int32)) L then (if z_ix (l4 + (2 : Int32)) L then (if z_ix (l4 + (3 : Int32)) L then (if z_ob σ6 l2 9 then (zb2 (f_X10_give σ6 l2 (xs (l4 + (1 : Int32)).toNatClampNeg) (xs (l4 + (2 : Int32)).toNatClampNeg) (xs (l4 + (3 : Int32)).toNatClampNeg)) (fun r12 σ13 => (if z_ob σ13 l2 9 then (zb (f_X10_thrown σ13 l2) (fun r16 => (if r16 = r5 then
(if r5 = 0 then
(if z_ar σ13 l3 2 then (if z_ix (0 : Int32) (z_ln σ13 l3) then (if (lg_cmp (z_J σ13 l3 (0 : Int32).toNatClampNeg) r12.toInt64) = 0 then
(f_L_law_464 xs L σ13 l1 l2 l3 l4)
else
(zex (some (0 : Int32)))) else none) else none)
else
(f_L_law_464 xs L σ13 l1 l2 l3 l4))
else
(zex (some (0 : Int32)))))) else none))) else none) else none) else none) else none))) else none) else none) else none)
set_option maxRecDepth 100000 in
def f_L_law_532 (xs : Nat → Int32) (L : Nat) (σ : zSt) (l1 : Nat) (l2 : Nat) (l3 : Nat) (l4 : Int32) : Option ((zSt × Int32) ⊕ (Int32)) :=
(f_L_law_1539 xs L σ l1 l2 l3 l4)
set_option maxRecDepth 100000 in
def f_L_law_467 (xs : Nat → Int32) (L : Nat) (σ : zSt) (l1 : Nat) (l2 : Nat) (l3 : Nat) (l4 : Int32) : Option ((zSt × Int32) ⊕ (Int32)) :=
(if z_ix (l4 + (1 : Int32)) L then (if z_ix (l4 + (2 : Int32)) L then (zb2 (f_L_addNoise σ l1 (xs (l4 + (1 : Int32)).toNatClampNeg) (xs (l4 + (2 : Int32)).toNatClampNeg) l3) (fun r4 σ5 => (if z_ix (l4 + (1 : Int32)) L then (if z_ix (l4 + (2 : Int32)) L then (if z_ob σ5 l2 9 then (zb2 (f_X10_addNoise σ5 l2 (xs (l4 + (1 : Int32)).toNatClampNeg) (xs (l4 + (2 : Int32)).toNatClampNeg)) (fun r10 σ11 => (if z_ob σ11 l2 9 then (zb (f_X10_thrown σ11 l2) (fun r14 => (if r14 = r4 then
(if r4 = 0 then
(if z_ar σ11 l3 2 then (if z_ix (0 : Int32) (z_ln σ11 l3) then (if (lg_cmp (z_J σ11 l3 (0 : Int32).toNatClampNeg) r10.toInt64) = 0 then
(f_L_law_532 xs L σ11 l1 l2 l3 l4)
else
(zex (some (0 : Int32)))) else none) else none)
else
(f_L_law_532 xs L σ11 l1 l2 l3 l4))
else
(zex (some (0 : Int32)))))) else none))) else none) else none) else none))) else none) else none)
set_option maxRecDepth 100000 in
def f_L_law_588 (xs : Nat → Int32) (L : Nat) (σ : zSt) (l1 : Nat) (l2 : Nat) (l3 : Nat) (l4 : Int32) : Option ((zSt × Int32) ⊕ (Int32)) :=
(f_L_law_1539 xs L σ l1 l2 l3 l4)
set_option maxRecDepth 100000 in
def f_L_law_535 (xs : Nat → Int32) (L : Nat) (σ : zSt) (l1 : Nat) (l2 : Nat) (l3 : Nat) (l4 : Int32) : Option ((zSt × Int32) ⊕ (Int32)) :=
(if z_ix (l4 + (1 : Int32)) L then (zb2 (f_L_run σ l1 (xs (l4 + (1 : Int32)).toNatClampNeg) l3) (fun r3 σ4 => (if z_ix (l4 + (1 : Int32)) L then (if z_ob σ4 l2 9 then (zb2 (f_X10_run σ4 l2 (xs (l4 + (1 : Int32)).toNatClampNeg)) (fun r8 σ9 => (if z_ob σ9 l2 9 then (zb (f_X10_thrown σ9 l2) (fun r12 => (if r12 = r3 then
(if r3 = 0 then
(if z_ar σ9 l3 2 then (if z_ix (0 : Int32) (z_ln σ9 l3) then (if (lg_cmp (z_J σ9 l3 (0 : Int32).toNatClampNeg) r8.toInt64) = 0 then
(f_L_law_588 xs L σ9 l1 l2 l3 l4)
else
(zex (some (0 : Int32)))) else none) else none)
else
(f_L_law_588 xs L σ9 l1 l2 l3 l4))
else
(zex (some (0 : Int32)))))) else none))) else none) else none))) else none)
set_option maxRecDepth 100000 in
def f_L_law_591 (xs : Nat → Int32) (L : Nat) (σ : zSt) (l1 : Nat) (l2 : Nat) (l3 : Nat) (l4 : Int32) : Option ((zSt × Int32) ⊕ (Int32)) :=
(if z_ob σ l1 8 then (zb2 (f_X9_loseToken σ l1) (fun r3 σ4 => (if z_ob σ4 l2 9 then (zb2 (f_X10_loseToken σ4 l2) (fun r7 σ8 => (if r3 = r7 then
(f_L_law_1539 xs L σ8 l1 l2 l3 l4)
else
(zex (some (0 : Int32)))))) else none))) else none)
set_option maxRecDepth 100000 in
def f_L_law_657 (xs : Nat → Int32) (L : Nat) (σ : zSt) (l1 : Nat) (l2 : Nat) (l3 : Nat) (l4 : Int32) : Option ((zSt × Int32) ⊕ (Int32)) :=
(f_L_law_1539 xs L σ l1 l2 l3 l4)
set_option maxRecDepth 100000 in
def f_L_law_604 (xs : Nat → Int32) (L : Nat) (σ : zSt) (l1 : Nat) (l2 : Nat) (l3 : Nat) (l4 : Int32) : Option ((zSt × Int32) ⊕ (Int32)) :=
(if z_ix (l4 + (1 : Int32)) L then (zb2 (f_L_setting σ l1 (xs (l4 + (1 : Int32)).toNatClampNeg) l3) (fun r3 σ4 => (if z_ix (l4 + (1 : Int32)) L then (if z_ob σ4 l2 9 then (zb2 (f_X10_setting σ4 l2 (xs (l4 + (1 : Int32)).toNatClampNeg)) (fun r8 σ9 => (if z_ob σ9 l2 9 then (zb (f_X10_thrown σ9 l2) (fun r12 => (if r12 = r3 then
(if r3 = 0 then
(if z_ar σ9 l3 2 then (if z_ix (0 : Int32) (z_ln σ9 l3) then (if (lg_cmp (z_J σ9 l3 (0 : Int32).toNatClampNeg) r8.toInt64) = 0 then
(f_L_law_657 xs L σ9 l1 l2 l3 l4)
else
(zex (some (0 : Int32)))) else none) else none)
else
(f_L_law_657 xs L σ9 l1 l2 l3 l4))
else
(zex (some (0 : Int32)))))) else none))) else none) else none))) else none)
set_option maxRecDepth 100000 in
def f_L_law_725 (xs : Nat → Int32) (L : Nat) (σ : zSt) (l1 : Nat) (l2 : Nat) (l3 : Nat) (l4 : Int32) : Option ((zSt × Int32) ⊕ (Int32)) :=
(f_L_law_1539 xs L σ l1 l2 l3 l4)
set_option maxRecDepth 100000 in
def f_L_law_660 (xs : Nat → Int32) (L : Nat) (σ : zSt) (l1 : Nat) (l2 : Nat) (l3 : Nat) (l4 : Int32) : Option ((zSt × Int32) ⊕ (Int32)) :=
(if z_ix (l4 + (1 : Int32)) L then (if z_ix (l4 + (2 : Int32)) L then (zb2 (f_L_station σ l1 (xs (l4 + (1 : Int32)).toNatClampNeg) (xs (l4 + (2 : Int32)).toNatClampNeg) l3) (fun r4 σ5 => (if z_ix (l4 + (1 : Int32)) L then (if z_ix (l4 + (2 : Int32)) L then (if z_ob σ5 l2 9 then (zb2 (f_X10_station σ5 l2 (xs (l4 + (1 : Int32)).toNatClampNeg) (xs (l4 + (2 : Int32)).toNatClampNeg)) (fun r10 σ11 => (if z_ob σ11 l2 9 then (zb (f_X10_thrown σ11 l2) (fun r14 => (if r14 = r4 then
(if r4 = 0 then
(if z_ar σ11 l3 2 then (if z_ix (0 : Int32) (z_ln σ11 l3) then (if (lg_cmp (z_J σ11 l3 (0 : Int32).toNatClampNeg) r10.toInt64) = 0 then
(f_L_law_725 xs L σ11 l1 l2 l3 l4)
else
(zex (some (0 : Int32)))) else none) else none)
else
(f_L_law_725 xs L σ11 l1 l2 l3 l4))
else
(zex (some (0 : Int32)))))) else none))) else none) else none) else none))) else none) else none)
set_option maxRecDepth 100000 in
def f_L_law_781 (xs : Nat → Int32) (L : Nat) (σ : zSt) (l1 : Nat) (l2 : Nat) (l3 : Nat) (l4 : Int32) : Option ((zSt × Int32) ⊕ (Int32)) :=
(f_L_law_1539 xs L σ l1 l2 l3 l4)
set_option maxRecDepth 100000 in
def f_L_law_728 (xs : Nat → Int32) (L : Nat) (σ : zSt) (l1 : Nat) (l2 : Nat) (l3 : Nat) (l4 : Int32) : Option ((zSt × Int32) ⊕ (Int32)) :=
(if z_ix (l4 + (1 : Int32)) L then (zb2 (f_L_addressAt σ l1 (xs (l4 + (1 : Int32)).toNatClampNeg) l3) (fun r3 σ4 => (if z_ix (l4 + (1 : Int32)) L then (if z_ob σ4 l2 9 then (zb2 (f_X10_addressAt σ4 l2 (xs (l4 + (1 : Int32)).toNatClampNeg)) (fun r8 σ9 => (if z_ob σ9 l2 9 then (zb (f_X10_thrown σ9 l2) (fun r12 => (if r12 = r3 then
(if r3 = 0 then
(if z_ar σ9 l3 2 then (if z_ix (0 : Int32) (z_ln σ9 l3) then (if (lg_cmp (z_J σ9 l3 (0 : Int32).toNatClampNeg) r8.toInt64) = 0 then
(f_L_law_781 xs L σ9 l1 l2 l3 l4)
else
(zex (some (0 : Int32)))) else none) else none)
else
(f_L_law_781 xs L σ9 l1 l2 l3 l4))
else
(zex (some (0 : Int32)))))) else none))) else none) else none))) else none)
set_option maxRecDepth 100000 in
def f_L_law_849 (xs : Nat → Int32) (L : Nat) (σ : zSt) (l1 : Nat) (l2 : Nat) (l3 : Nat) (l4 : Int32) : Option ((zSt × Int32) ⊕ (Int32)) :=
(f_L_law_1539 xs L σ l1 l2 l3 l4)
set_option maxRecDepth 100000 in
def f_L_law_784 (xs : Nat → Int32) (L : Nat) (σ : zSt) (l1 : Nat) (l2 : Nat) (l3 : Nat) (l4 : Int32) : Option ((zSt × Int32) ⊕ (Int32)) :=
(if z_ix (l4 + (1 : Int32)) L then (if z_ix (l4 + (2 : Int32)) L then (zb2 (f_L_queued σ l1 (xs (l4 + (1 : Int32)).toNatClampNeg) (xs (l4 + (2 : Int32)).toNatClampNeg) l3) (fun r4 σ5 => (if z_ix (l4 + (1 : Int32)) L then (if z_ix (l4 + (2 : Int32)) L then (if z_ob σ5 l2 9 then (zb2 (f_X10_queued σ5 l2 (xs (l4 + (1 : Int32)).toNatClampNeg) (xs (l4 + (2 : Int32)).toNatClampNeg)) (fun r10 σ11 => (if z_ob σ11 l2 9 then (zb (f_X10_thrown σ11 l2) (fun r14 => (if r14 = r4 then
(if r4 = 0 then
(if z_ar σ11 l3 2 then (if z_ix (0 : Int32) (z_ln σ11 l3) then (if (lg_cmp (z_J σ11 l3 (0 : Int32).toNatClampNeg) r10.toInt64) = 0 then
(f_L_law_849 xs L σ11 l1 l2 l3 l4)
else
(zex (some (0 : Int32)))) else none) else none)
else
(f_L_law_849 xs L σ11 l1 l2 l3 l4))
else
(zex (some (0 : Int32)))))) else none))) else none) else none) else none))) else none) else none)
set_option maxRecDepth 100000 in
def f_L_law_917 (xs : Nat → Int32) (L : Nat) (σ : zSt) (l1 : Nat) (l2 : Nat) (l3 : Nat) (l4 : Int32) : Option ((zSt × Int32) ⊕ (Int32)) :=
(f_L_law_1539 xs L σ l1 l2 l3 l4)
set_option maxRecDepth 100000 in
def f_L_law_852 (xs : Nat → Int32) (L : Nat) (σ : zSt) (l1 : Nat) (l2 : Nat) (l3 : Nat) (l4 : Int32) : Option ((zSt × Int32) ⊕ (Int32)) :=
(if z_ix (l4 + (1 : Int32)) L then (if z_ix (l4 + (2 : Int32)) L then (zb2 (f_L_message σ l1 (xs (l4 + (1 : Int32)).toNatClampNeg) (xs (l4 + (2 : Int32)).toNatClampNeg) l3) (fun r4 σ5 => (if z_ix (l4 + (1 : Int32)) L then (if z_ix (l4 + (2 : Int32)) L then (if z_ob σ5 l2 9 then (zb2 (f_X10_message σ5 l2 (xs (l4 + (1 : Int32)).toNatClampNeg) (xs (l4 + (2 : Int32)).toNatClampNeg)) (fun r10 σ11 => (if z_ob σ11 l2 9 then (zb (f_X10_thrown σ11 l2) (fun r14 => (if r14 = r4 then
(if r4 = 0 then
(if z_ar σ11 l3 2 then (if z_ix (0 : Int32) (z_ln σ11 l3) then (if (lg_cmp (z_J σ11 l3 (0 : Int32).toNatClampNeg) r10.toInt64) = 0 then
(f_L_law_917 xs L σ11 l1 l2 l3 l4)
else
(zex (some (0 : Int32)))) else none) else none)
else
(f_L_law_917 xs L σ11 l1 l2 l3 l4))
else
(zex (some (0 : Int32)))))) else none))) else none) else none) else none))) else none) else none)
set_option maxRecDepth 100000 in
def f_L_law_973 (xs : Nat → Int32) (L : Nat) (σ : zSt) (l1 : Nat) (l2 : Nat) (l3 : Nat) (l4 : Int32) : Option ((zSt × Int32) ⊕ (Int32)) :=
(f_L_law_1539 xs L σ l1 l2 l3 l4)
set_option maxRecDepth 100000 in
def f_L_law_920 (xs : Nat → Int32) (L : Nat) (σ : zSt) (l1 : Nat) (l2 : Nat) (l3 : Nat) (l4 : Int32) : Option ((zSt × Int32) ⊕ (Int32)) :=
(if z_ix (l4 + (1 : Int32)) L then (zb2 (f_L_count σ l1 (xs (l4 + (1 : Int32)).toNatClampNeg) l3) (fun r3 σ4 => (if z_ix (l4 + (1 : Int32)) L then (if z_ob σ4 l2 9 then (zb2 (f_X10_count σ4 l2 (xs (l4 + (1 : Int32)).toNatClampNeg)) (fun r8 σ9 => (if z_ob σ9 l2 9 then (zb (f_X10_thrown σ9 l2) (fun r12 => (if r12 = r3 then
(if r3 = 0 then
(if z_ar σ9 l3 2 then (if z_ix (0 : Int32) (z_ln σ9 l3) then (if (lg_cmp (z_J σ9 l3 (0 : Int32).toNatClampNeg) r8.toInt64) = 0 then
(f_L_law_973 xs L σ9 l1 l2 l3 l4)
else
(zex (some (0 : Int32)))) else none) else none)
else
(f_L_law_973 xs L σ9 l1 l2 l3 l4))
else
(zex (some (0 : Int32)))))) else none))) else none) else none))) else none)
set_option maxRecDepth 100000 in
def f_L_law_1036 (xs : Nat → Int32) (L : Nat) (σ : zSt) (l1 : Nat) (l2 : Nat) (l3 : Nat) (l4 : Int32) : Option ((zSt × Int32) ⊕ (Int32)) :=
(f_L_law_1539 xs L σ l1 l2 l3 l4)
set_option maxRecDepth 100000 in
def f_L_law_1030 (xs : Nat → Int32) (L : Nat) (σ : zSt) (l1 : Nat) (l2 : Nat) (l3 : Nat) (l4 : Int32) (s0 : Int64) (s1 : Int64) : Option ((zSt × Int32) ⊕ (Int32)) :=
(if (lg_cmp s1 s0) = 0 then
(f_L_law_1036 xs L σ l1 l2 l3 l4)
else
(zex (some (0 : Int32))))
set_option maxRecDepth 100000 in
def f_L_law_976 (xs : Nat → Int32) (L : Nat) (σ : zSt) (l1 : Nat) (l2 : Nat) (l3 : Nat) (l4 : Int32) : Option ((zSt × Int32) ⊕ (Int32)) :=
(if z_ix (l4 + (1 : Int32)) L then (zb2 (f_L_isNoisy σ l1 (xs (l4 + (1 : Int32)).toNatClampNeg) l3) (fun r3 σ4 => (if z_ix (l4 + (1 : Int32)) L then (if z_ob σ4 l2 9 then (zb2 (f_X10_isNoisy σ4 l2 (xs (l4 + (1 : Int32)).toNatClampNeg)) (fun r8 σ9 => (if z_ob σ9 l2 9 then (zb (f_X10_thrown σ9 l2) (fun r12 => (if r12 = r3 then
(if r3 = 0 then
(if z_ar σ9 l3 2 then (if z_ix (0 : Int32) (z_ln σ9 l3) then (if r8 = 0 then
(f_L_law_1030 xs L σ9 l1 l2 l3 l4 (0 : Int64) (z_J σ9 l3 (0 : Int32).toNatClampNeg))
else
(f_L_law_1030 xs L σ9 l1 l2 l3 l4 (1 : Int64) (z_J σ9 l3 (0 : Int32).toNatClampNeg))) else none) else none)
else
(f_L_law_1036 xs L σ9 l1 l2 l3 l4))
else
(zex (some (0 : Int32)))))) else none))) else none) else none))) else none)
set_option maxRecDepth 100000 in
def f_L_law_1039 (xs : Nat → Int32) (L : Nat) (σ : zSt) (l1 : Nat) (l2 : Nat) (l3 : Nat) (l4 : Int32) : Option ((zSt × Int32) ⊕ (Int32)) :=
(if z_ob σ l1 8 then (zb (f_X9_logged σ l1) (fun r3 => (if z_ob σ l2 9 then (zb2 (f_X10_logged σ l2) (fun r6 σ7 => (if r3 = r6 then
(f_L_law_1539 xs L σ7 l1 l2 l3 l4)
else
(zex (some (0 : Int32)))))) else none))) else none)
set_option maxRecDepth 100000 in
def f_L_law_1117 (xs : Nat → Int32) (L : Nat) (σ : zSt) (l1 : Nat) (l2 : Nat) (l3 : Nat) (l4 : Int32) : Option ((zSt × Int32) ⊕ (Int32)) :=
(f_L_law_1539 xs L σ l1 l2 l3 l4)
set_option maxRecDepth 100000 in
def f_L_law_1052 (xs : Nat → Int32) (L : Nat) (σ : zSt) (l1 : Nat) (l2 : Nat) (l3 : Nat) (l4 : Int32) : Option ((zSt × Int32) ⊕ (Int32)) :=
(if z_ix (l4 + (1 : Int32)) L then (if z_ix (l4 + (2 : Int32)) L then (zb2 (f_L_visit σ l1 (xs (l4 + (1 : Int32)).toNatClampNeg) (xs (l4 + (2 : Int32)).toNatClampNeg) l3) (fun r4 σ5 => (if z_ix (l4 + (1 : Int32)) L then (if z_ix (l4 + (2 : Int32)) L then (if z_ob σ5 l2 9 then (zb2 (f_X10_visit σ5 l2 (xs (l4 + (1 : Int32)).toNatClampNeg) (xs (l4 + (2 : Int32)).toNatClampNeg)) (fun r10 σ11 => (if z_ob σ11 l2 9 then (zb (f_X10_thrown σ11 l2) (fun r14 => (if r14 = r4 then
(if r4 = 0 then
(if z_ar σ11 l3 2 then (if z_ix (0 : Int32) (z_ln σ11 l3) then (if (lg_cmp (z_J σ11 l3 (0 : Int32).toNatClampNeg) r10.toInt64) = 0 then
(f_L_law_1117 xs L σ11 l1 l2 l3 l4)
else
(zex (some (0 : Int32)))) else none) else none)
else
(f_L_law_1117 xs L σ11 l1 l2 l3 l4))
else
(zex (some (0 : Int32)))))) else none))) else none) else none) else none))) else none) else none)
set_option maxRecDepth 100000 in
def f_L_law_1120 (xs : Nat → Int32) (L : Nat) (σ : zSt) (l1 : Nat) (l2 : Nat) (l3 : Nat) (l4 : Int32) : Option ((zSt × Int32) ⊕ (Int32)) :=
(if z_ob σ l1 8 then (zb (f_X9_greatestRotation σ l1) (fun r3 => (if z_ob σ l2 9 then (zb2 (f_X10_greatestRotation σ l2) (fun r6 σ7 => (if r3 = r6 then
(f_L_law_1539 xs L σ7 l1 l2 l3 l4)
else
(zex (some (0 : Int32)))))) else none))) else none)
set_option maxRecDepth 100000 in
def f_L_law_1199 (xs : Nat → Int32) (L : Nat) (σ : zSt) (l1 : Nat) (l2 : Nat) (l3 : Nat) (l4 : Int32) : Option ((zSt × Int32) ⊕ (Int32)) :=
(f_L_law_1539 xs L σ l1 l2 l3 l4)
set_option maxRecDepth 100000 in
def f_L_law_1197 (xs : Nat → Int32) (L : Nat) (σ : zSt) : Option (Int32) :=
(some (0 : Int32))
set_option maxRecDepth 100000 in
def f_L_law_1168 (xs : Nat → Int32) (L : Nat) (σ : zSt) (l1 : Nat) (l2 : Nat) (l3 : Nat) (l4 : Int32) (l5 : UInt64) (s0 : Int32) (s1 : Option Nat) : Option ((zSt × Int32) ⊕ (Int32)) :=
(zc s1 none (fun a1 => (if z_ob σ a1 9 then (zb2 (f_X10_waits σ a1 s0) (fun r5 σ6 => (if (Op.cmpValue (FP.dcmp l5 r5) .l) = 0 then
(f_L_law_1199 xs L σ6 l1 l2 l3 l4)
else
(if (Op.cmpValue (FP.dcmp l5 l5) .l) = 0 then
(zex (f_L_law_1197 xs L σ6))
else
(if (Op.cmpValue (FP.dcmp r5 r5) .l) = 0 then
(zex (f_L_law_1197 xs L σ6))
else
(f_L_law_1199 xs L σ6 l1 l2 l3 l4)))))) else none)))
set_option maxRecDepth 100000 in
def f_L_law_1148 (xs : Nat → Int32) (L : Nat) (σ : zSt) (l1 : Nat) (l2 : Nat) (l3 : Nat) (l4 : Int32) (s0 : Int32) (s1 : Option Nat) : Option ((zSt × Int32) ⊕ (Int32)) :=
(zc s1 none (fun a1 => (if z_ob σ a1 8 then (zb (f_X9_waits σ a1 s0) (fun r5 => (if z_ix (l4 + (1 : Int32)) L then (if (xs (l4 + (1 : Int32)).toNatClampNeg) = 0 then
(f_L_law_1168 xs L σ l1 l2 l3 l4 r5 (0 : Int32) (some l2))
else
(f_L_law_1168 xs L σ l1 l2 l3 l4 r5 (1 : Int32) (some l2))) else none))) else none)))
set_option maxRecDepth 100000 in
def f_L_law_1133 (xs : Nat → Int32) (L : Nat) (σ : zSt) (l1 : Nat) (l2 : Nat) (l3 : Nat) (l4 : Int32) : Option ((zSt × Int32) ⊕ (Int32)) :=
(if z_ix (l4 + (1 : Int32)) L then (if (xs (l4 + (1 : Int32)).toNatClampNeg) = 0 then
(f_L_law_1148 xs L σ l1 l2 l3 l4 (0 : Int32) (some l1))
else
(f_L_law_1148 xs L σ l1 l2 l3 l4 (1 : Int32) (some l1))) else none)
set_option maxRecDepth 100000 in
def f_L_law_1240 (xs : Nat → Int32) (L : Nat) (σ : zSt) (l1 : Nat) (l2 : Nat) (l3 : Nat) (l4 : Int32) : Option ((zSt × Int32) ⊕ (Int32)) :=
(f_L_law_1539 xs L σ l1 l2 l3 l4)
set_option maxRecDepth 100000 in
def f_L_law_1238 (xs : Nat → Int32) (L : Nat) (σ : zSt) : Option (Int32) :=
(some (0 : Int32))
set_option maxRecDepth 100000 in
def f_L_law_1202 (xs : Nat → Int32) (L : Nat) (σ : zSt) (l1 : Nat) (l2 : Nat) (l3 : Nat) (l4 : Int32) : Option ((zSt × Int32) ⊕ (Int32)) :=
(if z_ob σ l1 8 then (zb (f_X9_use σ l1) (fun r3 => (if z_ob σ l2 9 then (zb2 (f_X10_use σ l2) (fun r6 σ7 => (if (Op.cmpValue (FP.dcmp r3 r6) .l) = 0 then
(f_L_law_1240 xs L σ7 l1 l2 l3 l4)
else
(if (Op.cmpValue (FP.dcmp r3 r3) .l) = 0 then
(zex (f_L_law_1238 xs L σ7))
else
(if (Op.cmpValue (FP.dcmp r6 r6) .l) = 0 then
(zex (f_L_law_1238 xs L σ7))
else
(f_L_law_1240 xs L σ7 l1 l2 l3 l4)))))) else none))) else none)
set_option maxRecDepth 100000 in
def f_L_law_1296 (xs : Nat → Int32) (L : Nat) (σ : zSt) (l1 : Nat) (l2 : Nat) (l3 : Nat) (l4 : Int32) : Option ((zSt × Int32) ⊕ (Int32)) :=
(f_L_law_1539 xs L σ l1 l2 l3 l4)
set_option maxRecDepth 100000 in
def f_L_law_1243 (xs : Nat → Int32) (L : Nat) (σ : zSt) (l1 : Nat) (l2 : Nat) (l3 : Nat) (l4 : Int32) : Option ((zSt × Int32) ⊕ (Int32)) :=
(if z_ix (l4 + (1 : Int32)) L then (zb2 (f_L_waitOf σ l1 (xs (l4 + (1 : Int32)).toNatClampNeg) l3) (fun r3 σ4 => (if z_ix (l4 + (1 : Int32)) L then (if z_ob σ4 l2 9 then (zb2 (f_X10_waitOf σ4 l2 (xs (l4 + (1 : Int32)).toNatClampNeg)) (fun r8 σ9 => (if z_ob σ9 l2 9 then (zb (f_X10_thrown σ9 l2) (fun r12 => (if r12 = r3 then
(if r3 = 0 then
(if z_ar σ9 l3 2 then (if z_ix (0 : Int32) (z_ln σ9 l3) then (if (lg_cmp (z_J σ9 l3 (0 : Int32).toNatClampNeg) r8.toInt64) = 0 then
(f_L_law_1296 xs L σ9 l1 l2 l3 l4)
else
(zex (some (0 : Int32)))) else none) else none)
else
(f_L_law_1296 xs L σ9 l1 l2 l3 l4))
else
(zex (some (0 : Int32)))))) else none))) else none) else none))) else none)
set_option maxRecDepth 100000 in
def f_L_law_1340 (xs : Nat → Int32) (L : Nat) (σ : zSt) (l1 : Nat) (l2 : Nat) (l3 : Nat) (l4 : Int32) : Option ((zSt × Int32) ⊕ (Int32)) :=
(f_L_law_1539 xs L σ l1 l2 l3 l4)
set_option maxRecDepth 100000 in
def f_L_law_1299 (xs : Nat → Int32) (L : Nat) (σ : zSt) (l1 : Nat) (l2 : Nat) (l3 : Nat) (l4 : Int32) : Option ((zSt × Int32) ⊕ (Int32)) :=
(zb2 (f_L_completeAfter σ l1 l3) (fun r2 σ3 => (if z_ob σ3 l2 9 then (zb2 (f_X10_completeAfter σ3 l2) (fun r6 σ7 => (if z_ob σ7 l2 9 then (zb (f_X10_thrown σ7 l2) (fun r10 => (if r10 = r2 then
(if r2 = 0 then
(if z_ar σ7 l3 2 then (if z_ix (0 : Int32) (z_ln σ7 l3) then (if (lg_cmp (z_J σ7 l3 (0 : Int32).toNatClampNeg) r6.toInt64) = 0 then
(f_L_law_1340 xs L σ7 l1 l2 l3 l4)
else
(zex (some (0 : Int32)))) else none) else none)
else
(f_L_law_1340 xs L σ7 l1 l2 l3 l4))
else
(zex (some (0 : Int32)))))) else none))) else none)))
set_option maxRecDepth 100000 in
def f_L_law_1396 (xs : Nat → Int32) (L : Nat) (σ : zSt) (l1 : Nat) (l2 : Nat) (l3 : Nat) (l4 : Int32) : Option ((zSt × Int32) ⊕ (Int32)) :=
(f_L_law_1539 xs L σ l1 l2 l3 l4)
set_option maxRecDepth 100000 in
def f_L_law_1343 (xs : Nat → Int32) (L : Nat) (σ : zSt) (l1 : Nat) (l2 : Nat) (l3 : Nat) (l4 : Int32) : Option ((zSt × Int32) ⊕ (Int32)) :=
(if z_ix (l4 + (1 : Int32)) L then (zb2 (f_L_leastTarget σ l1 (xs (l4 + (1 : Int32)).toNatClampNeg) l3) (fun r3 σ4 => (if z_ix (l4 + (1 : Int32)) L then (if z_ob σ4 l2 9 then (zb2 (f_X10_leastTarget σ4 l2 (xs (l4 + (1 : Int32)).toNatClampNeg)) (fun r8 σ9 => (if z_ob σ9 l2 9 then (zb (f_X10_thrown σ9 l2) (fun r12 => (if r12 = r3 then
(if r3 = 0 then
(if z_ar σ9 l3 2 then (if z_ix (0 : Int32) (z_ln σ9 l3) then (if (lg_cmp (z_J σ9 l3 (0 : Int32).toNatClampNeg) r8.toInt64) = 0 then
(f_L_law_1396 xs L σ9 l1 l2 l3 l4)
else
(zex (some (0 : Int32)))) else none) else none)
else
(f_L_law_1396 xs L σ9 l1 l2 l3 l4))
else
(zex (some (0 : Int32)))))) else none))) else none) else none))) else none)
set_option maxRecDepth 100000 in
def f_L_law_1452 (xs : Nat → Int32) (L : Nat) (σ : zSt) (l1 : Nat) (l2 : Nat) (l3 : Nat) (l4 : Int32) : Option ((zSt × Int32) ⊕ (Int32)) :=
(f_L_law_1539 xs L σ l1 l2 l3 l4)
set_option maxRecDepth 100000 in
def f_L_law_1399 (xs : Nat → Int32) (L : Nat) (σ : zSt) (l1 : Nat) (l2 : Nat) (l3 : Nat) (l4 : Int32) : Option ((zSt × Int32) ⊕ (Int32)) :=
(if z_ix (l4 + (1 : Int32)) L then (zb2 (f_L_append σ l1 (xs (l4 + (1 : Int32)).toNatClampNeg) l3) (fun r3 σ4 => (if z_ix (l4 + (1 : Int32)) L then (if z_ob σ4 l2 9 then (zb2 (f_X10_append σ4 l2 (xs (l4 + (1 : Int32)).toNatClampNeg)) (fun r8 σ9 => (if z_ob σ9 l2 9 then (zb (f_X10_thrown σ9 l2) (fun r12 => (if r12 = r3 then
(if r3 = 0 then
(if z_ar σ9 l3 2 then (if z_ix (0 : Int32) (z_ln σ9 l3) then (if (lg_cmp (z_J σ9 l3 (0 : Int32).toNatClampNeg) r8.toInt64) = 0 then
(f_L_law_1452 xs L σ9 l1 l2 l3 l4)
else
(zex (some (0 : Int32)))) else none) else none)
else
(f_L_law_1452 xs L σ9 l1 l2 l3 l4))
else
(zex (some (0 : Int32)))))) else none))) else none) else none))) else none)
set_option maxRecDepth 100000 in
def f_L_law_1455 (xs : Nat → Int32) (L : Nat) (σ : zSt) (l1 : Nat) (l2 : Nat) (l3 : Nat) (l4 : Int32) : Option ((zSt × Int32) ⊕ (Int32)) :=
(if z_ob σ l1 8 then (zb2 (f_X9_clearText σ l1) (fun r3 σ4 => (if z_ob σ4 l2 9 then (zb2 (f_X10_clearText σ4 l2) (fun r7 σ8 => (if r3 = r7 then
(f_L_law_1539 xs L σ8 l1 l2 l3 l4)
else
(zex (some (0 : Int32)))))) else none))) else none)
set_option maxRecDepth 100000 in
def f_L_law_1468 (xs : Nat → Int32) (L : Nat) (σ : zSt) (l1 : Nat) (l2 : Nat) (l3 : Nat) (l4 : Int32) : Option ((zSt × Int32) ⊕ (Int32)) :=
(if z_ob σ l1 8 then (zb2 (f_X9_parse σ l1) (fun r3 σ4 => (if z_ob σ4 l2 9 then (zb2 (f_X10_parse σ4 l2) (fun r7 σ8 => (if r3 = r7 then
(f_L_law_1539 xs L σ8 l1 l2 l3 l4)
else
(zex (some (0 : Int32)))))) else none))) else none)
set_option maxRecDepth 100000 in
def f_L_law_1522 (xs : Nat → Int32) (L : Nat) (σ : zSt) (l1 : Nat) (l2 : Nat) (l3 : Nat) (l4 : Int32) : Option ((zSt × Int32) ⊕ (Int32)) :=
(f_L_law_1539 xs L σ l1 l2 l3 l4)
set_option maxRecDepth 100000 in
def f_L_law_1481 (xs : Nat → Int32) (L : Nat) (σ : zSt) (l1 : Nat) (l2 : Nat) (l3 : Nat) (l4 : Int32) : Option ((zSt × Int32) ⊕ (Int32)) :=
(zb2 (f_L_undo σ l1 l3) (fun r2 σ3 => (if z_ob σ3 l2 9 then (zb2 (f_X10_undo σ3 l2) (fun r6 σ7 => (if z_ob σ7 l2 9 then (zb (f_X10_thrown σ7 l2) (fun r10 => (if r10 = r2 then
(if r2 = 0 then
(if z_ar σ7 l3 2 then (if z_ix (0 : Int32) (z_ln σ7 l3) then (if (lg_cmp (z_J σ7 l3 (0 : Int32).toNatClampNeg) r6.toInt64) = 0 then
(f_L_law_1522 xs L σ7 l1 l2 l3 l4)
else
(zex (some (0 : Int32)))) else none) else none)
else
(f_L_law_1522 xs L σ7 l1 l2 l3 l4))
else
(zex (some (0 : Int32)))))) else none))) else none)))
set_option maxRecDepth 100000 in
def f_L_law_1525 (xs : Nat → Int32) (L : Nat) (σ : zSt) (l1 : Nat) (l2 : Nat) (l3 : Nat) (l4 : Int32) : Option ((zSt × Int32) ⊕ (Int32)) :=
(if z_ob σ l1 8 then (zb (f_X9_digest σ l1) (fun r3 => (if z_ob σ l2 9 then (zb2 (f_X10_digest σ l2) (fun r6 σ7 => (if (lg_cmp r3 r6) = 0 then
(f_L_law_1539 xs L σ7 l1 l2 l3 l4)
else
(zex (some (0 : Int32)))))) else none))) else none)
set_option maxRecDepth 100000 in
def b_L_law_23 (xs : Nat → Int32) (L : Nat) (l1 : Nat) (l2 : Nat) (l3 : Nat) (σ : zSt) (l4 : Int32) : Option ((zSt × Int32) ⊕ (Int32)) :=
(if z_lim l4 then (if ((Int32.ofNat L) - (4 : Int32)) < l4 then
(zex (some (1 : Int32)))
else
(if z_ix l4 L then (if ((xs l4.toNatClampNeg) &&& (31 : Int32)) = (0 : Int32) then
(f_L_law_160 xs L σ l1 l2 l3 l4)
else
(if ((xs l4.toNatClampNeg) &&& (31 : Int32)) = (1 : Int32) then
(f_L_law_216 xs L σ l1 l2 l3 l4)
else
(if ((xs l4.toNatClampNeg) &&& (31 : Int32)) = (2 : Int32) then
(f_L_law_307 xs L σ l1 l2 l3 l4)
else
(if ((xs l4.toNatClampNeg) &&& (31 : Int32)) = (3 : Int32) then
(f_L_law_387 xs L σ l1 l2 l3 l4)
else
(if ((xs l4.toNatClampNeg) &&& (31 : Int32)) = (4 : Int32) then
(f_L_law_467 xs L σ l1 l2 l3 l4)
else
(if ((xs l4.toNatClampNeg) &&& (31 : Int32)) = (5 : Int32) then
(f_L_law_535 xs L σ l1 l2 l3 l4)
else
(if ((xs l4.toNatClampNeg) &&& (31 : Int32)) = (6 : Int32) then
(f_L_law_591 xs L σ l1 l2 l3 l4)
else
(if ((xs l4.toNatClampNeg) &&& (31 : Int32)) = (7 : Int32) then
(f_L_law_604 xs L σ l1 l2 l3 l4)
else
(if ((xs l4.toNatClampNeg) &&& (31 : Int32)) = (8 : Int32) then
(f_L_law_660 xs L σ l1 l2 l3 l4)
else
(if ((xs l4.toNatClampNeg) &&& (31 : Int32)) = (9 : Int32) then
(f_L_law_728 xs L σ l1 l2 l3 l4)
else
(if ((xs l4.toNatClampNeg) &&& (31 : Int32)) = (10 : Int32) then
(f_L_law_784 xs L σ l1 l2 l3 l4)
else
(if ((xs l4.toNatClampNeg) &&& (31 : Int32)) = (11 : Int32) then
(f_L_law_852 xs L σ l1 l2 l3 l4)
else
(if ((xs l4.toNatClampNeg) &&& (31 : Int32)) = (12 : Int32) then
(f_L_law_920 xs L σ l1 l2 l3 l4)
else
(if ((xs l4.toNatClampNeg) &&& (31 : Int32)) = (13 : Int32) then
(f_L_law_976 xs L σ l1 l2 l3 l4)
else
(if ((xs l4.toNatClampNeg) &&& (31 : Int32)) = (14 : Int32) then
(f_L_law_1039 xs L σ l1 l2 l3 l4)
else
(if ((xs l4.toNatClampNeg) &&& (31 : Int32)) = (15 : Int32) then
(f_L_law_1052 xs L σ l1 l2 l3 l4)
else
(if ((xs l4.toNatClampNeg) &&& (31 : Int32)) = (16 : Int32) then
(f_L_law_1120 xs L σ l1 l2 l3 l4)
else
(if ((xs l4.toNatClampNeg) &&& (31 : Int32)) = (17 : Int32) then
(f_L_law_1133 xs L σ l1 l2 l3 l4)
else
(if ((xs l4.toNatClampNeg) &&& (31 : Int32)) = (18 : Int32) then
(f_L_law_1202 xs L σ l1 l2 l3 l4)
else
(if ((xs l4.toNatClampNeg) &&& (31 : Int32)) = (19 : Int32) then
(f_L_law_1243 xs L σ l1 l2 l3 l4)
else
(if ((xs l4.toNatClampNeg) &&& (31 : Int32)) = (20 : Int32) then
(f_L_law_1299 xs L σ l1 l2 l3 l4)
else
(if ((xs l4.toNatClampNeg) &&& (31 : Int32)) = (21 : Int32) then
(f_L_law_1343 xs L σ l1 l2 l3 l4)
else
(if ((xs l4.toNatClampNeg) &&& (31 : Int32)) = (22 : Int32) then
(f_L_law_1399 xs L σ l1 l2 l3 l4)
else
(if ((xs l4.toNatClampNeg) &&& (31 : Int32)) = (23 : Int32) then
(f_L_law_1455 xs L σ l1 l2 l3 l4)
else
(if ((xs l4.toNatClampNeg) &&& (31 : Int32)) = (24 : Int32) then
(f_L_law_1468 xs L σ l1 l2 l3 l4)
else
(if ((xs l4.toNatClampNeg) &&& (31 : Int32)) = (25 : Int32) then
(f_L_law_1481 xs L σ l1 l2 l3 l4)
else
(if ((xs l4.toNatClampNeg) &&& (31 : Int32)) = (26 : Int32) then
(f_L_law_1525 xs L σ l1 l2 l3 l4)
else
(f_L_law_1539 xs L σ l1 l2 l3 l4)))))))))))))))))))))))))))) else none)) else none)
set_option maxRecDepth 100000 in
def f_L_law_23 (xs : Nat → Int32) (L : Nat) (l1 : Nat) (l2 : Nat) (l3 : Nat) (σ : zSt) (l4 : Int32) : Option (Int32) := zloop (fun (t : zSt × Int32) => b_L_law_23 xs L l1 l2 l3 t.1 t.2) zN (σ, l4)
set_option maxRecDepth 100000 in
def f_L_law (xs : Nat → Int32) (L : Nat) (σ : zSt) : Option (Int32) :=
(zl (z_nw σ (.inl 8)) (fun σ1 => (zb (f_X9_init σ1 (z_nx σ)) (fun σ4 => (zl (z_nw σ4 (.inl 9)) (fun σ5 => (zb (f_X10_init σ5 (z_nx σ4)) (fun σ8 => (zl (z_nw σ8 (.inr (2, 1))) (fun σ9 => (f_L_law_23 xs L (z_nx σ) (z_nx σ4) (z_nx σ8) σ9 (0 : Int32))))))))))))
end
section
/-! NO QUOTIENT BY A NUMBER THAT IS NONE ZERO IS NONE -/
theorem fp_le {r : UInt64} (h : r.toNat % 2 ^ 63 < 1100 * 2 ^ 52) : r &&& 0x7fffffffffffffff ≤ 0x7ff0000000000000 := by
  rw [UInt64.le_iff_toNat_le, UInt64.toNat_and]
  have e : (0x7fffffffffffffff : UInt64).toNat = 2 ^ 63 - 1 := rfl
  rw [e, Nat.and_two_pow_sub_one_eq_mod]
  have e2 : (0x7ff0000000000000 : UInt64).toNat = 2047 * 2 ^ 52 := rfl
  rw [e2]
  omega
theorem fp_divL (x : Int64) {n : Int32} (h : n.toInt ≠ 0) : FP.ddiv (FP.l2d x) (FP.i2d n) &&& 0x7fffffffffffffff ≤ 0x7ff0000000000000 := by
  have hb := FP.Core.i2d_big h
  have hm := FP.Core.ddiv_mag (a := FP.Core.l2d x) (b := FP.Core.i2d n) (K := 1088) (L := 1023) (FP.Core.l2d_mag x) hb.1 hb.2 (by decide) (by decide)
  refine fp_le ?_
  show (FP.Core.ddiv (FP.Core.l2d x) (FP.Core.i2d n)).toNat % 2 ^ 63 < _
  omega
theorem fp_divI (x : Int32) {n : Int32} (h : n.toInt ≠ 0) : FP.ddiv (FP.i2d x) (FP.i2d n) &&& 0x7fffffffffffffff ≤ 0x7ff0000000000000 := by
  have hb := FP.Core.i2d_big h
  have hm := FP.Core.ddiv_mag (a := FP.Core.i2d x) (b := FP.Core.i2d n) (K := 1056) (L := 1023) (FP.Core.i2d_mag x) hb.1 hb.2 (by decide) (by decide)
  refine fp_le ?_
  show (FP.Core.ddiv (FP.Core.i2d x) (FP.Core.i2d n)).toNat % 2 ^ 63 < _
  omega
end
